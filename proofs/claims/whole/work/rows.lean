section
-- ===== PART A: goes FIRST, ahead of the names: the tables' words, and 'selects' of the private methods out of them =====
/-- a private method of a class that the tables say can be made, by its rows of tables_1 -/
def lw_okq (q : MethodName × Nat) : Prop := (q.1.cls ≠ "java/lang/invoke/MethodHandle" ∧ q.1.cls ≠ "java/lang/invoke/VarHandle") ∧ Cond.instantiable q.1.cls q.2 ∈ tables_1 ∧ Cond.privateMethod q.1 ∈ tables_1 ∧ Cond.instanceMethod q.1 ∈ tables_1
theorem lw_p0 : lw_okq (⟨"CommonBond", "refuse", "(I)I"⟩, 10) := ⟨⟨by decide +kernel, by decide +kernel⟩, List.mem_of_getElem? (i := 23) (by decide +kernel), List.mem_of_getElem? (i := 602) (by decide +kernel), List.mem_of_getElem? (i := 603) (by decide +kernel)⟩
theorem lw_p1 : lw_okq (⟨"CommonBond", "noMember", "(I)Z"⟩, 10) := ⟨⟨by decide +kernel, by decide +kernel⟩, List.mem_of_getElem? (i := 23) (by decide +kernel), List.mem_of_getElem? (i := 614) (by decide +kernel), List.mem_of_getElem? (i := 615) (by decide +kernel)⟩
theorem lw_p2 : lw_okq (⟨"CommonBond", "tellZero", "(I)I"⟩, 10) := ⟨⟨by decide +kernel, by decide +kernel⟩, List.mem_of_getElem? (i := 23) (by decide +kernel), List.mem_of_getElem? (i := 618) (by decide +kernel), List.mem_of_getElem? (i := 619) (by decide +kernel)⟩
theorem lw_p3 : lw_okq (⟨"CommonBond", "noWeek", "(I)Z"⟩, 10) := ⟨⟨by decide +kernel, by decide +kernel⟩, List.mem_of_getElem? (i := 23) (by decide +kernel), List.mem_of_getElem? (i := 669) (by decide +kernel), List.mem_of_getElem? (i := 670) (by decide +kernel)⟩
theorem lw_p4 : lw_okq (⟨"CommonBond$Rules", "work", "(III[I)I"⟩, 8) := ⟨⟨by decide +kernel, by decide +kernel⟩, List.mem_of_getElem? (i := 235) (by decide +kernel), List.mem_of_getElem? (i := 716) (by decide +kernel), List.mem_of_getElem? (i := 717) (by decide +kernel)⟩
theorem lw_p5 : lw_okq (⟨"CommonBond", "noAsk", "(I)Z"⟩, 10) := ⟨⟨by decide +kernel, by decide +kernel⟩, List.mem_of_getElem? (i := 23) (by decide +kernel), List.mem_of_getElem? (i := 749) (by decide +kernel), List.mem_of_getElem? (i := 750) (by decide +kernel)⟩
theorem lw_p6 : lw_okq (⟨"CommonBond$Lender", "limitBy", "(II)I"⟩, 2) := ⟨⟨by decide +kernel, by decide +kernel⟩, List.mem_of_getElem? (i := 487) (by decide +kernel), List.mem_of_getElem? (i := 777) (by decide +kernel), List.mem_of_getElem? (i := 778) (by decide +kernel)⟩
theorem lw_p7 : lw_okq (⟨"CommonBond$Lender", "isBacked", "(I)Z"⟩, 2) := ⟨⟨by decide +kernel, by decide +kernel⟩, List.mem_of_getElem? (i := 487) (by decide +kernel), List.mem_of_getElem? (i := 804) (by decide +kernel), List.mem_of_getElem? (i := 805) (by decide +kernel)⟩
theorem lw_p8 : lw_okq (⟨"CommonBond", "noLoan", "(I)Z"⟩, 10) := ⟨⟨by decide +kernel, by decide +kernel⟩, List.mem_of_getElem? (i := 23) (by decide +kernel), List.mem_of_getElem? (i := 829) (by decide +kernel), List.mem_of_getElem? (i := 830) (by decide +kernel)⟩
theorem lw_p9 : lw_okq (⟨"CommonBond$Reader", "step", "()V"⟩, 11) := ⟨⟨by decide +kernel, by decide +kernel⟩, List.mem_of_getElem? (i := 441) (by decide +kernel), List.mem_of_getElem? (i := 884) (by decide +kernel), List.mem_of_getElem? (i := 885) (by decide +kernel)⟩
theorem lw_p10 : lw_okq (⟨"CommonBond$Reader", "number", "()V"⟩, 11) := ⟨⟨by decide +kernel, by decide +kernel⟩, List.mem_of_getElem? (i := 441) (by decide +kernel), List.mem_of_getElem? (i := 891) (by decide +kernel), List.mem_of_getElem? (i := 892) (by decide +kernel)⟩
theorem lw_p11 : lw_okq (⟨"CommonBond$Reader", "word", "()V"⟩, 11) := ⟨⟨by decide +kernel, by decide +kernel⟩, List.mem_of_getElem? (i := 441) (by decide +kernel), List.mem_of_getElem? (i := 898) (by decide +kernel), List.mem_of_getElem? (i := 899) (by decide +kernel)⟩
theorem lw_p12 : lw_okq (⟨"CommonBond$Reader", "wordNumber", "()I"⟩, 11) := ⟨⟨by decide +kernel, by decide +kernel⟩, List.mem_of_getElem? (i := 441) (by decide +kernel), List.mem_of_getElem? (i := 902) (by decide +kernel), List.mem_of_getElem? (i := 903) (by decide +kernel)⟩
theorem lw_p13 : lw_okq (⟨"CommonBond$Reader", "faulty", "()Z"⟩, 11) := ⟨⟨by decide +kernel, by decide +kernel⟩, List.mem_of_getElem? (i := 441) (by decide +kernel), List.mem_of_getElem? (i := 958) (by decide +kernel), List.mem_of_getElem? (i := 959) (by decide +kernel)⟩
theorem lw_p14 : lw_okq (⟨"CommonBond$Reader", "either", "(I)Z"⟩, 11) := ⟨⟨by decide +kernel, by decide +kernel⟩, List.mem_of_getElem? (i := 441) (by decide +kernel), List.mem_of_getElem? (i := 962) (by decide +kernel), List.mem_of_getElem? (i := 963) (by decide +kernel)⟩
theorem lw_p15 : lw_okq (⟨"CommonBond$Reader", "both", "(I)Z"⟩, 11) := ⟨⟨by decide +kernel, by decide +kernel⟩, List.mem_of_getElem? (i := 441) (by decide +kernel), List.mem_of_getElem? (i := 966) (by decide +kernel), List.mem_of_getElem? (i := 967) (by decide +kernel)⟩
def lw_privs_1 : List (MethodName × Nat) := [(⟨"CommonBond", "refuse", "(I)I"⟩, 10), (⟨"CommonBond", "noMember", "(I)Z"⟩, 10), (⟨"CommonBond", "tellZero", "(I)I"⟩, 10), (⟨"CommonBond", "noWeek", "(I)Z"⟩, 10), (⟨"CommonBond$Rules", "work", "(III[I)I"⟩, 8), (⟨"CommonBond", "noAsk", "(I)Z"⟩, 10), (⟨"CommonBond$Lender", "limitBy", "(II)I"⟩, 2), (⟨"CommonBond$Lender", "isBacked", "(I)Z"⟩, 2), (⟨"CommonBond", "noLoan", "(I)Z"⟩, 10), (⟨"CommonBond$Reader", "step", "()V"⟩, 11), (⟨"CommonBond$Reader", "number", "()V"⟩, 11), (⟨"CommonBond$Reader", "word", "()V"⟩, 11), (⟨"CommonBond$Reader", "wordNumber", "()I"⟩, 11), (⟨"CommonBond$Reader", "faulty", "()Z"⟩, 11), (⟨"CommonBond$Reader", "either", "(I)Z"⟩, 11), (⟨"CommonBond$Reader", "both", "(I)Z"⟩, 11)]
theorem lw_r1 : ∀ q ∈ lw_privs_1, lw_okq q := List.forall_mem_cons.mpr ⟨lw_p0, List.forall_mem_cons.mpr ⟨lw_p1, List.forall_mem_cons.mpr ⟨lw_p2, List.forall_mem_cons.mpr ⟨lw_p3, List.forall_mem_cons.mpr ⟨lw_p4, List.forall_mem_cons.mpr ⟨lw_p5, List.forall_mem_cons.mpr ⟨lw_p6, List.forall_mem_cons.mpr ⟨lw_p7, List.forall_mem_cons.mpr ⟨lw_p8, List.forall_mem_cons.mpr ⟨lw_p9, List.forall_mem_cons.mpr ⟨lw_p10, List.forall_mem_cons.mpr ⟨lw_p11, List.forall_mem_cons.mpr ⟨lw_p12, List.forall_mem_cons.mpr ⟨lw_p13, List.forall_mem_cons.mpr ⟨lw_p14, List.forall_mem_cons.mpr ⟨lw_p15, fun _ h => absurd h List.not_mem_nil⟩⟩⟩⟩⟩⟩⟩⟩⟩⟩⟩⟩⟩⟩⟩⟩
theorem lw_p16 : lw_okq (⟨"CommonBond$Reader", "denied", "(I)Z"⟩, 11) := ⟨⟨by decide +kernel, by decide +kernel⟩, List.mem_of_getElem? (i := 441) (by decide +kernel), List.mem_of_getElem? (i := 970) (by decide +kernel), List.mem_of_getElem? (i := 971) (by decide +kernel)⟩
theorem lw_p17 : lw_okq (⟨"CommonBond$Reader", "compared", "(I)Z"⟩, 11) := ⟨⟨by decide +kernel, by decide +kernel⟩, List.mem_of_getElem? (i := 441) (by decide +kernel), List.mem_of_getElem? (i := 974) (by decide +kernel), List.mem_of_getElem? (i := 975) (by decide +kernel)⟩
theorem lw_p18 : lw_okq (⟨"CommonBond$Reader", "summed", "(I)Z"⟩, 11) := ⟨⟨by decide +kernel, by decide +kernel⟩, List.mem_of_getElem? (i := 441) (by decide +kernel), List.mem_of_getElem? (i := 978) (by decide +kernel), List.mem_of_getElem? (i := 979) (by decide +kernel)⟩
theorem lw_p19 : lw_okq (⟨"CommonBond$Reader", "multiplied", "(I)Z"⟩, 11) := ⟨⟨by decide +kernel, by decide +kernel⟩, List.mem_of_getElem? (i := 441) (by decide +kernel), List.mem_of_getElem? (i := 982) (by decide +kernel), List.mem_of_getElem? (i := 983) (by decide +kernel)⟩
theorem lw_p20 : lw_okq (⟨"CommonBond$Reader", "single", "(I)Z"⟩, 11) := ⟨⟨by decide +kernel, by decide +kernel⟩, List.mem_of_getElem? (i := 441) (by decide +kernel), List.mem_of_getElem? (i := 986) (by decide +kernel), List.mem_of_getElem? (i := 987) (by decide +kernel)⟩
theorem lw_p21 : lw_okq (⟨"CommonBond$Reader", "emit", "(I)Z"⟩, 11) := ⟨⟨by decide +kernel, by decide +kernel⟩, List.mem_of_getElem? (i := 441) (by decide +kernel), List.mem_of_getElem? (i := 990) (by decide +kernel), List.mem_of_getElem? (i := 991) (by decide +kernel)⟩
theorem lw_p22 : lw_okq (⟨"CommonBond", "nobody", "(I)Z"⟩, 10) := ⟨⟨by decide +kernel, by decide +kernel⟩, List.mem_of_getElem? (i := 23) (by decide +kernel), List.mem_of_getElem? (i := 1006) (by decide +kernel), List.mem_of_getElem? (i := 1007) (by decide +kernel)⟩
theorem lw_p23 : lw_okq (⟨"CommonBond", "knowWho", "(I)V"⟩, 10) := ⟨⟨by decide +kernel, by decide +kernel⟩, List.mem_of_getElem? (i := 23) (by decide +kernel), List.mem_of_getElem? (i := 1010) (by decide +kernel), List.mem_of_getElem? (i := 1011) (by decide +kernel)⟩
theorem lw_p24 : lw_okq (⟨"CommonBond$Closer", "closeLoans", "()I"⟩, 5) := ⟨⟨by decide +kernel, by decide +kernel⟩, List.mem_of_getElem? (i := 500) (by decide +kernel), List.mem_of_getElem? (i := 1033) (by decide +kernel), List.mem_of_getElem? (i := 1034) (by decide +kernel)⟩
theorem lw_p25 : lw_okq (⟨"CommonBond$Closer", "closeYear", "()V"⟩, 5) := ⟨⟨by decide +kernel, by decide +kernel⟩, List.mem_of_getElem? (i := 500) (by decide +kernel), List.mem_of_getElem? (i := 1051) (by decide +kernel), List.mem_of_getElem? (i := 1052) (by decide +kernel)⟩
theorem lw_p26 : lw_okq (⟨"CommonBond$Closer", "earn", "([J)J"⟩, 5) := ⟨⟨by decide +kernel, by decide +kernel⟩, List.mem_of_getElem? (i := 500) (by decide +kernel), List.mem_of_getElem? (i := 1056) (by decide +kernel), List.mem_of_getElem? (i := 1057) (by decide +kernel)⟩
theorem lw_p27 : lw_okq (⟨"CommonBond$Closer", "partSurplus", "(I)V"⟩, 5) := ⟨⟨by decide +kernel, by decide +kernel⟩, List.mem_of_getElem? (i := 500) (by decide +kernel), List.mem_of_getElem? (i := 1060) (by decide +kernel), List.mem_of_getElem? (i := 1061) (by decide +kernel)⟩
theorem lw_p28 : lw_okq (⟨"CommonBond$Closer", "part", "(J[J[J)Z"⟩, 5) := ⟨⟨by decide +kernel, by decide +kernel⟩, List.mem_of_getElem? (i := 500) (by decide +kernel), List.mem_of_getElem? (i := 1068) (by decide +kernel), List.mem_of_getElem? (i := 1069) (by decide +kernel)⟩
theorem lw_p29 : lw_okq (⟨"CommonBond$Closer", "greatestRest", "()I"⟩, 5) := ⟨⟨by decide +kernel, by decide +kernel⟩, List.mem_of_getElem? (i := 500) (by decide +kernel), List.mem_of_getElem? (i := 1075) (by decide +kernel), List.mem_of_getElem? (i := 1076) (by decide +kernel)⟩
theorem lw_p30 : lw_okq (⟨"CommonBond$Closer", "handOut", "(I)V"⟩, 5) := ⟨⟨by decide +kernel, by decide +kernel⟩, List.mem_of_getElem? (i := 500) (by decide +kernel), List.mem_of_getElem? (i := 1080) (by decide +kernel), List.mem_of_getElem? (i := 1081) (by decide +kernel)⟩
theorem lw_p31 : lw_okq (⟨"CommonBond$Planner", "foresee", "(I)V"⟩, 9) := ⟨⟨by decide +kernel, by decide +kernel⟩, List.mem_of_getElem? (i := 522) (by decide +kernel), List.mem_of_getElem? (i := 1151) (by decide +kernel), List.mem_of_getElem? (i := 1152) (by decide +kernel)⟩
def lw_privs_2 : List (MethodName × Nat) := [(⟨"CommonBond$Reader", "denied", "(I)Z"⟩, 11), (⟨"CommonBond$Reader", "compared", "(I)Z"⟩, 11), (⟨"CommonBond$Reader", "summed", "(I)Z"⟩, 11), (⟨"CommonBond$Reader", "multiplied", "(I)Z"⟩, 11), (⟨"CommonBond$Reader", "single", "(I)Z"⟩, 11), (⟨"CommonBond$Reader", "emit", "(I)Z"⟩, 11), (⟨"CommonBond", "nobody", "(I)Z"⟩, 10), (⟨"CommonBond", "knowWho", "(I)V"⟩, 10), (⟨"CommonBond$Closer", "closeLoans", "()I"⟩, 5), (⟨"CommonBond$Closer", "closeYear", "()V"⟩, 5), (⟨"CommonBond$Closer", "earn", "([J)J"⟩, 5), (⟨"CommonBond$Closer", "partSurplus", "(I)V"⟩, 5), (⟨"CommonBond$Closer", "part", "(J[J[J)Z"⟩, 5), (⟨"CommonBond$Closer", "greatestRest", "()I"⟩, 5), (⟨"CommonBond$Closer", "handOut", "(I)V"⟩, 5), (⟨"CommonBond$Planner", "foresee", "(I)V"⟩, 9)]
theorem lw_r2 : ∀ q ∈ lw_privs_2, lw_okq q := List.forall_mem_cons.mpr ⟨lw_p16, List.forall_mem_cons.mpr ⟨lw_p17, List.forall_mem_cons.mpr ⟨lw_p18, List.forall_mem_cons.mpr ⟨lw_p19, List.forall_mem_cons.mpr ⟨lw_p20, List.forall_mem_cons.mpr ⟨lw_p21, List.forall_mem_cons.mpr ⟨lw_p22, List.forall_mem_cons.mpr ⟨lw_p23, List.forall_mem_cons.mpr ⟨lw_p24, List.forall_mem_cons.mpr ⟨lw_p25, List.forall_mem_cons.mpr ⟨lw_p26, List.forall_mem_cons.mpr ⟨lw_p27, List.forall_mem_cons.mpr ⟨lw_p28, List.forall_mem_cons.mpr ⟨lw_p29, List.forall_mem_cons.mpr ⟨lw_p30, List.forall_mem_cons.mpr ⟨lw_p31, fun _ h => absurd h List.not_mem_nil⟩⟩⟩⟩⟩⟩⟩⟩⟩⟩⟩⟩⟩⟩⟩⟩
theorem lw_p32 : lw_okq (⟨"CommonBond$Planner", "foreseeAsk", "(II)V"⟩, 9) := ⟨⟨by decide +kernel, by decide +kernel⟩, List.mem_of_getElem? (i := 522) (by decide +kernel), List.mem_of_getElem? (i := 1161) (by decide +kernel), List.mem_of_getElem? (i := 1162) (by decide +kernel)⟩
theorem lw_p33 : lw_okq (⟨"CommonBond$Planner", "isBetter", "(II)Z"⟩, 9) := ⟨⟨by decide +kernel, by decide +kernel⟩, List.mem_of_getElem? (i := 522) (by decide +kernel), List.mem_of_getElem? (i := 1166) (by decide +kernel), List.mem_of_getElem? (i := 1167) (by decide +kernel)⟩
theorem lw_p34 : lw_okq (⟨"CommonBond$Planner", "sumOf", "(I)I"⟩, 9) := ⟨⟨by decide +kernel, by decide +kernel⟩, List.mem_of_getElem? (i := 522) (by decide +kernel), List.mem_of_getElem? (i := 1171) (by decide +kernel), List.mem_of_getElem? (i := 1172) (by decide +kernel)⟩
theorem lw_p35 : lw_okq (⟨"CommonBond$Planner", "foreseenLasts", "(I)Z"⟩, 9) := ⟨⟨by decide +kernel, by decide +kernel⟩, List.mem_of_getElem? (i := 522) (by decide +kernel), List.mem_of_getElem? (i := 1175) (by decide +kernel), List.mem_of_getElem? (i := 1176) (by decide +kernel)⟩
theorem lw_p36 : lw_okq (⟨"CommonBond$Planner", "lastsThrough", "(II[I)Z"⟩, 9) := ⟨⟨by decide +kernel, by decide +kernel⟩, List.mem_of_getElem? (i := 522) (by decide +kernel), List.mem_of_getElem? (i := 1179) (by decide +kernel), List.mem_of_getElem? (i := 1180) (by decide +kernel)⟩
theorem lw_p37 : lw_okq (⟨"CommonBond$Planner", "failAll", "(I)V"⟩, 9) := ⟨⟨by decide +kernel, by decide +kernel⟩, List.mem_of_getElem? (i := 522) (by decide +kernel), List.mem_of_getElem? (i := 1210) (by decide +kernel), List.mem_of_getElem? (i := 1211) (by decide +kernel)⟩
theorem lw_p38 : lw_okq (⟨"CommonBond$Planner", "wanting", "()I"⟩, 9) := ⟨⟨by decide +kernel, by decide +kernel⟩, List.mem_of_getElem? (i := 522) (by decide +kernel), List.mem_of_getElem? (i := 1215) (by decide +kernel), List.mem_of_getElem? (i := 1216) (by decide +kernel)⟩
theorem lw_p39 : lw_okq (⟨"CommonBond$Till", "onDutyFrom", "(II)I"⟩, 8) := ⟨⟨by decide +kernel, by decide +kernel⟩, List.mem_of_getElem? (i := 315) (by decide +kernel), List.mem_of_getElem? (i := 1241) (by decide +kernel), List.mem_of_getElem? (i := 1242) (by decide +kernel)⟩
theorem lw_p40 : lw_okq (⟨"CommonBondModel", "refuse", "(I)I"⟩, 28) := ⟨⟨by decide +kernel, by decide +kernel⟩, List.mem_of_getElem? (i := 1338) (by decide +kernel), List.mem_of_getElem? (i := 1456) (by decide +kernel), List.mem_of_getElem? (i := 1457) (by decide +kernel)⟩
theorem lw_p41 : lw_okq (⟨"CommonBondModel", "isMember", "(I)Z"⟩, 28) := ⟨⟨by decide +kernel, by decide +kernel⟩, List.mem_of_getElem? (i := 1338) (by decide +kernel), List.mem_of_getElem? (i := 1464) (by decide +kernel), List.mem_of_getElem? (i := 1465) (by decide +kernel)⟩
theorem lw_p42 : lw_okq (⟨"CommonBondModel", "nought", "(I)I"⟩, 28) := ⟨⟨by decide +kernel, by decide +kernel⟩, List.mem_of_getElem? (i := 1338) (by decide +kernel), List.mem_of_getElem? (i := 1468) (by decide +kernel), List.mem_of_getElem? (i := 1469) (by decide +kernel)⟩
theorem lw_p43 : lw_okq (⟨"CommonBondModel", "hasRoom", "(II)Z"⟩, 28) := ⟨⟨by decide +kernel, by decide +kernel⟩, List.mem_of_getElem? (i := 1338) (by decide +kernel), List.mem_of_getElem? (i := 1477) (by decide +kernel), List.mem_of_getElem? (i := 1478) (by decide +kernel)⟩
theorem lw_p44 : lw_okq (⟨"CommonBondModel", "sameEntry", "(II)I"⟩, 28) := ⟨⟨by decide +kernel, by decide +kernel⟩, List.mem_of_getElem? (i := 1338) (by decide +kernel), List.mem_of_getElem? (i := 1481) (by decide +kernel), List.mem_of_getElem? (i := 1482) (by decide +kernel)⟩
theorem lw_p45 : lw_okq (⟨"CommonBondModel", "enters", "(III)V"⟩, 28) := ⟨⟨by decide +kernel, by decide +kernel⟩, List.mem_of_getElem? (i := 1338) (by decide +kernel), List.mem_of_getElem? (i := 1485) (by decide +kernel), List.mem_of_getElem? (i := 1486) (by decide +kernel)⟩
theorem lw_p46 : lw_okq (⟨"CommonBondModel", "savedNow", "(I)I"⟩, 28) := ⟨⟨by decide +kernel, by decide +kernel⟩, List.mem_of_getElem? (i := 1338) (by decide +kernel), List.mem_of_getElem? (i := 1489) (by decide +kernel), List.mem_of_getElem? (i := 1490) (by decide +kernel)⟩
theorem lw_p47 : lw_okq (⟨"CommonBondModel", "savedIn", "(III)I"⟩, 28) := ⟨⟨by decide +kernel, by decide +kernel⟩, List.mem_of_getElem? (i := 1338) (by decide +kernel), List.mem_of_getElem? (i := 1493) (by decide +kernel), List.mem_of_getElem? (i := 1494) (by decide +kernel)⟩
def lw_privs_3 : List (MethodName × Nat) := [(⟨"CommonBond$Planner", "foreseeAsk", "(II)V"⟩, 9), (⟨"CommonBond$Planner", "isBetter", "(II)Z"⟩, 9), (⟨"CommonBond$Planner", "sumOf", "(I)I"⟩, 9), (⟨"CommonBond$Planner", "foreseenLasts", "(I)Z"⟩, 9), (⟨"CommonBond$Planner", "lastsThrough", "(II[I)Z"⟩, 9), (⟨"CommonBond$Planner", "failAll", "(I)V"⟩, 9), (⟨"CommonBond$Planner", "wanting", "()I"⟩, 9), (⟨"CommonBond$Till", "onDutyFrom", "(II)I"⟩, 8), (⟨"CommonBondModel", "refuse", "(I)I"⟩, 28), (⟨"CommonBondModel", "isMember", "(I)Z"⟩, 28), (⟨"CommonBondModel", "nought", "(I)I"⟩, 28), (⟨"CommonBondModel", "hasRoom", "(II)Z"⟩, 28), (⟨"CommonBondModel", "sameEntry", "(II)I"⟩, 28), (⟨"CommonBondModel", "enters", "(III)V"⟩, 28), (⟨"CommonBondModel", "savedNow", "(I)I"⟩, 28), (⟨"CommonBondModel", "savedIn", "(III)I"⟩, 28)]
theorem lw_r3 : ∀ q ∈ lw_privs_3, lw_okq q := List.forall_mem_cons.mpr ⟨lw_p32, List.forall_mem_cons.mpr ⟨lw_p33, List.forall_mem_cons.mpr ⟨lw_p34, List.forall_mem_cons.mpr ⟨lw_p35, List.forall_mem_cons.mpr ⟨lw_p36, List.forall_mem_cons.mpr ⟨lw_p37, List.forall_mem_cons.mpr ⟨lw_p38, List.forall_mem_cons.mpr ⟨lw_p39, List.forall_mem_cons.mpr ⟨lw_p40, List.forall_mem_cons.mpr ⟨lw_p41, List.forall_mem_cons.mpr ⟨lw_p42, List.forall_mem_cons.mpr ⟨lw_p43, List.forall_mem_cons.mpr ⟨lw_p44, List.forall_mem_cons.mpr ⟨lw_p45, List.forall_mem_cons.mpr ⟨lw_p46, List.forall_mem_cons.mpr ⟨lw_p47, fun _ h => absurd h List.not_mem_nil⟩⟩⟩⟩⟩⟩⟩⟩⟩⟩⟩⟩⟩⟩⟩⟩
theorem lw_p48 : lw_okq (⟨"CommonBondModel", "held", "(I)I"⟩, 28) := ⟨⟨by decide +kernel, by decide +kernel⟩, List.mem_of_getElem? (i := 1338) (by decide +kernel), List.mem_of_getElem? (i := 1501) (by decide +kernel), List.mem_of_getElem? (i := 1502) (by decide +kernel)⟩
theorem lw_p49 : lw_okq (⟨"CommonBondModel", "isOf", "(II)Z"⟩, 28) := ⟨⟨by decide +kernel, by decide +kernel⟩, List.mem_of_getElem? (i := 1338) (by decide +kernel), List.mem_of_getElem? (i := 1505) (by decide +kernel), List.mem_of_getElem? (i := 1506) (by decide +kernel)⟩
theorem lw_p50 : lw_okq (⟨"CommonBondModel", "owed", "(I)I"⟩, 28) := ⟨⟨by decide +kernel, by decide +kernel⟩, List.mem_of_getElem? (i := 1338) (by decide +kernel), List.mem_of_getElem? (i := 1512) (by decide +kernel), List.mem_of_getElem? (i := 1513) (by decide +kernel)⟩
theorem lw_p51 : lw_okq (⟨"CommonBondModel", "owes", "(I)I"⟩, 28) := ⟨⟨by decide +kernel, by decide +kernel⟩, List.mem_of_getElem? (i := 1338) (by decide +kernel), List.mem_of_getElem? (i := 1529) (by decide +kernel), List.mem_of_getElem? (i := 1530) (by decide +kernel)⟩
theorem lw_p52 : lw_okq (⟨"CommonBondModel", "lateOf", "(I)I"⟩, 28) := ⟨⟨by decide +kernel, by decide +kernel⟩, List.mem_of_getElem? (i := 1338) (by decide +kernel), List.mem_of_getElem? (i := 1533) (by decide +kernel), List.mem_of_getElem? (i := 1534) (by decide +kernel)⟩
theorem lw_p53 : lw_okq (⟨"CommonBondModel", "isLate", "(II)Z"⟩, 28) := ⟨⟨by decide +kernel, by decide +kernel⟩, List.mem_of_getElem? (i := 1338) (by decide +kernel), List.mem_of_getElem? (i := 1537) (by decide +kernel), List.mem_of_getElem? (i := 1538) (by decide +kernel)⟩
theorem lw_p54 : lw_okq (⟨"CommonBondModel", "dueTill", "(II)I"⟩, 28) := ⟨⟨by decide +kernel, by decide +kernel⟩, List.mem_of_getElem? (i := 1338) (by decide +kernel), List.mem_of_getElem? (i := 1541) (by decide +kernel), List.mem_of_getElem? (i := 1542) (by decide +kernel)⟩
theorem lw_p55 : lw_okq (⟨"CommonBondModel", "duesIn", "(II)I"⟩, 28) := ⟨⟨by decide +kernel, by decide +kernel⟩, List.mem_of_getElem? (i := 1338) (by decide +kernel), List.mem_of_getElem? (i := 1545) (by decide +kernel), List.mem_of_getElem? (i := 1546) (by decide +kernel)⟩
theorem lw_p56 : lw_okq (⟨"CommonBondModel", "dueOf", "(III)I"⟩, 28) := ⟨⟨by decide +kernel, by decide +kernel⟩, List.mem_of_getElem? (i := 1338) (by decide +kernel), List.mem_of_getElem? (i := 1549) (by decide +kernel), List.mem_of_getElem? (i := 1550) (by decide +kernel)⟩
theorem lw_p57 : lw_okq (⟨"CommonBondModel", "isDormant", "(I)Z"⟩, 28) := ⟨⟨by decide +kernel, by decide +kernel⟩, List.mem_of_getElem? (i := 1338) (by decide +kernel), List.mem_of_getElem? (i := 1553) (by decide +kernel), List.mem_of_getElem? (i := 1554) (by decide +kernel)⟩
theorem lw_p58 : lw_okq (⟨"CommonBondModel", "finds", "(II)I"⟩, 28) := ⟨⟨by decide +kernel, by decide +kernel⟩, List.mem_of_getElem? (i := 1338) (by decide +kernel), List.mem_of_getElem? (i := 1557) (by decide +kernel), List.mem_of_getElem? (i := 1558) (by decide +kernel)⟩
theorem lw_p59 : lw_okq (⟨"CommonBondModel", "names", "(I)V"⟩, 28) := ⟨⟨by decide +kernel, by decide +kernel⟩, List.mem_of_getElem? (i := 1338) (by decide +kernel), List.mem_of_getElem? (i := 1561) (by decide +kernel), List.mem_of_getElem? (i := 1562) (by decide +kernel)⟩
theorem lw_p60 : lw_okq (⟨"CommonBondModel", "worth", "(III)I"⟩, 28) := ⟨⟨by decide +kernel, by decide +kernel⟩, List.mem_of_getElem? (i := 1338) (by decide +kernel), List.mem_of_getElem? (i := 1565) (by decide +kernel), List.mem_of_getElem? (i := 1566) (by decide +kernel)⟩
theorem lw_p61 : lw_okq (⟨"CommonBondModel", "lateEntries", "(I)I"⟩, 28) := ⟨⟨by decide +kernel, by decide +kernel⟩, List.mem_of_getElem? (i := 1338) (by decide +kernel), List.mem_of_getElem? (i := 1572) (by decide +kernel), List.mem_of_getElem? (i := 1573) (by decide +kernel)⟩
theorem lw_p62 : lw_okq (⟨"CommonBondModel", "isAsk", "(I)Z"⟩, 28) := ⟨⟨by decide +kernel, by decide +kernel⟩, List.mem_of_getElem? (i := 1338) (by decide +kernel), List.mem_of_getElem? (i := 1584) (by decide +kernel), List.mem_of_getElem? (i := 1585) (by decide +kernel)⟩
theorem lw_p63 : lw_okq (⟨"CommonBondModel", "pledges", "(I)I"⟩, 28) := ⟨⟨by decide +kernel, by decide +kernel⟩, List.mem_of_getElem? (i := 1338) (by decide +kernel), List.mem_of_getElem? (i := 1592) (by decide +kernel), List.mem_of_getElem? (i := 1593) (by decide +kernel)⟩
def lw_privs_4 : List (MethodName × Nat) := [(⟨"CommonBondModel", "held", "(I)I"⟩, 28), (⟨"CommonBondModel", "isOf", "(II)Z"⟩, 28), (⟨"CommonBondModel", "owed", "(I)I"⟩, 28), (⟨"CommonBondModel", "owes", "(I)I"⟩, 28), (⟨"CommonBondModel", "lateOf", "(I)I"⟩, 28), (⟨"CommonBondModel", "isLate", "(II)Z"⟩, 28), (⟨"CommonBondModel", "dueTill", "(II)I"⟩, 28), (⟨"CommonBondModel", "duesIn", "(II)I"⟩, 28), (⟨"CommonBondModel", "dueOf", "(III)I"⟩, 28), (⟨"CommonBondModel", "isDormant", "(I)Z"⟩, 28), (⟨"CommonBondModel", "finds", "(II)I"⟩, 28), (⟨"CommonBondModel", "names", "(I)V"⟩, 28), (⟨"CommonBondModel", "worth", "(III)I"⟩, 28), (⟨"CommonBondModel", "lateEntries", "(I)I"⟩, 28), (⟨"CommonBondModel", "isAsk", "(I)Z"⟩, 28), (⟨"CommonBondModel", "pledges", "(I)I"⟩, 28)]
theorem lw_r4 : ∀ q ∈ lw_privs_4, lw_okq q := List.forall_mem_cons.mpr ⟨lw_p48, List.forall_mem_cons.mpr ⟨lw_p49, List.forall_mem_cons.mpr ⟨lw_p50, List.forall_mem_cons.mpr ⟨lw_p51, List.forall_mem_cons.mpr ⟨lw_p52, List.forall_mem_cons.mpr ⟨lw_p53, List.forall_mem_cons.mpr ⟨lw_p54, List.forall_mem_cons.mpr ⟨lw_p55, List.forall_mem_cons.mpr ⟨lw_p56, List.forall_mem_cons.mpr ⟨lw_p57, List.forall_mem_cons.mpr ⟨lw_p58, List.forall_mem_cons.mpr ⟨lw_p59, List.forall_mem_cons.mpr ⟨lw_p60, List.forall_mem_cons.mpr ⟨lw_p61, List.forall_mem_cons.mpr ⟨lw_p62, List.forall_mem_cons.mpr ⟨lw_p63, fun _ h => absurd h List.not_mem_nil⟩⟩⟩⟩⟩⟩⟩⟩⟩⟩⟩⟩⟩⟩⟩⟩
theorem lw_p64 : lw_okq (⟨"CommonBondModel", "limit", "(I)I"⟩, 28) := ⟨⟨by decide +kernel, by decide +kernel⟩, List.mem_of_getElem? (i := 1338) (by decide +kernel), List.mem_of_getElem? (i := 1596) (by decide +kernel), List.mem_of_getElem? (i := 1597) (by decide +kernel)⟩
theorem lw_p65 : lw_okq (⟨"CommonBondModel", "interest", "(I)I"⟩, 28) := ⟨⟨by decide +kernel, by decide +kernel⟩, List.mem_of_getElem? (i := 1338) (by decide +kernel), List.mem_of_getElem? (i := 1600) (by decide +kernel), List.mem_of_getElem? (i := 1601) (by decide +kernel)⟩
theorem lw_p66 : lw_okq (⟨"CommonBondModel", "answerNow", "(I)I"⟩, 28) := ⟨⟨by decide +kernel, by decide +kernel⟩, List.mem_of_getElem? (i := 1338) (by decide +kernel), List.mem_of_getElem? (i := 1604) (by decide +kernel), List.mem_of_getElem? (i := 1605) (by decide +kernel)⟩
theorem lw_p67 : lw_okq (⟨"CommonBondModel", "isBarred", "(I)Z"⟩, 28) := ⟨⟨by decide +kernel, by decide +kernel⟩, List.mem_of_getElem? (i := 1338) (by decide +kernel), List.mem_of_getElem? (i := 1608) (by decide +kernel), List.mem_of_getElem? (i := 1609) (by decide +kernel)⟩
theorem lw_p68 : lw_okq (⟨"CommonBondModel", "isStoodFor", "(I)Z"⟩, 28) := ⟨⟨by decide +kernel, by decide +kernel⟩, List.mem_of_getElem? (i := 1338) (by decide +kernel), List.mem_of_getElem? (i := 1615) (by decide +kernel), List.mem_of_getElem? (i := 1616) (by decide +kernel)⟩
theorem lw_p69 : lw_okq (⟨"CommonBondModel", "isLoan", "(I)Z"⟩, 28) := ⟨⟨by decide +kernel, by decide +kernel⟩, List.mem_of_getElem? (i := 1338) (by decide +kernel), List.mem_of_getElem? (i := 1627) (by decide +kernel), List.mem_of_getElem? (i := 1628) (by decide +kernel)⟩
theorem lw_p70 : lw_okq (⟨"CommonBondModel", "next", "()V"⟩, 28) := ⟨⟨by decide +kernel, by decide +kernel⟩, List.mem_of_getElem? (i := 1338) (by decide +kernel), List.mem_of_getElem? (i := 1662) (by decide +kernel), List.mem_of_getElem? (i := 1663) (by decide +kernel)⟩
theorem lw_p71 : lw_okq (⟨"CommonBondModel", "nextWord", "()V"⟩, 28) := ⟨⟨by decide +kernel, by decide +kernel⟩, List.mem_of_getElem? (i := 1338) (by decide +kernel), List.mem_of_getElem? (i := 1666) (by decide +kernel), List.mem_of_getElem? (i := 1667) (by decide +kernel)⟩
theorem lw_p72 : lw_okq (⟨"CommonBondModel", "or", "()V"⟩, 28) := ⟨⟨by decide +kernel, by decide +kernel⟩, List.mem_of_getElem? (i := 1338) (by decide +kernel), List.mem_of_getElem? (i := 1670) (by decide +kernel), List.mem_of_getElem? (i := 1671) (by decide +kernel)⟩
theorem lw_p73 : lw_okq (⟨"CommonBondModel", "and", "()V"⟩, 28) := ⟨⟨by decide +kernel, by decide +kernel⟩, List.mem_of_getElem? (i := 1338) (by decide +kernel), List.mem_of_getElem? (i := 1674) (by decide +kernel), List.mem_of_getElem? (i := 1675) (by decide +kernel)⟩
theorem lw_p74 : lw_okq (⟨"CommonBondModel", "not", "()V"⟩, 28) := ⟨⟨by decide +kernel, by decide +kernel⟩, List.mem_of_getElem? (i := 1338) (by decide +kernel), List.mem_of_getElem? (i := 1678) (by decide +kernel), List.mem_of_getElem? (i := 1679) (by decide +kernel)⟩
theorem lw_p75 : lw_okq (⟨"CommonBondModel", "opensOne", "()Z"⟩, 28) := ⟨⟨by decide +kernel, by decide +kernel⟩, List.mem_of_getElem? (i := 1338) (by decide +kernel), List.mem_of_getElem? (i := 1682) (by decide +kernel), List.mem_of_getElem? (i := 1683) (by decide +kernel)⟩
theorem lw_p76 : lw_okq (⟨"CommonBondModel", "puts", "(I)V"⟩, 28) := ⟨⟨by decide +kernel, by decide +kernel⟩, List.mem_of_getElem? (i := 1338) (by decide +kernel), List.mem_of_getElem? (i := 1686) (by decide +kernel), List.mem_of_getElem? (i := 1687) (by decide +kernel)⟩
theorem lw_p77 : lw_okq (⟨"CommonBondModel", "sum", "()V"⟩, 28) := ⟨⟨by decide +kernel, by decide +kernel⟩, List.mem_of_getElem? (i := 1338) (by decide +kernel), List.mem_of_getElem? (i := 1690) (by decide +kernel), List.mem_of_getElem? (i := 1691) (by decide +kernel)⟩
theorem lw_p78 : lw_okq (⟨"CommonBondModel", "term", "()V"⟩, 28) := ⟨⟨by decide +kernel, by decide +kernel⟩, List.mem_of_getElem? (i := 1338) (by decide +kernel), List.mem_of_getElem? (i := 1694) (by decide +kernel), List.mem_of_getElem? (i := 1695) (by decide +kernel)⟩
theorem lw_p79 : lw_okq (⟨"CommonBondModel", "one", "()V"⟩, 28) := ⟨⟨by decide +kernel, by decide +kernel⟩, List.mem_of_getElem? (i := 1338) (by decide +kernel), List.mem_of_getElem? (i := 1698) (by decide +kernel), List.mem_of_getElem? (i := 1699) (by decide +kernel)⟩
def lw_privs_5 : List (MethodName × Nat) := [(⟨"CommonBondModel", "limit", "(I)I"⟩, 28), (⟨"CommonBondModel", "interest", "(I)I"⟩, 28), (⟨"CommonBondModel", "answerNow", "(I)I"⟩, 28), (⟨"CommonBondModel", "isBarred", "(I)Z"⟩, 28), (⟨"CommonBondModel", "isStoodFor", "(I)Z"⟩, 28), (⟨"CommonBondModel", "isLoan", "(I)Z"⟩, 28), (⟨"CommonBondModel", "next", "()V"⟩, 28), (⟨"CommonBondModel", "nextWord", "()V"⟩, 28), (⟨"CommonBondModel", "or", "()V"⟩, 28), (⟨"CommonBondModel", "and", "()V"⟩, 28), (⟨"CommonBondModel", "not", "()V"⟩, 28), (⟨"CommonBondModel", "opensOne", "()Z"⟩, 28), (⟨"CommonBondModel", "puts", "(I)V"⟩, 28), (⟨"CommonBondModel", "sum", "()V"⟩, 28), (⟨"CommonBondModel", "term", "()V"⟩, 28), (⟨"CommonBondModel", "one", "()V"⟩, 28)]
theorem lw_r5 : ∀ q ∈ lw_privs_5, lw_okq q := List.forall_mem_cons.mpr ⟨lw_p64, List.forall_mem_cons.mpr ⟨lw_p65, List.forall_mem_cons.mpr ⟨lw_p66, List.forall_mem_cons.mpr ⟨lw_p67, List.forall_mem_cons.mpr ⟨lw_p68, List.forall_mem_cons.mpr ⟨lw_p69, List.forall_mem_cons.mpr ⟨lw_p70, List.forall_mem_cons.mpr ⟨lw_p71, List.forall_mem_cons.mpr ⟨lw_p72, List.forall_mem_cons.mpr ⟨lw_p73, List.forall_mem_cons.mpr ⟨lw_p74, List.forall_mem_cons.mpr ⟨lw_p75, List.forall_mem_cons.mpr ⟨lw_p76, List.forall_mem_cons.mpr ⟨lw_p77, List.forall_mem_cons.mpr ⟨lw_p78, List.forall_mem_cons.mpr ⟨lw_p79, fun _ h => absurd h List.not_mem_nil⟩⟩⟩⟩⟩⟩⟩⟩⟩⟩⟩⟩⟩⟩⟩⟩
theorem lw_p80 : lw_okq (⟨"CommonBondModel", "closesOne", "()V"⟩, 28) := ⟨⟨by decide +kernel, by decide +kernel⟩, List.mem_of_getElem? (i := 1338) (by decide +kernel), List.mem_of_getElem? (i := 1702) (by decide +kernel), List.mem_of_getElem? (i := 1703) (by decide +kernel)⟩
theorem lw_p81 : lw_okq (⟨"CommonBondModel", "isAsked", "(II)Z"⟩, 28) := ⟨⟨by decide +kernel, by decide +kernel⟩, List.mem_of_getElem? (i := 1338) (by decide +kernel), List.mem_of_getElem? (i := 1710) (by decide +kernel), List.mem_of_getElem? (i := 1711) (by decide +kernel)⟩
theorem lw_p82 : lw_okq (⟨"CommonBondModel", "closes", "()I"⟩, 28) := ⟨⟨by decide +kernel, by decide +kernel⟩, List.mem_of_getElem? (i := 1338) (by decide +kernel), List.mem_of_getElem? (i := 1722) (by decide +kernel), List.mem_of_getElem? (i := 1723) (by decide +kernel)⟩
theorem lw_p83 : lw_okq (⟨"CommonBondModel", "passes", "()I"⟩, 28) := ⟨⟨by decide +kernel, by decide +kernel⟩, List.mem_of_getElem? (i := 1338) (by decide +kernel), List.mem_of_getElem? (i := 1726) (by decide +kernel), List.mem_of_getElem? (i := 1727) (by decide +kernel)⟩
theorem lw_p84 : lw_okq (⟨"CommonBondModel", "fails", "(I)I"⟩, 28) := ⟨⟨by decide +kernel, by decide +kernel⟩, List.mem_of_getElem? (i := 1338) (by decide +kernel), List.mem_of_getElem? (i := 1730) (by decide +kernel), List.mem_of_getElem? (i := 1731) (by decide +kernel)⟩
theorem lw_p85 : lw_okq (⟨"CommonBondModel", "takes", "(II)I"⟩, 28) := ⟨⟨by decide +kernel, by decide +kernel⟩, List.mem_of_getElem? (i := 1338) (by decide +kernel), List.mem_of_getElem? (i := 1734) (by decide +kernel), List.mem_of_getElem? (i := 1735) (by decide +kernel)⟩
theorem lw_p86 : lw_okq (⟨"CommonBondModel", "closesYear", "()V"⟩, 28) := ⟨⟨by decide +kernel, by decide +kernel⟩, List.mem_of_getElem? (i := 1338) (by decide +kernel), List.mem_of_getElem? (i := 1738) (by decide +kernel), List.mem_of_getElem? (i := 1739) (by decide +kernel)⟩
theorem lw_p87 : lw_okq (⟨"CommonBondModel", "given", "(II)V"⟩, 28) := ⟨⟨by decide +kernel, by decide +kernel⟩, List.mem_of_getElem? (i := 1338) (by decide +kernel), List.mem_of_getElem? (i := 1746) (by decide +kernel), List.mem_of_getElem? (i := 1747) (by decide +kernel)⟩
theorem lw_p88 : lw_okq (⟨"CommonBondModel", "partsOut", "(J)J"⟩, 28) := ⟨⟨by decide +kernel, by decide +kernel⟩, List.mem_of_getElem? (i := 1338) (by decide +kernel), List.mem_of_getElem? (i := 1750) (by decide +kernel), List.mem_of_getElem? (i := 1751) (by decide +kernel)⟩
theorem lw_p89 : lw_okq (⟨"CommonBondModel", "isYear", "(I)Z"⟩, 28) := ⟨⟨by decide +kernel, by decide +kernel⟩, List.mem_of_getElem? (i := 1338) (by decide +kernel), List.mem_of_getElem? (i := 1762) (by decide +kernel), List.mem_of_getElem? (i := 1763) (by decide +kernel)⟩
theorem lw_p90 : lw_okq (⟨"CommonBondModel", "sharesNow", "(II)J"⟩, 28) := ⟨⟨by decide +kernel, by decide +kernel⟩, List.mem_of_getElem? (i := 1338) (by decide +kernel), List.mem_of_getElem? (i := 1770) (by decide +kernel), List.mem_of_getElem? (i := 1771) (by decide +kernel)⟩
theorem lw_p91 : lw_okq (⟨"CommonBondModel", "mayBe", "(I)Z"⟩, 28) := ⟨⟨by decide +kernel, by decide +kernel⟩, List.mem_of_getElem? (i := 1338) (by decide +kernel), List.mem_of_getElem? (i := 1793) (by decide +kernel), List.mem_of_getElem? (i := 1794) (by decide +kernel)⟩
theorem lw_p92 : lw_okq (⟨"CommonBondModel", "foresees", "(I)V"⟩, 28) := ⟨⟨by decide +kernel, by decide +kernel⟩, List.mem_of_getElem? (i := 1338) (by decide +kernel), List.mem_of_getElem? (i := 1797) (by decide +kernel), List.mem_of_getElem? (i := 1798) (by decide +kernel)⟩
theorem lw_p93 : lw_okq (⟨"CommonBondModel", "isBetter", "(II)Z"⟩, 28) := ⟨⟨by decide +kernel, by decide +kernel⟩, List.mem_of_getElem? (i := 1338) (by decide +kernel), List.mem_of_getElem? (i := 1801) (by decide +kernel), List.mem_of_getElem? (i := 1802) (by decide +kernel)⟩
theorem lw_p94 : lw_okq (⟨"CommonBondModel", "sums", "(I)J"⟩, 28) := ⟨⟨by decide +kernel, by decide +kernel⟩, List.mem_of_getElem? (i := 1338) (by decide +kernel), List.mem_of_getElem? (i := 1805) (by decide +kernel), List.mem_of_getElem? (i := 1806) (by decide +kernel)⟩
theorem lw_p95 : lw_okq (⟨"CommonBondModel", "lasts", "(I)Z"⟩, 28) := ⟨⟨by decide +kernel, by decide +kernel⟩, List.mem_of_getElem? (i := 1338) (by decide +kernel), List.mem_of_getElem? (i := 1809) (by decide +kernel), List.mem_of_getElem? (i := 1810) (by decide +kernel)⟩
def lw_privs_6 : List (MethodName × Nat) := [(⟨"CommonBondModel", "closesOne", "()V"⟩, 28), (⟨"CommonBondModel", "isAsked", "(II)Z"⟩, 28), (⟨"CommonBondModel", "closes", "()I"⟩, 28), (⟨"CommonBondModel", "passes", "()I"⟩, 28), (⟨"CommonBondModel", "fails", "(I)I"⟩, 28), (⟨"CommonBondModel", "takes", "(II)I"⟩, 28), (⟨"CommonBondModel", "closesYear", "()V"⟩, 28), (⟨"CommonBondModel", "given", "(II)V"⟩, 28), (⟨"CommonBondModel", "partsOut", "(J)J"⟩, 28), (⟨"CommonBondModel", "isYear", "(I)Z"⟩, 28), (⟨"CommonBondModel", "sharesNow", "(II)J"⟩, 28), (⟨"CommonBondModel", "mayBe", "(I)Z"⟩, 28), (⟨"CommonBondModel", "foresees", "(I)V"⟩, 28), (⟨"CommonBondModel", "isBetter", "(II)Z"⟩, 28), (⟨"CommonBondModel", "sums", "(I)J"⟩, 28), (⟨"CommonBondModel", "lasts", "(I)Z"⟩, 28)]
theorem lw_r6 : ∀ q ∈ lw_privs_6, lw_okq q := List.forall_mem_cons.mpr ⟨lw_p80, List.forall_mem_cons.mpr ⟨lw_p81, List.forall_mem_cons.mpr ⟨lw_p82, List.forall_mem_cons.mpr ⟨lw_p83, List.forall_mem_cons.mpr ⟨lw_p84, List.forall_mem_cons.mpr ⟨lw_p85, List.forall_mem_cons.mpr ⟨lw_p86, List.forall_mem_cons.mpr ⟨lw_p87, List.forall_mem_cons.mpr ⟨lw_p88, List.forall_mem_cons.mpr ⟨lw_p89, List.forall_mem_cons.mpr ⟨lw_p90, List.forall_mem_cons.mpr ⟨lw_p91, List.forall_mem_cons.mpr ⟨lw_p92, List.forall_mem_cons.mpr ⟨lw_p93, List.forall_mem_cons.mpr ⟨lw_p94, List.forall_mem_cons.mpr ⟨lw_p95, fun _ h => absurd h List.not_mem_nil⟩⟩⟩⟩⟩⟩⟩⟩⟩⟩⟩⟩⟩⟩⟩⟩
theorem lw_p96 : lw_okq (⟨"CommonBondModel", "lastsBy", "(IJI)Z"⟩, 28) := ⟨⟨by decide +kernel, by decide +kernel⟩, List.mem_of_getElem? (i := 1338) (by decide +kernel), List.mem_of_getElem? (i := 1813) (by decide +kernel), List.mem_of_getElem? (i := 1814) (by decide +kernel)⟩
theorem lw_p97 : lw_okq (⟨"CommonBondModel", "failAll", "(I)I"⟩, 28) := ⟨⟨by decide +kernel, by decide +kernel⟩, List.mem_of_getElem? (i := 1338) (by decide +kernel), List.mem_of_getElem? (i := 1825) (by decide +kernel), List.mem_of_getElem? (i := 1826) (by decide +kernel)⟩
def lw_privs_7 : List (MethodName × Nat) := [(⟨"CommonBondModel", "lastsBy", "(IJI)Z"⟩, 28), (⟨"CommonBondModel", "failAll", "(I)I"⟩, 28)]
theorem lw_r7 : ∀ q ∈ lw_privs_7, lw_okq q := List.forall_mem_cons.mpr ⟨lw_p96, List.forall_mem_cons.mpr ⟨lw_p97, fun _ h => absurd h List.not_mem_nil⟩⟩
def lw_privs : List (MethodName × Nat) := lw_privs_1 ++ (lw_privs_2 ++ (lw_privs_3 ++ (lw_privs_4 ++ (lw_privs_5 ++ (lw_privs_6 ++ (lw_privs_7))))))
def lw_tbl : List Cond := k2_sels lw_privs ++ tables_1
theorem lw_privs_ok : ∀ q ∈ lw_privs, lw_okq q := by
  show ∀ q ∈ lw_privs_1 ++ (lw_privs_2 ++ (lw_privs_3 ++ (lw_privs_4 ++ (lw_privs_5 ++ (lw_privs_6 ++ (lw_privs_7)))))), lw_okq q
  exact List.forall_mem_append.mpr ⟨lw_r1, List.forall_mem_append.mpr ⟨lw_r2, List.forall_mem_append.mpr ⟨lw_r3, List.forall_mem_append.mpr ⟨lw_r4, List.forall_mem_append.mpr ⟨lw_r5, List.forall_mem_append.mpr ⟨lw_r6, lw_r7⟩⟩⟩⟩⟩⟩

/-! ===== BEGIN words of one list among another's, by their places ===== -/
theorem goodIn_r {big : List Cond} (ws : List Cond) (ps : List Nat) (hp : ws = ps.filterMap (fun i => big[i]?)) (h : ws.all goodWord = true) : GoodIn big ws := by
  intro w hw
  have h1 := List.all_eq_true.mp h w hw
  rw [hp] at hw
  obtain ⟨i, -, hi⟩ := List.mem_filterMap.mp hw
  have hm : w ∈ big := by first | exact List.mem_of_getElem? hi | exact List.getElem?_mem hi
  exact ⟨hm, good_of_word h1⟩
theorem goodIn_app {big a b : List Cond} (ha : GoodIn big a) (hb : GoodIn big b) : GoodIn big (a ++ b) := fun w h => (List.mem_append.mp h).elim (ha w) (hb w)
theorem goodIn_ca {big a b : List Cond} {c : Cond} (ha : GoodIn big (c :: a)) (hb : GoodIn big b) : GoodIn big (c :: (a ++ b)) := fun w h => (List.mem_cons.mp h).elim (fun e => ha w (List.mem_cons.mpr (Or.inl e))) (fun h => (List.mem_append.mp h).elim (fun h => ha w (List.mem_cons.mpr (Or.inr h))) (hb w))
theorem goodIn_sub {big ws : List Cond} (hm : ∀ w ∈ ws, w ∈ big) (h : ws.all goodWord = true) : GoodIn big ws := fun w hw => ⟨hm w hw, good_of_word (List.all_eq_true.mp h w hw)⟩
/-! ===== END ===== -/
def RX0 : String := "CommonBond$Asks"
def TX0 : u_T := fun k => match k with
  | 0 => ("CommonBond$Asks", "size", "I", false)
  | 1 => ("CommonBond$Asks", "member", "[I", true)
  | 2 => ("CommonBond$Asks", "kind", "[I", true)
  | 3 => ("CommonBond$Asks", "sum", "[I", true)
  | 4 => ("CommonBond$Asks", "weeks", "[I", true)
  | 5 => ("CommonBond$Asks", "given", "[I", true)
  | 6 => ("CommonBond$Asks", "loan", "[I", true)
  | 7 => ("CommonBond$Asks", "backers", "[I", true)
  | 8 => ("CommonBond$Asks", "backer", "[[I", true)
  | _ => ("CommonBond$Asks", "pledge", "[[I", true)
def tyX0 : Nat → FieldType := fun k => match k with
  | 0 => .int
  | 1 => .array .int
  | 2 => .array .int
  | 3 => .array .int
  | 4 => .array .int
  | 5 => .array .int
  | 6 => .array .int
  | 7 => .array .int
  | 8 => .array (.array .int)
  | _ => .array (.array .int)
abbrev wsX00 : List Cond := u_ws RX0 TX0 10
theorem nmX0 : ∀ a, a < 10 → ∀ b, b < 10 → a ≠ b → (TX0 a).2.1 ≠ (TX0 b).2.1 := by decide +kernel
theorem tyX0_ok : ∀ k, k < 10 → parseFieldDescriptor (TX0 k).2.2.1 = some (tyX0 k) := by decide +kernel
abbrev cX0_init : ByteArray := prog_2_method_1_code
def yX0_init : MethodName := ⟨RX0, "<init>", "()V"⟩
abbrev cX0_isOf : ByteArray := prog_2_method_2_code
def yX0_isOf : MethodName := ⟨RX0, "isOf", "(II)Z"⟩
abbrev cX0_add : ByteArray := prog_2_method_3_code
def yX0_add : MethodName := ⟨RX0, "add", "(IIII)I"⟩
abbrev cX0_addBacker : ByteArray := prog_2_method_4_code
def yX0_addBacker : MethodName := ⟨RX0, "addBacker", "(III)I"⟩
abbrev cX0_hasBacker : ByteArray := prog_2_method_5_code
def yX0_hasBacker : MethodName := ⟨RX0, "hasBacker", "(II)Z"⟩
abbrev cX0_pledges : ByteArray := prog_2_method_6_code
def yX0_pledges : MethodName := ⟨RX0, "pledges", "(I)I"⟩
abbrev cX0_likeness : ByteArray := prog_2_method_7_code
def yX0_likeness : MethodName := ⟨RX0, "likeness", "(II)I"⟩
abbrev cX0_become : ByteArray := prog_2_method_8_code
def yX0_become : MethodName := ⟨RX0, "become", "(LCommonBond$Asks;)V"⟩
def RX1 : String := "CommonBond$Closer"
def TX1 : u_T := fun k => match k with
  | 0 => ("CommonBond$Closer", "state", "LCommonBond$State;", true)
  | 1 => ("CommonBond$Closer", "lender", "LCommonBond$Lender;", true)
  | 2 => ("CommonBond$Closer", "parts", "[J", true)
  | 3 => ("CommonBond$Closer", "parted", "[J", true)
  | _ => ("CommonBond$Closer", "rests", "[J", true)
def tyX1 : Nat → FieldType := fun k => match k with
  | 0 => .object "CommonBond$State"
  | 1 => .object "CommonBond$Lender"
  | 2 => .array .long
  | 3 => .array .long
  | _ => .array .long
abbrev wsX10 : List Cond := u_ws RX1 TX1 5
theorem nmX1 : ∀ a, a < 5 → ∀ b, b < 5 → a ≠ b → (TX1 a).2.1 ≠ (TX1 b).2.1 := by decide +kernel
theorem tyX1_ok : ∀ k, k < 5 → parseFieldDescriptor (TX1 k).2.2.1 = some (tyX1 k) := by decide +kernel
abbrev cX1_init : ByteArray := prog_3_method_1_code
def yX1_init : MethodName := ⟨RX1, "<init>", "(LCommonBond$State;LCommonBond$Lender;)V"⟩
abbrev cX1_fail : ByteArray := prog_3_method_2_code
def yX1_fail : MethodName := ⟨RX1, "fail", "(LCommonBond$Asks;LCommonBond$Loans;LCommonBond$Ledger;II)I"⟩
abbrev cX1_take : ByteArray := prog_3_method_3_code
def yX1_take : MethodName := ⟨RX1, "take", "(LCommonBond$Ledger;III)I"⟩
abbrev cX1_closeWeek : ByteArray := prog_3_method_4_code
def yX1_closeWeek : MethodName := ⟨RX1, "closeWeek", "()I"⟩
abbrev cX1_closeLoans : ByteArray := prog_3_method_5_code
def yX1_closeLoans : MethodName := ⟨RX1, "closeLoans", "()I"⟩
abbrev cX1_closeYear : ByteArray := prog_3_method_6_code
def yX1_closeYear : MethodName := ⟨RX1, "closeYear", "()V"⟩
abbrev cX1_earn : ByteArray := prog_3_method_7_code
def yX1_earn : MethodName := ⟨RX1, "earn", "([J)J"⟩
abbrev cX1_partSurplus : ByteArray := prog_3_method_8_code
def yX1_partSurplus : MethodName := ⟨RX1, "partSurplus", "(I)V"⟩
abbrev cX1_part : ByteArray := prog_3_method_9_code
def yX1_part : MethodName := ⟨RX1, "part", "(J[J[J)Z"⟩
abbrev cX1_greatestRest : ByteArray := prog_3_method_10_code
def yX1_greatestRest : MethodName := ⟨RX1, "greatestRest", "()I"⟩
abbrev cX1_handOut : ByteArray := prog_3_method_11_code
def yX1_handOut : MethodName := ⟨RX1, "handOut", "(I)V"⟩
abbrev cX1_reworked : ByteArray := prog_3_method_12_code
def yX1_reworked : MethodName := ⟨RX1, "reworked", "(II)J"⟩
abbrev cX1_mayVoid : ByteArray := prog_3_method_13_code
def yX1_mayVoid : MethodName := ⟨RX1, "mayVoid", "(I)Z"⟩
abbrev cX1_takeBack : ByteArray := prog_3_method_14_code
def yX1_takeBack : MethodName := ⟨RX1, "takeBack", "(I)I"⟩
def RX2 : String := "CommonBond$Ledger"
def TX2 : u_T := fun k => match k with
  | 0 => ("CommonBond$Ledger", "size", "I", false)
  | 1 => ("CommonBond$Ledger", "owner", "[I", true)
  | 2 => ("CommonBond$Ledger", "forWeek", "[I", true)
  | 3 => ("CommonBond$Ledger", "toldIn", "[I", true)
  | 4 => ("CommonBond$Ledger", "much", "[I", true)
  | 5 => ("CommonBond$Ledger", "total", "[I", true)
  | 6 => ("CommonBond$Ledger", "change", "[I", true)
  | 7 => ("CommonBond$Ledger", "cash", "I", false)
  | _ => ("CommonBond$Ledger", "reserve", "J", false)
def tyX2 : Nat → FieldType := fun k => match k with
  | 0 => .int
  | 1 => .array .int
  | 2 => .array .int
  | 3 => .array .int
  | 4 => .array .int
  | 5 => .array .int
  | 6 => .array .int
  | 7 => .int
  | _ => .long
abbrev wsX20 : List Cond := u_ws RX2 TX2 9
theorem nmX2 : ∀ a, a < 9 → ∀ b, b < 9 → a ≠ b → (TX2 a).2.1 ≠ (TX2 b).2.1 := by decide +kernel
theorem tyX2_ok : ∀ k, k < 9 → parseFieldDescriptor (TX2 k).2.2.1 = some (tyX2 k) := by decide +kernel
abbrev cX2_init : ByteArray := prog_4_method_1_code
def yX2_init : MethodName := ⟨RX2, "<init>", "()V"⟩
abbrev cX2_place : ByteArray := prog_4_method_2_code
def yX2_place : MethodName := ⟨RX2, "place", "(III)I"⟩
abbrev cX2_hasRoom : ByteArray := prog_4_method_3_code
def yX2_hasRoom : MethodName := ⟨RX2, "hasRoom", "(III)Z"⟩
abbrev cX2_enter : ByteArray := prog_4_method_4_code
def yX2_enter : MethodName := ⟨RX2, "enter", "(IIII)V"⟩
abbrev cX2_savedIn : ByteArray := prog_4_method_5_code
def yX2_savedIn : MethodName := ⟨RX2, "savedIn", "(III)I"⟩
abbrev cX2_savedByAll : ByteArray := prog_4_method_6_code
def yX2_savedByAll : MethodName := ⟨RX2, "savedByAll", "()I"⟩
abbrev cX2_entriesBehind : ByteArray := prog_4_method_7_code
def yX2_entriesBehind : MethodName := ⟨RX2, "entriesBehind", "(II)I"⟩
abbrev cX2_shareWeeks : ByteArray := prog_4_method_8_code
def yX2_shareWeeks : MethodName := ⟨RX2, "shareWeeks", "(II)J"⟩
abbrev cX2_become : ByteArray := prog_4_method_9_code
def yX2_become : MethodName := ⟨RX2, "become", "(LCommonBond$Ledger;)V"⟩
def RX3 : String := "CommonBond$Lender"
def TX3 : u_T := fun k => match k with
  | 0 => ("CommonBond$Lender", "state", "LCommonBond$State;", true)
  | _ => ("CommonBond$Lender", "names", "[I", true)
def tyX3 : Nat → FieldType := fun k => match k with
  | 0 => .object "CommonBond$State"
  | _ => .array .int
abbrev wsX30 : List Cond := u_ws RX3 TX3 2
theorem nmX3 : ∀ a, a < 2 → ∀ b, b < 2 → a ≠ b → (TX3 a).2.1 ≠ (TX3 b).2.1 := by decide +kernel
theorem tyX3_ok : ∀ k, k < 2 → parseFieldDescriptor (TX3 k).2.2.1 = some (tyX3 k) := by decide +kernel
abbrev cX3_init : ByteArray := prog_5_method_1_code
def yX3_init : MethodName := ⟨RX3, "<init>", "(LCommonBond$State;)V"⟩
abbrev cX3_knowNone : ByteArray := prog_5_method_2_code
def yX3_knowNone : MethodName := ⟨RX3, "knowNone", "()V"⟩
abbrev cX3_knowMember : ByteArray := prog_5_method_3_code
def yX3_knowMember : MethodName := ⟨RX3, "knowMember", "(I)V"⟩
abbrev cX3_knowAsk : ByteArray := prog_5_method_4_code
def yX3_knowAsk : MethodName := ⟨RX3, "knowAsk", "(I)V"⟩
abbrev cX3_ruleTelling : ByteArray := prog_5_method_5_code
def yX3_ruleTelling : MethodName := ⟨RX3, "ruleTelling", "(I)I"⟩
abbrev cX3_told : ByteArray := prog_5_method_6_code
def yX3_told : MethodName := ⟨RX3, "told", "(I)I"⟩
abbrev cX3_hundredths : ByteArray := prog_5_method_7_code
def yX3_hundredths : MethodName := ⟨RX3, "hundredths", "(I)I"⟩
abbrev cX3_limitOf : ByteArray := prog_5_method_8_code
def yX3_limitOf : MethodName := ⟨RX3, "limitOf", "(I)I"⟩
abbrev cX3_limitBy : ByteArray := prog_5_method_9_code
def yX3_limitBy : MethodName := ⟨RX3, "limitBy", "(II)I"⟩
abbrev cX3_interestOf : ByteArray := prog_5_method_10_code
def yX3_interestOf : MethodName := ⟨RX3, "interestOf", "(I)I"⟩
abbrev cX3_answerNow : ByteArray := prog_5_method_11_code
def yX3_answerNow : MethodName := ⟨RX3, "answerNow", "(I)I"⟩
abbrev cX3_isBacked : ByteArray := prog_5_method_12_code
def yX3_isBacked : MethodName := ⟨RX3, "isBacked", "(I)Z"⟩
abbrev cX3_lend : ByteArray := prog_5_method_13_code
def yX3_lend : MethodName := ⟨RX3, "lend", "(I)V"⟩
abbrev cX3_isDormant : ByteArray := prog_5_method_14_code
def yX3_isDormant : MethodName := ⟨RX3, "isDormant", "(I)Z"⟩
abbrev cX3_dormantOnes : ByteArray := prog_5_method_15_code
def yX3_dormantOnes : MethodName := ⟨RX3, "dormantOnes", "()I"⟩
def RX4 : String := "CommonBond$Loans"
def TX4 : u_T := fun k => match k with
  | 0 => ("CommonBond$Loans", "size", "I", false)
  | 1 => ("CommonBond$Loans", "ask", "[I", true)
  | 2 => ("CommonBond$Loans", "member", "[I", true)
  | 3 => ("CommonBond$Loans", "kind", "[I", true)
  | 4 => ("CommonBond$Loans", "sum", "[I", true)
  | 5 => ("CommonBond$Loans", "weeks", "[I", true)
  | 6 => ("CommonBond$Loans", "lent", "[I", true)
  | 7 => ("CommonBond$Loans", "interest", "[I", true)
  | 8 => ("CommonBond$Loans", "usual", "[I", true)
  | 9 => ("CommonBond$Loans", "paid", "[I", true)
  | 10 => ("CommonBond$Loans", "lateWeeks", "[I", true)
  | 11 => ("CommonBond$Loans", "state", "[I", true)
  | 12 => ("CommonBond$Loans", "fromMember", "[I", true)
  | 13 => ("CommonBond$Loans", "fromBackers", "[I", true)
  | 14 => ("CommonBond$Loans", "lost", "[I", true)
  | _ => ("CommonBond$Loans", "earned", "[J", true)
def tyX4 : Nat → FieldType := fun k => match k with
  | 0 => .int
  | 1 => .array .int
  | 2 => .array .int
  | 3 => .array .int
  | 4 => .array .int
  | 5 => .array .int
  | 6 => .array .int
  | 7 => .array .int
  | 8 => .array .int
  | 9 => .array .int
  | 10 => .array .int
  | 11 => .array .int
  | 12 => .array .int
  | 13 => .array .int
  | 14 => .array .int
  | _ => .array .long
abbrev wsX40 : List Cond := u_ws RX4 TX4 16
theorem nmX4 : ∀ a, a < 16 → ∀ b, b < 16 → a ≠ b → (TX4 a).2.1 ≠ (TX4 b).2.1 := by decide +kernel
theorem tyX4_ok : ∀ k, k < 16 → parseFieldDescriptor (TX4 k).2.2.1 = some (tyX4 k) := by decide +kernel
abbrev cX4_init : ByteArray := prog_6_method_1_code
def yX4_init : MethodName := ⟨RX4, "<init>", "()V"⟩
abbrev cX4_usualDue : ByteArray := prog_6_method_2_code
def yX4_usualDue : MethodName := ⟨RX4, "usualDue", "(IIII)I"⟩
abbrev cX4_add : ByteArray := prog_6_method_3_code
def yX4_add : MethodName := ⟨RX4, "add", "(LCommonBond$Asks;III)I"⟩
abbrev cX4_owedBy : ByteArray := prog_6_method_4_code
def yX4_owedBy : MethodName := ⟨RX4, "owedBy", "(I)I"⟩
abbrev cX4_payOff : ByteArray := prog_6_method_5_code
def yX4_payOff : MethodName := ⟨RX4, "payOff", "(II)I"⟩
abbrev cX4_dueIn : ByteArray := prog_6_method_6_code
def yX4_dueIn : MethodName := ⟨RX4, "dueIn", "(II)I"⟩
abbrev cX4_dueThrough : ByteArray := prog_6_method_7_code
def yX4_dueThrough : MethodName := ⟨RX4, "dueThrough", "(II)I"⟩
abbrev cX4_isLate : ByteArray := prog_6_method_8_code
def yX4_isLate : MethodName := ⟨RX4, "isLate", "(II)Z"⟩
abbrev cX4_lateOf : ByteArray := prog_6_method_9_code
def yX4_lateOf : MethodName := ⟨RX4, "lateOf", "(II)I"⟩
abbrev cX4_hasFailed : ByteArray := prog_6_method_10_code
def yX4_hasFailed : MethodName := ⟨RX4, "hasFailed", "(I)Z"⟩
abbrev cX4_owedOf : ByteArray := prog_6_method_11_code
def yX4_owedOf : MethodName := ⟨RX4, "owedOf", "(I)I"⟩
abbrev cX4_heldOf : ByteArray := prog_6_method_12_code
def yX4_heldOf : MethodName := ⟨RX4, "heldOf", "(I)I"⟩
abbrev cX4_openOnes : ByteArray := prog_6_method_13_code
def yX4_openOnes : MethodName := ⟨RX4, "openOnes", "()I"⟩
abbrev cX4_owedByAll : ByteArray := prog_6_method_14_code
def yX4_owedByAll : MethodName := ⟨RX4, "owedByAll", "()I"⟩
abbrev cX4_dueOfAll : ByteArray := prog_6_method_15_code
def yX4_dueOfAll : MethodName := ⟨RX4, "dueOfAll", "(I)I"⟩
abbrev cX4_become : ByteArray := prog_6_method_16_code
def yX4_become : MethodName := ⟨RX4, "become", "(LCommonBond$Loans;)V"⟩
def RX5 : String := "CommonBond$Planner"
def TX5 : u_T := fun k => match k with
  | 0 => ("CommonBond$Planner", "state", "LCommonBond$State;", true)
  | 1 => ("CommonBond$Planner", "lender", "LCommonBond$Lender;", true)
  | 2 => ("CommonBond$Planner", "comes", "[I", true)
  | 3 => ("CommonBond$Planner", "brings", "[[I", true)
  | 4 => ("CommonBond$Planner", "trialLedger", "LCommonBond$Ledger;", true)
  | 5 => ("CommonBond$Planner", "trialLoans", "LCommonBond$Loans;", true)
  | 6 => ("CommonBond$Planner", "fallen", "I", false)
  | 7 => ("CommonBond$Planner", "fallLost", "I", false)
  | _ => ("CommonBond$Planner", "rounds", "I", false)
def tyX5 : Nat → FieldType := fun k => match k with
  | 0 => .object "CommonBond$State"
  | 1 => .object "CommonBond$Lender"
  | 2 => .array .int
  | 3 => .array (.array .int)
  | 4 => .object "CommonBond$Ledger"
  | 5 => .object "CommonBond$Loans"
  | 6 => .int
  | 7 => .int
  | _ => .int
abbrev wsX50 : List Cond := u_ws RX5 TX5 9
theorem nmX5 : ∀ a, a < 9 → ∀ b, b < 9 → a ≠ b → (TX5 a).2.1 ≠ (TX5 b).2.1 := by decide +kernel
theorem tyX5_ok : ∀ k, k < 9 → parseFieldDescriptor (TX5 k).2.2.1 = some (tyX5 k) := by decide +kernel
abbrev cX5_init : ByteArray := prog_7_method_1_code
def yX5_init : MethodName := ⟨RX5, "<init>", "(LCommonBond$State;LCommonBond$Lender;)V"⟩
abbrev cX5_mayJoin : ByteArray := prog_7_method_2_code
def yX5_mayJoin : MethodName := ⟨RX5, "mayJoin", "(I)Z"⟩
abbrev cX5_lasts : ByteArray := prog_7_method_3_code
def yX5_lasts : MethodName := ⟨RX5, "lasts", "(I)Z"⟩
abbrev cX5_bestOf : ByteArray := prog_7_method_4_code
def yX5_bestOf : MethodName := ⟨RX5, "bestOf", "(I)I"⟩
abbrev cX5_isBetter : ByteArray := prog_7_method_5_code
def yX5_isBetter : MethodName := ⟨RX5, "isBetter", "(II)Z"⟩
abbrev cX5_sumOf : ByteArray := prog_7_method_6_code
def yX5_sumOf : MethodName := ⟨RX5, "sumOf", "(I)I"⟩
abbrev cX5_foresee : ByteArray := prog_7_method_7_code
def yX5_foresee : MethodName := ⟨RX5, "foresee", "(I)V"⟩
abbrev cX5_foreseeAsk : ByteArray := prog_7_method_8_code
def yX5_foreseeAsk : MethodName := ⟨RX5, "foreseeAsk", "(II)V"⟩
abbrev cX5_foreseenLasts : ByteArray := prog_7_method_9_code
def yX5_foreseenLasts : MethodName := ⟨RX5, "foreseenLasts", "(I)Z"⟩
abbrev cX5_lastsThrough : ByteArray := prog_7_method_10_code
def yX5_lastsThrough : MethodName := ⟨RX5, "lastsThrough", "(II[I)Z"⟩
abbrev cX5_fell : ByteArray := prog_7_method_11_code
def yX5_fell : MethodName := ⟨RX5, "fell", "(I)V"⟩
abbrev cX5_failAll : ByteArray := prog_7_method_12_code
def yX5_failAll : MethodName := ⟨RX5, "failAll", "(I)V"⟩
abbrev cX5_wanting : ByteArray := prog_7_method_13_code
def yX5_wanting : MethodName := ⟨RX5, "wanting", "()I"⟩
def RX6 : String := "CommonBond$Reader"
def TX6 : u_T := fun k => match k with
  | 0 => ("CommonBond$Reader", "tape", "[I", true)
  | 1 => ("CommonBond$Reader", "size", "I", false)
  | 2 => ("CommonBond$Reader", "next", "I", false)
  | 3 => ("CommonBond$Reader", "token", "I", false)
  | 4 => ("CommonBond$Reader", "start", "I", false)
  | 5 => ("CommonBond$Reader", "value", "I", false)
  | 6 => ("CommonBond$Reader", "code", "[I", true)
  | 7 => ("CommonBond$Reader", "length", "I", false)
  | 8 => ("CommonBond$Reader", "key", "I", false)
  | 9 => ("CommonBond$Reader", "ifAt", "I", false)
  | _ => ("CommonBond$Reader", "fault", "I", false)
def tyX6 : Nat → FieldType := fun k => match k with
  | 0 => .array .int
  | 1 => .int
  | 2 => .int
  | 3 => .int
  | 4 => .int
  | 5 => .int
  | 6 => .array .int
  | 7 => .int
  | 8 => .int
  | 9 => .int
  | _ => .int
abbrev wsX60 : List Cond := u_ws RX6 TX6 11
theorem nmX6 : ∀ a, a < 11 → ∀ b, b < 11 → a ≠ b → (TX6 a).2.1 ≠ (TX6 b).2.1 := by decide +kernel
theorem tyX6_ok : ∀ k, k < 11 → parseFieldDescriptor (TX6 k).2.2.1 = some (tyX6 k) := by decide +kernel
abbrev cX6_init : ByteArray := prog_8_method_1_code
def yX6_init : MethodName := ⟨RX6, "<init>", "()V"⟩
abbrev cX6_append : ByteArray := prog_8_method_2_code
def yX6_append : MethodName := ⟨RX6, "append", "(II)I"⟩
abbrev cX6_readRule : ByteArray := prog_8_method_3_code
def yX6_readRule : MethodName := ⟨RX6, "readRule", "()Z"⟩
abbrev cX6_either : ByteArray := prog_8_method_4_code
def yX6_either : MethodName := ⟨RX6, "either", "(I)Z"⟩
abbrev cX6_both : ByteArray := prog_8_method_5_code
def yX6_both : MethodName := ⟨RX6, "both", "(I)Z"⟩
abbrev cX6_denied : ByteArray := prog_8_method_6_code
def yX6_denied : MethodName := ⟨RX6, "denied", "(I)Z"⟩
abbrev cX6_compared : ByteArray := prog_8_method_7_code
def yX6_compared : MethodName := ⟨RX6, "compared", "(I)Z"⟩
abbrev cX6_summed : ByteArray := prog_8_method_8_code
def yX6_summed : MethodName := ⟨RX6, "summed", "(I)Z"⟩
abbrev cX6_multiplied : ByteArray := prog_8_method_9_code
def yX6_multiplied : MethodName := ⟨RX6, "multiplied", "(I)Z"⟩
abbrev cX6_single : ByteArray := prog_8_method_10_code
def yX6_single : MethodName := ⟨RX6, "single", "(I)Z"⟩
abbrev cX6_emit : ByteArray := prog_8_method_11_code
def yX6_emit : MethodName := ⟨RX6, "emit", "(I)Z"⟩
abbrev cX6_faulty : ByteArray := prog_8_method_12_code
def yX6_faulty : MethodName := ⟨RX6, "faulty", "()Z"⟩
abbrev cX6_step : ByteArray := prog_8_method_13_code
def yX6_step : MethodName := ⟨RX6, "step", "()V"⟩
abbrev cX6_number : ByteArray := prog_8_method_14_code
def yX6_number : MethodName := ⟨RX6, "number", "()V"⟩
abbrev cX6_word : ByteArray := prog_8_method_15_code
def yX6_word : MethodName := ⟨RX6, "word", "()V"⟩
abbrev cX6_wordNumber : ByteArray := prog_8_method_16_code
def yX6_wordNumber : MethodName := ⟨RX6, "wordNumber", "()I"⟩
abbrev cX6_isDigit : ByteArray := prog_8_method_17_code
def yX6_isDigit : MethodName := ⟨RX6, "isDigit", "(I)Z"⟩
abbrev cX6_isLetter : ByteArray := prog_8_method_18_code
def yX6_isLetter : MethodName := ⟨RX6, "isLetter", "(I)Z"⟩
abbrev cX6_isSign : ByteArray := prog_8_method_19_code
def yX6_isSign : MethodName := ⟨RX6, "isSign", "(I)Z"⟩
def RX7 : String := "CommonBond$Rules"
def TX7 : u_T := fun k => match k with
  | 0 => ("CommonBond$Rules", "size", "I", false)
  | 1 => ("CommonBond$Rules", "key", "[I", true)
  | 2 => ("CommonBond$Rules", "from", "[I", true)
  | 3 => ("CommonBond$Rules", "to", "[I", true)
  | 4 => ("CommonBond$Rules", "ifAt", "[I", true)
  | 5 => ("CommonBond$Rules", "end", "[I", true)
  | 6 => ("CommonBond$Rules", "code", "[[I", true)
  | _ => ("CommonBond$Rules", "stack", "[I", true)
def tyX7 : Nat → FieldType := fun k => match k with
  | 0 => .int
  | 1 => .array .int
  | 2 => .array .int
  | 3 => .array .int
  | 4 => .array .int
  | 5 => .array .int
  | 6 => .array (.array .int)
  | _ => .array .int
abbrev wsX70 : List Cond := u_ws RX7 TX7 8
theorem nmX7 : ∀ a, a < 8 → ∀ b, b < 8 → a ≠ b → (TX7 a).2.1 ≠ (TX7 b).2.1 := by decide +kernel
theorem tyX7_ok : ∀ k, k < 8 → parseFieldDescriptor (TX7 k).2.2.1 = some (tyX7 k) := by decide +kernel
abbrev cX7_init : ByteArray := prog_9_method_1_code
def yX7_init : MethodName := ⟨RX7, "<init>", "()V"⟩
abbrev cX7_add : ByteArray := prog_9_method_2_code
def yX7_add : MethodName := ⟨RX7, "add", "(LCommonBond$Reader;II)I"⟩
abbrev cX7_ruleFor : ByteArray := prog_9_method_3_code
def yX7_ruleFor : MethodName := ⟨RX7, "ruleFor", "(II[I)I"⟩
abbrev cX7_valueOf : ByteArray := prog_9_method_4_code
def yX7_valueOf : MethodName := ⟨RX7, "valueOf", "(I[I)I"⟩
abbrev cX7_work : ByteArray := prog_9_method_5_code
def yX7_work : MethodName := ⟨RX7, "work", "(III[I)I"⟩
abbrev cX7_pair : ByteArray := prog_9_method_6_code
def yX7_pair : MethodName := ⟨RX7, "pair", "(III)I"⟩
abbrev cX7_become : ByteArray := prog_9_method_7_code
def yX7_become : MethodName := ⟨RX7, "become", "(LCommonBond$Rules;)V"⟩
def RX8 : String := "CommonBond$State"
def TX8 : u_T := fun k => match k with
  | 0 => ("CommonBond$State", "week", "I", false)
  | 1 => ("CommonBond$State", "members", "I", false)
  | 2 => ("CommonBond$State", "work", "[I", true)
  | 3 => ("CommonBond$State", "street", "[I", true)
  | 4 => ("CommonBond$State", "joined", "[I", true)
  | 5 => ("CommonBond$State", "death", "[I", true)
  | 6 => ("CommonBond$State", "acted", "[I", true)
  | 7 => ("CommonBond$State", "ledger", "LCommonBond$Ledger;", true)
  | 8 => ("CommonBond$State", "asks", "LCommonBond$Asks;", true)
  | 9 => ("CommonBond$State", "loans", "LCommonBond$Loans;", true)
  | 10 => ("CommonBond$State", "rules", "LCommonBond$Rules;", true)
  | 11 => ("CommonBond$State", "years", "LCommonBond$Years;", true)
  | 12 => ("CommonBond$State", "till", "LCommonBond$Till;", true)
  | 13 => ("CommonBond$State", "told", "[I", true)
  | _ => ("CommonBond$State", "drawn", "[[I", true)
def tyX8 : Nat → FieldType := fun k => match k with
  | 0 => .int
  | 1 => .int
  | 2 => .array .int
  | 3 => .array .int
  | 4 => .array .int
  | 5 => .array .int
  | 6 => .array .int
  | 7 => .object "CommonBond$Ledger"
  | 8 => .object "CommonBond$Asks"
  | 9 => .object "CommonBond$Loans"
  | 10 => .object "CommonBond$Rules"
  | 11 => .object "CommonBond$Years"
  | 12 => .object "CommonBond$Till"
  | 13 => .array .int
  | _ => .array (.array .int)
abbrev wsX80 : List Cond := u_ws RX8 TX8 15
theorem nmX8 : ∀ a, a < 15 → ∀ b, b < 15 → a ≠ b → (TX8 a).2.1 ≠ (TX8 b).2.1 := by decide +kernel
theorem tyX8_ok : ∀ k, k < 15 → parseFieldDescriptor (TX8 k).2.2.1 = some (tyX8 k) := by decide +kernel
abbrev cX8_init : ByteArray := prog_10_method_1_code
def yX8_init : MethodName := ⟨RX8, "<init>", "()V"⟩
abbrev cX8_join : ByteArray := prog_10_method_2_code
def yX8_join : MethodName := ⟨RX8, "join", "(II)I"⟩
abbrev cX8_move : ByteArray := prog_10_method_3_code
def yX8_move : MethodName := ⟨RX8, "move", "(III)I"⟩
abbrev cX8_entriesBehindDeath : ByteArray := prog_10_method_4_code
def yX8_entriesBehindDeath : MethodName := ⟨RX8, "entriesBehindDeath", "(I)I"⟩
abbrev cX8_become : ByteArray := prog_10_method_5_code
def yX8_become : MethodName := ⟨RX8, "become", "(LCommonBond$State;)V"⟩
def RX9 : String := "CommonBond$Till"
def TX9 : u_T := fun k => match k with
  | 0 => ("CommonBond$Till", "onDuty", "[I", true)
  | 1 => ("CommonBond$Till", "counts", "I", false)
  | 2 => ("CommonBond$Till", "countWeek", "[I", true)
  | 3 => ("CommonBond$Till", "shortBy", "[I", true)
  | 4 => ("CommonBond$Till", "books", "I", false)
  | 5 => ("CommonBond$Till", "bookMember", "[I", true)
  | 6 => ("CommonBond$Till", "bookWeek", "[I", true)
  | _ => ("CommonBond$Till", "bookMuch", "[I", true)
def tyX9 : Nat → FieldType := fun k => match k with
  | 0 => .array .int
  | 1 => .int
  | 2 => .array .int
  | 3 => .array .int
  | 4 => .int
  | 5 => .array .int
  | 6 => .array .int
  | _ => .array .int
abbrev wsX90 : List Cond := u_ws RX9 TX9 8
theorem nmX9 : ∀ a, a < 8 → ∀ b, b < 8 → a ≠ b → (TX9 a).2.1 ≠ (TX9 b).2.1 := by decide +kernel
theorem tyX9_ok : ∀ k, k < 8 → parseFieldDescriptor (TX9 k).2.2.1 = some (tyX9 k) := by decide +kernel
abbrev cX9_init : ByteArray := prog_11_method_1_code
def yX9_init : MethodName := ⟨RX9, "<init>", "()V"⟩
abbrev cX9_addCount : ByteArray := prog_11_method_2_code
def yX9_addCount : MethodName := ⟨RX9, "addCount", "(II)I"⟩
abbrev cX9_addBook : ByteArray := prog_11_method_3_code
def yX9_addBook : MethodName := ⟨RX9, "addBook", "(III)I"⟩
abbrev cX9_suspected : ByteArray := prog_11_method_4_code
def yX9_suspected : MethodName := ⟨RX9, "suspected", "()I"⟩
abbrev cX9_onDutyFrom : ByteArray := prog_11_method_5_code
def yX9_onDutyFrom : MethodName := ⟨RX9, "onDutyFrom", "(II)I"⟩
abbrev cX9_become : ByteArray := prog_11_method_6_code
def yX9_become : MethodName := ⟨RX9, "become", "(LCommonBond$Till;)V"⟩
def RX10 : String := "CommonBond$Years"
def TX10 : u_T := fun k => match k with
  | 0 => ("CommonBond$Years", "closed", "I", false)
  | 1 => ("CommonBond$Years", "sums", "[[J", true)
  | 2 => ("CommonBond$Years", "dividend", "[[J", true)
  | 3 => ("CommonBond$Years", "rebate", "[[J", true)
  | 4 => ("CommonBond$Years", "shares", "[[J", true)
  | 5 => ("CommonBond$Years", "earned", "[[J", true)
  | 6 => ("CommonBond$Years", "runningShares", "[J", true)
  | _ => ("CommonBond$Years", "runningLost", "J", false)
def tyX10 : Nat → FieldType := fun k => match k with
  | 0 => .int
  | 1 => .array (.array .long)
  | 2 => .array (.array .long)
  | 3 => .array (.array .long)
  | 4 => .array (.array .long)
  | 5 => .array (.array .long)
  | 6 => .array .long
  | _ => .long
abbrev wsX100 : List Cond := u_ws RX10 TX10 8
theorem nmX10 : ∀ a, a < 8 → ∀ b, b < 8 → a ≠ b → (TX10 a).2.1 ≠ (TX10 b).2.1 := by decide +kernel
theorem tyX10_ok : ∀ k, k < 8 → parseFieldDescriptor (TX10 k).2.2.1 = some (tyX10 k) := by decide +kernel
abbrev cX10_init : ByteArray := prog_12_method_1_code
def yX10_init : MethodName := ⟨RX10, "<init>", "()V"⟩
abbrev cX10_gotBy : ByteArray := prog_12_method_2_code
def yX10_gotBy : MethodName := ⟨RX10, "gotBy", "(II)J"⟩
abbrev cX10_become : ByteArray := prog_12_method_3_code
def yX10_become : MethodName := ⟨RX10, "become", "(LCommonBond$Years;)V"⟩
def RX11 : String := "CommonBond"
def TX11 : u_T := fun k => match k with
  | 0 => ("CommonBond", "now", "LCommonBond$State;", true)
  | 1 => ("CommonBond", "kept", "LCommonBond$State;", true)
  | 2 => ("CommonBond", "imaged", "Z", false)
  | 3 => ("CommonBond", "reader", "LCommonBond$Reader;", true)
  | 4 => ("CommonBond", "lender", "LCommonBond$Lender;", true)
  | 5 => ("CommonBond", "closer", "LCommonBond$Closer;", true)
  | 6 => ("CommonBond", "planner", "LCommonBond$Planner;", true)
  | 7 => ("CommonBond", "row", "[I", true)
  | 8 => ("CommonBond", "rowSize", "I", false)
  | _ => ("CommonBond", "refused", "[I", true)
def tyX11 : Nat → FieldType := fun k => match k with
  | 0 => .object "CommonBond$State"
  | 1 => .object "CommonBond$State"
  | 2 => .boolean
  | 3 => .object "CommonBond$Reader"
  | 4 => .object "CommonBond$Lender"
  | 5 => .object "CommonBond$Closer"
  | 6 => .object "CommonBond$Planner"
  | 7 => .array .int
  | 8 => .int
  | _ => .array .int
abbrev wsX110 : List Cond := u_ws RX11 TX11 10
theorem nmX11 : ∀ a, a < 10 → ∀ b, b < 10 → a ≠ b → (TX11 a).2.1 ≠ (TX11 b).2.1 := by decide +kernel
theorem tyX11_ok : ∀ k, k < 10 → parseFieldDescriptor (TX11 k).2.2.1 = some (tyX11 k) := by decide +kernel
abbrev cX11_init : ByteArray := prog_1_method_1_code
def yX11_init : MethodName := ⟨RX11, "<init>", "()V"⟩
abbrev cX11_member : ByteArray := prog_1_method_2_code
def yX11_member : MethodName := ⟨RX11, "member", "(II)I"⟩
abbrev cX11_died : ByteArray := prog_1_method_3_code
def yX11_died : MethodName := ⟨RX11, "died", "(II)I"⟩
abbrev cX11_save : ByteArray := prog_1_method_4_code
def yX11_save : MethodName := ⟨RX11, "save", "(II)I"⟩
abbrev cX11_draw : ByteArray := prog_1_method_5_code
def yX11_draw : MethodName := ⟨RX11, "draw", "(II)I"⟩
abbrev cX11_found : ByteArray := prog_1_method_6_code
def yX11_found : MethodName := ⟨RX11, "found", "(III)I"⟩
abbrev cX11_saved : ByteArray := prog_1_method_7_code
def yX11_saved : MethodName := ⟨RX11, "saved", "(III)I"⟩
abbrev cX11_look : ByteArray := prog_1_method_8_code
def yX11_look : MethodName := ⟨RX11, "look", "(II)I"⟩
abbrev cX11_ask : ByteArray := prog_1_method_9_code
def yX11_ask : MethodName := ⟨RX11, "ask", "(III)I"⟩
abbrev cX11_back : ByteArray := prog_1_method_10_code
def yX11_back : MethodName := ⟨RX11, "back", "(III)I"⟩
abbrev cX11_askOf : ByteArray := prog_1_method_11_code
def yX11_askOf : MethodName := ⟨RX11, "askOf", "(II)I"⟩
abbrev cX11_answer : ByteArray := prog_1_method_12_code
def yX11_answer : MethodName := ⟨RX11, "answer", "(I)I"⟩
abbrev cX11_pay : ByteArray := prog_1_method_13_code
def yX11_pay : MethodName := ⟨RX11, "pay", "(II)I"⟩
abbrev cX11_loanOf : ByteArray := prog_1_method_14_code
def yX11_loanOf : MethodName := ⟨RX11, "loanOf", "(II)I"⟩
abbrev cX11_dues : ByteArray := prog_1_method_15_code
def yX11_dues : MethodName := ⟨RX11, "dues", "(II)I"⟩
abbrev cX11_taken : ByteArray := prog_1_method_16_code
def yX11_taken : MethodName := ⟨RX11, "taken", "(II)I"⟩
abbrev cX11_alike : ByteArray := prog_1_method_17_code
def yX11_alike : MethodName := ⟨RX11, "alike", "(II)I"⟩
abbrev cX11_feed : ByteArray := prog_1_method_18_code
def yX11_feed : MethodName := ⟨RX11, "feed", "(II)I"⟩
abbrev cX11_wipe : ByteArray := prog_1_method_19_code
def yX11_wipe : MethodName := ⟨RX11, "wipe", "()I"⟩
abbrev cX11_rule : ByteArray := prog_1_method_20_code
def yX11_rule : MethodName := ⟨RX11, "rule", "(II)I"⟩
abbrev cX11_says : ByteArray := prog_1_method_21_code
def yX11_says : MethodName := ⟨RX11, "says", "(II)I"⟩
abbrev cX11_why : ByteArray := prog_1_method_22_code
def yX11_why : MethodName := ⟨RX11, "why", "(II)I"⟩
abbrev cX11_run : ByteArray := prog_1_method_23_code
def yX11_run : MethodName := ⟨RX11, "run", "(I)I"⟩
abbrev cX11_cost : ByteArray := prog_1_method_24_code
def yX11_cost : MethodName := ⟨RX11, "cost", "(I)I"⟩
abbrev cX11_year : ByteArray := prog_1_method_25_code
def yX11_year : MethodName := ⟨RX11, "year", "(II)J"⟩
abbrev cX11_got : ByteArray := prog_1_method_26_code
def yX11_got : MethodName := ⟨RX11, "got", "(III)J"⟩
abbrev cX11_voided : ByteArray := prog_1_method_27_code
def yX11_voided : MethodName := ⟨RX11, "voided", "()I"⟩
abbrev cX11_runs : ByteArray := prog_1_method_28_code
def yX11_runs : MethodName := ⟨RX11, "runs", "(III)I"⟩
abbrev cX11_calm : ByteArray := prog_1_method_29_code
def yX11_calm : MethodName := ⟨RX11, "calm", "(I)I"⟩
abbrev cX11_best : ByteArray := prog_1_method_30_code
def yX11_best : MethodName := ⟨RX11, "best", "(I)I"⟩
abbrev cX11_judge : ByteArray := prog_1_method_31_code
def yX11_judge : MethodName := ⟨RX11, "judge", "()I"⟩
abbrev cX11_fall : ByteArray := prog_1_method_32_code
def yX11_fall : MethodName := ⟨RX11, "fall", "(II)I"⟩
abbrev cX11_duty : ByteArray := prog_1_method_33_code
def yX11_duty : MethodName := ⟨RX11, "duty", "(I)I"⟩
abbrev cX11_counted : ByteArray := prog_1_method_34_code
def yX11_counted : MethodName := ⟨RX11, "counted", "(I)I"⟩
abbrev cX11_suspects : ByteArray := prog_1_method_35_code
def yX11_suspects : MethodName := ⟨RX11, "suspects", "()I"⟩
abbrev cX11_book : ByteArray := prog_1_method_36_code
def yX11_book : MethodName := ⟨RX11, "book", "(III)I"⟩
abbrev cX11_wrong : ByteArray := prog_1_method_37_code
def yX11_wrong : MethodName := ⟨RX11, "wrong", "()I"⟩
abbrev cX11_count : ByteArray := prog_1_method_38_code
def yX11_count : MethodName := ⟨RX11, "count", "(I)I"⟩
abbrev cX11_image : ByteArray := prog_1_method_39_code
def yX11_image : MethodName := ⟨RX11, "image", "()I"⟩
abbrev cX11_undo : ByteArray := prog_1_method_40_code
def yX11_undo : MethodName := ⟨RX11, "undo", "()I"⟩
abbrev cX11_lay : ByteArray := prog_1_method_41_code
def yX11_lay : MethodName := ⟨RX11, "lay", "(I)I"⟩
abbrev cX11_set : ByteArray := prog_1_method_42_code
def yX11_set : MethodName := ⟨RX11, "set", "(II)I"⟩
abbrev cX11_tear : ByteArray := prog_1_method_43_code
def yX11_tear : MethodName := ⟨RX11, "tear", "()I"⟩
abbrev cX11_row : ByteArray := prog_1_method_44_code
def yX11_row : MethodName := ⟨RX11, "row", "(I)I"⟩
abbrev cX11_copy : ByteArray := prog_1_method_45_code
def yX11_copy : MethodName := ⟨RX11, "copy", "(III)I"⟩
abbrev cX11_status : ByteArray := prog_1_method_46_code
def yX11_status : MethodName := ⟨RX11, "status", "(I)I"⟩
abbrev cX11_refuse : ByteArray := prog_1_method_47_code
def yX11_refuse : MethodName := ⟨RX11, "refuse", "(I)I"⟩
abbrev cX11_tellZero : ByteArray := prog_1_method_48_code
def yX11_tellZero : MethodName := ⟨RX11, "tellZero", "(I)I"⟩
abbrev cX11_outside : ByteArray := prog_1_method_49_code
def yX11_outside : MethodName := ⟨RX11, "outside", "(III)Z"⟩
abbrev cX11_noMember : ByteArray := prog_1_method_50_code
def yX11_noMember : MethodName := ⟨RX11, "noMember", "(I)Z"⟩
abbrev cX11_noAsk : ByteArray := prog_1_method_51_code
def yX11_noAsk : MethodName := ⟨RX11, "noAsk", "(I)Z"⟩
abbrev cX11_noLoan : ByteArray := prog_1_method_52_code
def yX11_noLoan : MethodName := ⟨RX11, "noLoan", "(I)Z"⟩
abbrev cX11_noWeek : ByteArray := prog_1_method_53_code
def yX11_noWeek : MethodName := ⟨RX11, "noWeek", "(I)Z"⟩
abbrev cX11_nobody : ByteArray := prog_1_method_54_code
def yX11_nobody : MethodName := ⟨RX11, "nobody", "(I)Z"⟩
abbrev cX11_knowWho : ByteArray := prog_1_method_55_code
def yX11_knowWho : MethodName := ⟨RX11, "knowWho", "(I)V"⟩
def RX12 : String := "CommonBondModel"
def TX12 : u_T := fun k => match k with
  | 0 => ("CommonBondModel", "p", "[I", true)
  | 1 => ("CommonBondModel", "kept", "[I", true)
  | 2 => ("CommonBondModel", "aside", "[I", true)
  | 3 => ("CommonBondModel", "weeks", "[J", true)
  | 4 => ("CommonBondModel", "keptWeeks", "[J", true)
  | 5 => ("CommonBondModel", "asideWeeks", "[J", true)
  | 6 => ("CommonBondModel", "hasImage", "Z", false)
  | 7 => ("CommonBondModel", "counts", "[I", true)
  | 8 => ("CommonBondModel", "tape", "[I", true)
  | 9 => ("CommonBondModel", "taped", "I", false)
  | 10 => ("CommonBondModel", "rowSize", "I", false)
  | 11 => ("CommonBondModel", "cells", "[I", true)
  | 12 => ("CommonBondModel", "at", "I", false)
  | 13 => ("CommonBondModel", "begun", "I", false)
  | 14 => ("CommonBondModel", "token", "I", false)
  | 15 => ("CommonBondModel", "value", "I", false)
  | 16 => ("CommonBondModel", "opens", "I", false)
  | 17 => ("CommonBondModel", "out", "I", false)
  | 18 => ("CommonBondModel", "codesAt", "I", false)
  | 19 => ("CommonBondModel", "isFaulty", "Z", false)
  | 20 => ("CommonBondModel", "words", "[J", true)
  | 21 => ("CommonBondModel", "names", "[I", true)
  | 22 => ("CommonBondModel", "stack", "[I", true)
  | 23 => ("CommonBondModel", "said", "I", false)
  | 24 => ("CommonBondModel", "parts", "[J", true)
  | 25 => ("CommonBondModel", "gets", "[J", true)
  | 26 => ("CommonBondModel", "comesIn", "[J", true)
  | _ => ("CommonBondModel", "comesOf", "[I", true)
def tyX12 : Nat → FieldType := fun k => match k with
  | 0 => .array .int
  | 1 => .array .int
  | 2 => .array .int
  | 3 => .array .long
  | 4 => .array .long
  | 5 => .array .long
  | 6 => .boolean
  | 7 => .array .int
  | 8 => .array .int
  | 9 => .int
  | 10 => .int
  | 11 => .array .int
  | 12 => .int
  | 13 => .int
  | 14 => .int
  | 15 => .int
  | 16 => .int
  | 17 => .int
  | 18 => .int
  | 19 => .boolean
  | 20 => .array .long
  | 21 => .array .int
  | 22 => .array .int
  | 23 => .int
  | 24 => .array .long
  | 25 => .array .long
  | 26 => .array .long
  | _ => .array .int
abbrev wsX120 : List Cond := u_ws RX12 TX12 28
theorem nmX12 : ∀ a, a < 28 → ∀ b, b < 28 → a ≠ b → (TX12 a).2.1 ≠ (TX12 b).2.1 := by decide +kernel
theorem tyX12_ok : ∀ k, k < 28 → parseFieldDescriptor (TX12 k).2.2.1 = some (tyX12 k) := by decide +kernel
abbrev cX12_init : ByteArray := prog_14_method_1_code
def yX12_init : MethodName := ⟨RX12, "<init>", "()V"⟩
abbrev cX12_in : ByteArray := prog_14_method_3_code
def yX12_in : MethodName := ⟨RX12, "in", "(III)Z"⟩
abbrev cX12_refuse : ByteArray := prog_14_method_4_code
def yX12_refuse : MethodName := ⟨RX12, "refuse", "(I)I"⟩
abbrev cX12_nought : ByteArray := prog_14_method_5_code
def yX12_nought : MethodName := ⟨RX12, "nought", "(I)I"⟩
abbrev cX12_isMember : ByteArray := prog_14_method_6_code
def yX12_isMember : MethodName := ⟨RX12, "isMember", "(I)Z"⟩
abbrev cX12_isAsk : ByteArray := prog_14_method_7_code
def yX12_isAsk : MethodName := ⟨RX12, "isAsk", "(I)Z"⟩
abbrev cX12_isLoan : ByteArray := prog_14_method_8_code
def yX12_isLoan : MethodName := ⟨RX12, "isLoan", "(I)Z"⟩
abbrev cX12_sameEntry : ByteArray := prog_14_method_9_code
def yX12_sameEntry : MethodName := ⟨RX12, "sameEntry", "(II)I"⟩
abbrev cX12_enters : ByteArray := prog_14_method_10_code
def yX12_enters : MethodName := ⟨RX12, "enters", "(III)V"⟩
abbrev cX12_hasRoom : ByteArray := prog_14_method_11_code
def yX12_hasRoom : MethodName := ⟨RX12, "hasRoom", "(II)Z"⟩
abbrev cX12_savedIn : ByteArray := prog_14_method_12_code
def yX12_savedIn : MethodName := ⟨RX12, "savedIn", "(III)I"⟩
abbrev cX12_savedNow : ByteArray := prog_14_method_13_code
def yX12_savedNow : MethodName := ⟨RX12, "savedNow", "(I)I"⟩
abbrev cX12_member : ByteArray := prog_14_method_14_code
def yX12_member : MethodName := ⟨RX12, "member", "(II)I"⟩
abbrev cX12_died : ByteArray := prog_14_method_15_code
def yX12_died : MethodName := ⟨RX12, "died", "(II)I"⟩
abbrev cX12_save : ByteArray := prog_14_method_16_code
def yX12_save : MethodName := ⟨RX12, "save", "(II)I"⟩
abbrev cX12_draw : ByteArray := prog_14_method_17_code
def yX12_draw : MethodName := ⟨RX12, "draw", "(II)I"⟩
abbrev cX12_found : ByteArray := prog_14_method_18_code
def yX12_found : MethodName := ⟨RX12, "found", "(III)I"⟩
abbrev cX12_saved : ByteArray := prog_14_method_19_code
def yX12_saved : MethodName := ⟨RX12, "saved", "(III)I"⟩
abbrev cX12_isSecured : ByteArray := prog_14_method_20_code
def yX12_isSecured : MethodName := ⟨RX12, "isSecured", "(I)Z"⟩
abbrev cX12_isBacked : ByteArray := prog_14_method_21_code
def yX12_isBacked : MethodName := ⟨RX12, "isBacked", "(I)Z"⟩
abbrev cX12_owed : ByteArray := prog_14_method_22_code
def yX12_owed : MethodName := ⟨RX12, "owed", "(I)I"⟩
abbrev cX12_isOf : ByteArray := prog_14_method_23_code
def yX12_isOf : MethodName := ⟨RX12, "isOf", "(II)Z"⟩
abbrev cX12_owes : ByteArray := prog_14_method_24_code
def yX12_owes : MethodName := ⟨RX12, "owes", "(I)I"⟩
abbrev cX12_held : ByteArray := prog_14_method_25_code
def yX12_held : MethodName := ⟨RX12, "held", "(I)I"⟩
abbrev cX12_dueOf : ByteArray := prog_14_method_26_code
def yX12_dueOf : MethodName := ⟨RX12, "dueOf", "(III)I"⟩
abbrev cX12_duesIn : ByteArray := prog_14_method_27_code
def yX12_duesIn : MethodName := ⟨RX12, "duesIn", "(II)I"⟩
abbrev cX12_dueTill : ByteArray := prog_14_method_28_code
def yX12_dueTill : MethodName := ⟨RX12, "dueTill", "(II)I"⟩
abbrev cX12_isLate : ByteArray := prog_14_method_29_code
def yX12_isLate : MethodName := ⟨RX12, "isLate", "(II)Z"⟩
abbrev cX12_lateOf : ByteArray := prog_14_method_30_code
def yX12_lateOf : MethodName := ⟨RX12, "lateOf", "(I)I"⟩
abbrev cX12_isDormant : ByteArray := prog_14_method_31_code
def yX12_isDormant : MethodName := ⟨RX12, "isDormant", "(I)Z"⟩
abbrev cX12_lateEntries : ByteArray := prog_14_method_32_code
def yX12_lateEntries : MethodName := ⟨RX12, "lateEntries", "(I)I"⟩
abbrev cX12_look : ByteArray := prog_14_method_33_code
def yX12_look : MethodName := ⟨RX12, "look", "(II)I"⟩
abbrev cX12_ask : ByteArray := prog_14_method_34_code
def yX12_ask : MethodName := ⟨RX12, "ask", "(III)I"⟩
abbrev cX12_back : ByteArray := prog_14_method_35_code
def yX12_back : MethodName := ⟨RX12, "back", "(III)I"⟩
abbrev cX12_pledges : ByteArray := prog_14_method_36_code
def yX12_pledges : MethodName := ⟨RX12, "pledges", "(I)I"⟩
abbrev cX12_limit : ByteArray := prog_14_method_37_code
def yX12_limit : MethodName := ⟨RX12, "limit", "(I)I"⟩
abbrev cX12_interest : ByteArray := prog_14_method_38_code
def yX12_interest : MethodName := ⟨RX12, "interest", "(I)I"⟩
abbrev cX12_isBarred : ByteArray := prog_14_method_39_code
def yX12_isBarred : MethodName := ⟨RX12, "isBarred", "(I)Z"⟩
abbrev cX12_isStoodFor : ByteArray := prog_14_method_40_code
def yX12_isStoodFor : MethodName := ⟨RX12, "isStoodFor", "(I)Z"⟩
abbrev cX12_answerNow : ByteArray := prog_14_method_41_code
def yX12_answerNow : MethodName := ⟨RX12, "answerNow", "(I)I"⟩
abbrev cX12_askOf : ByteArray := prog_14_method_42_code
def yX12_askOf : MethodName := ⟨RX12, "askOf", "(II)I"⟩
abbrev cX12_answer : ByteArray := prog_14_method_43_code
def yX12_answer : MethodName := ⟨RX12, "answer", "(I)I"⟩
abbrev cX12_pay : ByteArray := prog_14_method_44_code
def yX12_pay : MethodName := ⟨RX12, "pay", "(II)I"⟩
abbrev cX12_loanOf : ByteArray := prog_14_method_45_code
def yX12_loanOf : MethodName := ⟨RX12, "loanOf", "(II)I"⟩
abbrev cX12_dues : ByteArray := prog_14_method_46_code
def yX12_dues : MethodName := ⟨RX12, "dues", "(II)I"⟩
abbrev cX12_isUnder : ByteArray := prog_14_method_47_code
def yX12_isUnder : MethodName := ⟨RX12, "isUnder", "(II)Z"⟩
abbrev cX12_taken : ByteArray := prog_14_method_48_code
def yX12_taken : MethodName := ⟨RX12, "taken", "(II)I"⟩
abbrev cX12_alike : ByteArray := prog_14_method_49_code
def yX12_alike : MethodName := ⟨RX12, "alike", "(II)I"⟩
abbrev cX12_feed : ByteArray := prog_14_method_50_code
def yX12_feed : MethodName := ⟨RX12, "feed", "(II)I"⟩
abbrev cX12_wipe : ByteArray := prog_14_method_51_code
def yX12_wipe : MethodName := ⟨RX12, "wipe", "()I"⟩
abbrev cX12_nextWord : ByteArray := prog_14_method_52_code
def yX12_nextWord : MethodName := ⟨RX12, "nextWord", "()V"⟩
abbrev cX12_next : ByteArray := prog_14_method_53_code
def yX12_next : MethodName := ⟨RX12, "next", "()V"⟩
abbrev cX12_puts : ByteArray := prog_14_method_54_code
def yX12_puts : MethodName := ⟨RX12, "puts", "(I)V"⟩
abbrev cX12_opensOne : ByteArray := prog_14_method_55_code
def yX12_opensOne : MethodName := ⟨RX12, "opensOne", "()Z"⟩
abbrev cX12_or : ByteArray := prog_14_method_56_code
def yX12_or : MethodName := ⟨RX12, "or", "()V"⟩
abbrev cX12_and : ByteArray := prog_14_method_57_code
def yX12_and : MethodName := ⟨RX12, "and", "()V"⟩
abbrev cX12_not : ByteArray := prog_14_method_58_code
def yX12_not : MethodName := ⟨RX12, "not", "()V"⟩
abbrev cX12_sum : ByteArray := prog_14_method_59_code
def yX12_sum : MethodName := ⟨RX12, "sum", "()V"⟩
abbrev cX12_term : ByteArray := prog_14_method_60_code
def yX12_term : MethodName := ⟨RX12, "term", "()V"⟩
abbrev cX12_one : ByteArray := prog_14_method_61_code
def yX12_one : MethodName := ⟨RX12, "one", "()V"⟩
abbrev cX12_closesOne : ByteArray := prog_14_method_62_code
def yX12_closesOne : MethodName := ⟨RX12, "closesOne", "()V"⟩
abbrev cX12_rule : ByteArray := prog_14_method_63_code
def yX12_rule : MethodName := ⟨RX12, "rule", "(II)I"⟩
abbrev cX12_two : ByteArray := prog_14_method_64_code
def yX12_two : MethodName := ⟨RX12, "two", "(III)I"⟩
abbrev cX12_worth : ByteArray := prog_14_method_65_code
def yX12_worth : MethodName := ⟨RX12, "worth", "(III)I"⟩
abbrev cX12_names : ByteArray := prog_14_method_66_code
def yX12_names : MethodName := ⟨RX12, "names", "(I)V"⟩
abbrev cX12_finds : ByteArray := prog_14_method_67_code
def yX12_finds : MethodName := ⟨RX12, "finds", "(II)I"⟩
abbrev cX12_isAsked : ByteArray := prog_14_method_68_code
def yX12_isAsked : MethodName := ⟨RX12, "isAsked", "(II)Z"⟩
abbrev cX12_says : ByteArray := prog_14_method_69_code
def yX12_says : MethodName := ⟨RX12, "says", "(II)I"⟩
abbrev cX12_why : ByteArray := prog_14_method_70_code
def yX12_why : MethodName := ⟨RX12, "why", "(II)I"⟩
abbrev cX12_takes : ByteArray := prog_14_method_71_code
def yX12_takes : MethodName := ⟨RX12, "takes", "(II)I"⟩
abbrev cX12_fails : ByteArray := prog_14_method_72_code
def yX12_fails : MethodName := ⟨RX12, "fails", "(I)I"⟩
abbrev cX12_passes : ByteArray := prog_14_method_73_code
def yX12_passes : MethodName := ⟨RX12, "passes", "()I"⟩
abbrev cX12_partsOut : ByteArray := prog_14_method_74_code
def yX12_partsOut : MethodName := ⟨RX12, "partsOut", "(J)J"⟩
abbrev cX12_bound : ByteArray := prog_14_method_75_code
def yX12_bound : MethodName := ⟨RX12, "bound", "(I)I"⟩
abbrev cX12_closesYear : ByteArray := prog_14_method_76_code
def yX12_closesYear : MethodName := ⟨RX12, "closesYear", "()V"⟩
abbrev cX12_given : ByteArray := prog_14_method_77_code
def yX12_given : MethodName := ⟨RX12, "given", "(II)V"⟩
abbrev cX12_closes : ByteArray := prog_14_method_78_code
def yX12_closes : MethodName := ⟨RX12, "closes", "()I"⟩
abbrev cX12_run : ByteArray := prog_14_method_79_code
def yX12_run : MethodName := ⟨RX12, "run", "(I)I"⟩
abbrev cX12_cost : ByteArray := prog_14_method_80_code
def yX12_cost : MethodName := ⟨RX12, "cost", "(I)I"⟩
abbrev cX12_isYear : ByteArray := prog_14_method_81_code
def yX12_isYear : MethodName := ⟨RX12, "isYear", "(I)Z"⟩
abbrev cX12_year : ByteArray := prog_14_method_82_code
def yX12_year : MethodName := ⟨RX12, "year", "(II)J"⟩
abbrev cX12_sharesNow : ByteArray := prog_14_method_83_code
def yX12_sharesNow : MethodName := ⟨RX12, "sharesNow", "(II)J"⟩
abbrev cX12_got : ByteArray := prog_14_method_84_code
def yX12_got : MethodName := ⟨RX12, "got", "(III)J"⟩
abbrev cX12_voided : ByteArray := prog_14_method_85_code
def yX12_voided : MethodName := ⟨RX12, "voided", "()I"⟩
abbrev cX12_runs : ByteArray := prog_14_method_86_code
def yX12_runs : MethodName := ⟨RX12, "runs", "(III)I"⟩
abbrev cX12_calm : ByteArray := prog_14_method_87_code
def yX12_calm : MethodName := ⟨RX12, "calm", "(I)I"⟩
abbrev cX12_mayBe : ByteArray := prog_14_method_88_code
def yX12_mayBe : MethodName := ⟨RX12, "mayBe", "(I)Z"⟩
abbrev cX12_foresees : ByteArray := prog_14_method_89_code
def yX12_foresees : MethodName := ⟨RX12, "foresees", "(I)V"⟩
abbrev cX12_lastsBy : ByteArray := prog_14_method_90_code
def yX12_lastsBy : MethodName := ⟨RX12, "lastsBy", "(IJI)Z"⟩
abbrev cX12_lasts : ByteArray := prog_14_method_91_code
def yX12_lasts : MethodName := ⟨RX12, "lasts", "(I)Z"⟩
abbrev cX12_many : ByteArray := prog_14_method_92_code
def yX12_many : MethodName := ⟨RX12, "many", "(I)I"⟩
abbrev cX12_sums : ByteArray := prog_14_method_93_code
def yX12_sums : MethodName := ⟨RX12, "sums", "(I)J"⟩
abbrev cX12_isBetter : ByteArray := prog_14_method_94_code
def yX12_isBetter : MethodName := ⟨RX12, "isBetter", "(II)Z"⟩
abbrev cX12_best : ByteArray := prog_14_method_95_code
def yX12_best : MethodName := ⟨RX12, "best", "(I)I"⟩
abbrev cX12_judge : ByteArray := prog_14_method_96_code
def yX12_judge : MethodName := ⟨RX12, "judge", "()I"⟩
abbrev cX12_failAll : ByteArray := prog_14_method_97_code
def yX12_failAll : MethodName := ⟨RX12, "failAll", "(I)I"⟩
abbrev cX12_fall : ByteArray := prog_14_method_98_code
def yX12_fall : MethodName := ⟨RX12, "fall", "(II)I"⟩
abbrev cX12_duty : ByteArray := prog_14_method_99_code
def yX12_duty : MethodName := ⟨RX12, "duty", "(I)I"⟩
abbrev cX12_counted : ByteArray := prog_14_method_100_code
def yX12_counted : MethodName := ⟨RX12, "counted", "(I)I"⟩
abbrev cX12_suspects : ByteArray := prog_14_method_101_code
def yX12_suspects : MethodName := ⟨RX12, "suspects", "()I"⟩
abbrev cX12_book : ByteArray := prog_14_method_102_code
def yX12_book : MethodName := ⟨RX12, "book", "(III)I"⟩
abbrev cX12_wrong : ByteArray := prog_14_method_103_code
def yX12_wrong : MethodName := ⟨RX12, "wrong", "()I"⟩
abbrev cX12_count : ByteArray := prog_14_method_104_code
def yX12_count : MethodName := ⟨RX12, "count", "(I)I"⟩
abbrev cX12_image : ByteArray := prog_14_method_105_code
def yX12_image : MethodName := ⟨RX12, "image", "()I"⟩
abbrev cX12_undo : ByteArray := prog_14_method_106_code
def yX12_undo : MethodName := ⟨RX12, "undo", "()I"⟩
abbrev cX12_lay : ByteArray := prog_14_method_107_code
def yX12_lay : MethodName := ⟨RX12, "lay", "(I)I"⟩
abbrev cX12_set : ByteArray := prog_14_method_108_code
def yX12_set : MethodName := ⟨RX12, "set", "(II)I"⟩
abbrev cX12_tear : ByteArray := prog_14_method_109_code
def yX12_tear : MethodName := ⟨RX12, "tear", "()I"⟩
abbrev cX12_row : ByteArray := prog_14_method_110_code
def yX12_row : MethodName := ⟨RX12, "row", "(I)I"⟩
abbrev cX12_copy : ByteArray := prog_14_method_111_code
def yX12_copy : MethodName := ⟨RX12, "copy", "(III)I"⟩
abbrev cX12_status : ByteArray := prog_14_method_112_code
def yX12_status : MethodName := ⟨RX12, "status", "(I)I"⟩
def RJx145de : String := "java/io/Serializable"
def TJx145de : u_T := fun k => match k with
  | _ => ("", "", "", false)
def tyJx145de : Nat → FieldType := fun k => match k with
  | _ => .int
def RJx9f9b0 : String := "java/lang/CharSequence"
def TJx9f9b0 : u_T := fun k => match k with
  | _ => ("", "", "", false)
def tyJx9f9b0 : Nat → FieldType := fun k => match k with
  | _ => .int
def RJxb160c : String := "java/lang/Comparable"
def TJxb160c : u_T := fun k => match k with
  | _ => ("", "", "", false)
def tyJxb160c : Nat → FieldType := fun k => match k with
  | _ => .int
def RJ6 : String := "java/lang/Integer"
def TJ6 : u_T := fun k => match k with
  | _ => ("", "", "", false)
def tyJ6 : Nat → FieldType := fun k => match k with
  | _ => .int
abbrev cJ6_bitCount_0f7a4 : ByteArray := prog_15_method_49_code
def yJ6_bitCount_0f7a4 : MethodName := ⟨RJ6, "bitCount", "(I)I"⟩
def RJ9 : String := "java/lang/Math"
def TJ9 : u_T := fun k => match k with
  | _ => ("", "", "", false)
def tyJ9 : Nat → FieldType := fun k => match k with
  | _ => .int
abbrev cJ9_max_7cf53 : ByteArray := prog_16_method_65_code
def yJ9_max_7cf53 : MethodName := ⟨RJ9, "max", "(II)I"⟩
abbrev cJ9_min_7cf53 : ByteArray := prog_16_method_69_code
def yJ9_min_7cf53 : MethodName := ⟨RJ9, "min", "(II)I"⟩
def RJ0 : String := "java/lang/String"
def TJ0 : u_T := fun k => match k with
  | _ => ("", "", "", false)
def tyJ0 : Nat → FieldType := fun k => match k with
  | _ => .int
abbrev cJ0_length_8abf5 : ByteArray := prog_17_method_54_code
def yJ0_length_8abf5 : MethodName := ⟨RJ0, "length", "()I"⟩
abbrev cJ0_charAt_5068e : ByteArray := prog_17_method_56_code
def yJ0_charAt_5068e : MethodName := ⟨RJ0, "charAt", "(I)C"⟩
abbrev cJ0_coder_7d493 : ByteArray := prog_17_method_152_code
def yJ0_coder_7d493 : MethodName := ⟨RJ0, "coder", "()B"⟩
abbrev cJ0_isLatin1_aae02 : ByteArray := prog_17_method_154_code
def yJ0_isLatin1_aae02 : MethodName := ⟨RJ0, "isLatin1", "()Z"⟩
abbrev cJ0_checkIndex_df160 : ByteArray := prog_17_method_155_code
def yJ0_checkIndex_df160 : MethodName := ⟨RJ0, "checkIndex", "(II)V"⟩
def RJ1 : String := "java/lang/StringLatin1"
def TJ1 : u_T := fun k => match k with
  | _ => ("", "", "", false)
def tyJ1 : Nat → FieldType := fun k => match k with
  | _ => .int
abbrev cJ1_charAt_3b067 : ByteArray := prog_18_method_2_code
def yJ1_charAt_3b067 : MethodName := ⟨RJ1, "charAt", "([BI)C"⟩
def RJ2 : String := "java/lang/StringUTF16"
def TJ2 : u_T := fun k => match k with
  | _ => ("", "", "", false)
def tyJ2 : Nat → FieldType := fun k => match k with
  | _ => .int
abbrev cJ2_getChar_3b067 : ByteArray := prog_19_method_5_code
def yJ2_getChar_3b067 : MethodName := ⟨RJ2, "getChar", "([BI)C"⟩
abbrev cJ2_length_9d52b : ByteArray := prog_19_method_6_code
def yJ2_length_9d52b : MethodName := ⟨RJ2, "length", "([B)I"⟩
abbrev cJ2_charAt_3b067 : ByteArray := prog_19_method_83_code
def yJ2_charAt_3b067 : MethodName := ⟨RJ2, "charAt", "([BI)C"⟩
abbrev cJ2_checkIndex_2214a : ByteArray := prog_19_method_91_code
def yJ2_checkIndex_2214a : MethodName := ⟨RJ2, "checkIndex", "(I[B)V"⟩
def RJ10 : String := "java/lang/System"
def TJ10 : u_T := fun k => match k with
  | _ => ("", "", "", false)
def tyJ10 : Nat → FieldType := fun k => match k with
  | _ => .int
def RJxfd54e : String := "java/lang/constant/Constable"
def TJxfd54e : u_T := fun k => match k with
  | _ => ("", "", "", false)
def tyJxfd54e : Nat → FieldType := fun k => match k with
  | _ => .int
def RJx3cf43 : String := "java/lang/constant/ConstantDesc"
def TJx3cf43 : u_T := fun k => match k with
  | _ => ("", "", "", false)
def tyJx3cf43 : Nat → FieldType := fun k => match k with
  | _ => .int
def RJ7 : String := "java/util/Arrays"
def TJ7 : u_T := fun k => match k with
  | _ => ("", "", "", false)
def tyJ7 : Nat → FieldType := fun k => match k with
  | _ => .int
abbrev cJ7_fill_d0a16 : ByteArray := prog_21_method_101_code
def yJ7_fill_d0a16 : MethodName := ⟨RJ7, "fill", "([JJ)V"⟩
abbrev cJ7_fill_53178 : ByteArray := prog_21_method_103_code
def yJ7_fill_53178 : MethodName := ⟨RJ7, "fill", "([II)V"⟩
def RJ3 : String := "jdk/internal/util/Preconditions"
def TJ3 : u_T := fun k => match k with
  | _ => ("", "", "", false)
def tyJ3 : Nat → FieldType := fun k => match k with
  | _ => .int
abbrev cJ3_checkIndex_8e157 : ByteArray := prog_22_method_11_code
def yJ3_checkIndex_8e157 : MethodName := ⟨RJ3, "checkIndex", "(IILjava/util/function/BiFunction;)I"⟩
def RL : String := "CommonBondLaw"
abbrev cL_law : ByteArray := code
def yL_law : MethodName := ⟨RL, "law", "([I)Z"⟩
abbrev vwCl : List vw_C := [(RX0, TX0, 10), (RX1, TX1, 5), (RX2, TX2, 9), (RX3, TX3, 2), (RX4, TX4, 16), (RX5, TX5, 9), (RX6, TX6, 11), (RX7, TX7, 8), (RX8, TX8, 15), (RX9, TX9, 8), (RX10, TX10, 8), (RX11, TX11, 10), (RX12, TX12, 28)]
end
section
/-! TABLES, by program (wip/whole/gen02.py): the places of the heap behind the two constructors, the methods, their instructions -/
def zNP : Nat := 403
def zKX : Nat := 385
/-- shapes: (0, class, slots, 0) an object; (1, length, 0, 0) int[]; (2, ..) long[]; (3, first row, rows, width) int[][]; (4, ..) long[][]; (5, outer, index, width) a row of ints; (6, ..) of longs -/
def zSh (k : Nat) : Nat × Nat × Nat × Nat := bif Nat.ble 403 k then (9, 0, 0, 0) else (bif Nat.ble k 201 then (bif Nat.ble k 100 then (bif Nat.ble k 50 then (bif Nat.ble k 25 then (bif Nat.ble k 12 then (bif Nat.ble k 6 then (bif Nat.ble k 3 then (bif Nat.ble k 1 then (bif Nat.ble k 0 then (0, 11, 10, 0) else (0, 8, 15, 0)) else (bif Nat.ble k 2 then (1, 16, 0, 0) else (1, 16, 0, 0))) else (bif Nat.ble k 5 then (bif Nat.ble k 4 then (1, 16, 0, 0) else (1, 16, 0, 0)) else (1, 16, 0, 0))) else (bif Nat.ble k 9 then (bif Nat.ble k 8 then (bif Nat.ble k 7 then (0, 2, 9, 0) else (1, 700, 0, 0)) else (1, 700, 0, 0)) else (bif Nat.ble k 11 then (bif Nat.ble k 10 then (1, 700, 0, 0) else (1, 700, 0, 0)) else (1, 16, 0, 0)))) else (bif Nat.ble k 19 then (bif Nat.ble k 16 then (bif Nat.ble k 14 then (bif Nat.ble k 13 then (1, 52, 0, 0) else (0, 0, 10, 0)) else (bif Nat.ble k 15 then (1, 24, 0, 0) else (1, 24, 0, 0))) else (bif Nat.ble k 18 then (bif Nat.ble k 17 then (1, 24, 0, 0) else (1, 24, 0, 0)) else (1, 24, 0, 0))) else (bif Nat.ble k 22 then (bif Nat.ble k 21 then (bif Nat.ble k 20 then (1, 24, 0, 0) else (1, 24, 0, 0)) else (3, 23, 24, 4)) else (bif Nat.ble k 24 then (bif Nat.ble k 23 then (5, 22, 0, 4) else (5, 22, 1, 4)) else (5, 22, 2, 4))))) else (bif Nat.ble k 38 then (bif Nat.ble k 32 then (bif Nat.ble k 29 then (bif Nat.ble k 27 then (bif Nat.ble k 26 then (5, 22, 3, 4) else (5, 22, 4, 4)) else (bif Nat.ble k 28 then (5, 22, 5, 4) else (5, 22, 6, 4))) else (bif Nat.ble k 31 then (bif Nat.ble k 30 then (5, 22, 7, 4) else (5, 22, 8, 4)) else (5, 22, 9, 4))) else (bif Nat.ble k 35 then (bif Nat.ble k 34 then (bif Nat.ble k 33 then (5, 22, 10, 4) else (5, 22, 11, 4)) else (5, 22, 12, 4)) else (bif Nat.ble k 37 then (bif Nat.ble k 36 then (5, 22, 13, 4) else (5, 22, 14, 4)) else (5, 22, 15, 4)))) else (bif Nat.ble k 44 then (bif Nat.ble k 41 then (bif Nat.ble k 40 then (bif Nat.ble k 39 then (5, 22, 16, 4) else (5, 22, 17, 4)) else (5, 22, 18, 4)) else (bif Nat.ble k 43 then (bif Nat.ble k 42 then (5, 22, 19, 4) else (5, 22, 20, 4)) else (5, 22, 21, 4))) else (bif Nat.ble k 47 then (bif Nat.ble k 46 then (bif Nat.ble k 45 then (5, 22, 22, 4) else (5, 22, 23, 4)) else (3, 48, 24, 4)) else (bif Nat.ble k 49 then (bif Nat.ble k 48 then (5, 47, 0, 4) else (5, 47, 1, 4)) else (5, 47, 2, 4)))))) else (bif Nat.ble k 75 then (bif Nat.ble k 63 then (bif Nat.ble k 57 then (bif Nat.ble k 54 then (bif Nat.ble k 52 then (bif Nat.ble k 51 then (5, 47, 3, 4) else (5, 47, 4, 4)) else (bif Nat.ble k 53 then (5, 47, 5, 4) else (5, 47, 6, 4))) else (bif Nat.ble k 56 then (bif Nat.ble k 55 then (5, 47, 7, 4) else (5, 47, 8, 4)) else (5, 47, 9, 4))) else (bif Nat.ble k 60 then (bif Nat.ble k 59 then (bif Nat.ble k 58 then (5, 47, 10, 4) else (5, 47, 11, 4)) else (5, 47, 12, 4)) else (bif Nat.ble k 62 then (bif Nat.ble k 61 then (5, 47, 13, 4) else (5, 47, 14, 4)) else (5, 47, 15, 4)))) else (bif Nat.ble k 69 then (bif Nat.ble k 66 then (bif Nat.ble k 65 then (bif Nat.ble k 64 then (5, 47, 16, 4) else (5, 47, 17, 4)) else (5, 47, 18, 4)) else (bif Nat.ble k 68 then (bif Nat.ble k 67 then (5, 47, 19, 4) else (5, 47, 20, 4)) else (5, 47, 21, 4))) else (bif Nat.ble k 72 then (bif Nat.ble k 71 then (bif Nat.ble k 70 then (5, 47, 22, 4) else (5, 47, 23, 4)) else (0, 4, 16, 0)) else (bif Nat.ble k 74 then (bif Nat.ble k 73 then (1, 24, 0, 0) else (1, 24, 0, 0)) else (1, 24, 0, 0))))) else (bif Nat.ble k 88 then (bif Nat.ble k 82 then (bif Nat.ble k 79 then (bif Nat.ble k 77 then (bif Nat.ble k 76 then (1, 24, 0, 0) else (1, 24, 0, 0)) else (bif Nat.ble k 78 then (1, 24, 0, 0) else (1, 24, 0, 0))) else (bif Nat.ble k 81 then (bif Nat.ble k 80 then (1, 24, 0, 0) else (1, 24, 0, 0)) else (1, 24, 0, 0))) else (bif Nat.ble k 85 then (bif Nat.ble k 84 then (bif Nat.ble k 83 then (1, 24, 0, 0) else (1, 24, 0, 0)) else (1, 24, 0, 0)) else (bif Nat.ble k 87 then (bif Nat.ble k 86 then (1, 24, 0, 0) else (2, 24, 0, 0)) else (0, 7, 8, 0)))) else (bif Nat.ble k 94 then (bif Nat.ble k 91 then (bif Nat.ble k 90 then (bif Nat.ble k 89 then (1, 12, 0, 0) else (1, 12, 0, 0)) else (1, 12, 0, 0)) else (bif Nat.ble k 93 then (bif Nat.ble k 92 then (1, 12, 0, 0) else (1, 12, 0, 0)) else (3, 95, 12, 120))) else (bif Nat.ble k 97 then (bif Nat.ble k 96 then (bif Nat.ble k 95 then (5, 94, 0, 120) else (5, 94, 1, 120)) else (5, 94, 2, 120)) else (bif Nat.ble k 99 then (bif Nat.ble k 98 then (5, 94, 3, 120) else (5, 94, 4, 120)) else (5, 94, 5, 120))))))) else (bif Nat.ble k 151 then (bif Nat.ble k 126 then (bif Nat.ble k 113 then (bif Nat.ble k 107 then (bif Nat.ble k 104 then (bif Nat.ble k 102 then (bif Nat.ble k 101 then (5, 94, 6, 120) else (5, 94, 7, 120)) else (bif Nat.ble k 103 then (5, 94, 8, 120) else (5, 94, 9, 120))) else (bif Nat.ble k 106 then (bif Nat.ble k 105 then (5, 94, 10, 120) else (5, 94, 11, 120)) else (1, 120, 0, 0))) else (bif Nat.ble k 110 then (bif Nat.ble k 109 then (bif Nat.ble k 108 then (0, 10, 8, 0) else (4, 110, 7, 7)) else (6, 109, 0, 7)) else (bif Nat.ble k 112 then (bif Nat.ble k 111 then (6, 109, 1, 7) else (6, 109, 2, 7)) else (6, 109, 3, 7)))) else (bif Nat.ble k 120 then (bif Nat.ble k 117 then (bif Nat.ble k 115 then (bif Nat.ble k 114 then (6, 109, 4, 7) else (6, 109, 5, 7)) else (bif Nat.ble k 116 then (6, 109, 6, 7) else (4, 118, 7, 16))) else (bif Nat.ble k 119 then (bif Nat.ble k 118 then (6, 117, 0, 16) else (6, 117, 1, 16)) else (6, 117, 2, 16))) else (bif Nat.ble k 123 then (bif Nat.ble k 122 then (bif Nat.ble k 121 then (6, 117, 3, 16) else (6, 117, 4, 16)) else (6, 117, 5, 16)) else (bif Nat.ble k 125 then (bif Nat.ble k 124 then (6, 117, 6, 16) else (4, 126, 7, 16)) else (6, 125, 0, 16))))) else (bif Nat.ble k 139 then (bif Nat.ble k 133 then (bif Nat.ble k 130 then (bif Nat.ble k 128 then (bif Nat.ble k 127 then (6, 125, 1, 16) else (6, 125, 2, 16)) else (bif Nat.ble k 129 then (6, 125, 3, 16) else (6, 125, 4, 16))) else (bif Nat.ble k 132 then (bif Nat.ble k 131 then (6, 125, 5, 16) else (6, 125, 6, 16)) else (4, 134, 7, 16))) else (bif Nat.ble k 136 then (bif Nat.ble k 135 then (bif Nat.ble k 134 then (6, 133, 0, 16) else (6, 133, 1, 16)) else (6, 133, 2, 16)) else (bif Nat.ble k 138 then (bif Nat.ble k 137 then (6, 133, 3, 16) else (6, 133, 4, 16)) else (6, 133, 5, 16)))) else (bif Nat.ble k 145 then (bif Nat.ble k 142 then (bif Nat.ble k 141 then (bif Nat.ble k 140 then (6, 133, 6, 16) else (4, 142, 7, 16)) else (6, 141, 0, 16)) else (bif Nat.ble k 144 then (bif Nat.ble k 143 then (6, 141, 1, 16) else (6, 141, 2, 16)) else (6, 141, 3, 16))) else (bif Nat.ble k 148 then (bif Nat.ble k 147 then (bif Nat.ble k 146 then (6, 141, 4, 16) else (6, 141, 5, 16)) else (6, 141, 6, 16)) else (bif Nat.ble k 150 then (bif Nat.ble k 149 then (2, 16, 0, 0) else (0, 9, 8, 0)) else (1, 401, 0, 0)))))) else (bif Nat.ble k 176 then (bif Nat.ble k 164 then (bif Nat.ble k 158 then (bif Nat.ble k 155 then (bif Nat.ble k 153 then (bif Nat.ble k 152 then (1, 20, 0, 0) else (1, 20, 0, 0)) else (bif Nat.ble k 154 then (1, 20, 0, 0) else (1, 20, 0, 0))) else (bif Nat.ble k 157 then (bif Nat.ble k 156 then (1, 20, 0, 0) else (1, 4, 0, 0)) else (3, 159, 4, 8))) else (bif Nat.ble k 161 then (bif Nat.ble k 160 then (bif Nat.ble k 159 then (5, 158, 0, 8) else (5, 158, 1, 8)) else (5, 158, 2, 8)) else (bif Nat.ble k 163 then (bif Nat.ble k 162 then (5, 158, 3, 8) else (0, 8, 15, 0)) else (1, 16, 0, 0)))) else (bif Nat.ble k 170 then (bif Nat.ble k 167 then (bif Nat.ble k 166 then (bif Nat.ble k 165 then (1, 16, 0, 0) else (1, 16, 0, 0)) else (1, 16, 0, 0)) else (bif Nat.ble k 169 then (bif Nat.ble k 168 then (1, 16, 0, 0) else (0, 2, 9, 0)) else (1, 700, 0, 0))) else (bif Nat.ble k 173 then (bif Nat.ble k 172 then (bif Nat.ble k 171 then (1, 700, 0, 0) else (1, 700, 0, 0)) else (1, 700, 0, 0)) else (bif Nat.ble k 175 then (bif Nat.ble k 174 then (1, 16, 0, 0) else (1, 52, 0, 0)) else (0, 0, 10, 0))))) else (bif Nat.ble k 189 then (bif Nat.ble k 183 then (bif Nat.ble k 180 then (bif Nat.ble k 178 then (bif Nat.ble k 177 then (1, 24, 0, 0) else (1, 24, 0, 0)) else (bif Nat.ble k 179 then (1, 24, 0, 0) else (1, 24, 0, 0))) else (bif Nat.ble k 182 then (bif Nat.ble k 181 then (1, 24, 0, 0) else (1, 24, 0, 0)) else (1, 24, 0, 0))) else (bif Nat.ble k 186 then (bif Nat.ble k 185 then (bif Nat.ble k 184 then (3, 185, 24, 4) else (5, 184, 0, 4)) else (5, 184, 1, 4)) else (bif Nat.ble k 188 then (bif Nat.ble k 187 then (5, 184, 2, 4) else (5, 184, 3, 4)) else (5, 184, 4, 4)))) else (bif Nat.ble k 195 then (bif Nat.ble k 192 then (bif Nat.ble k 191 then (bif Nat.ble k 190 then (5, 184, 5, 4) else (5, 184, 6, 4)) else (5, 184, 7, 4)) else (bif Nat.ble k 194 then (bif Nat.ble k 193 then (5, 184, 8, 4) else (5, 184, 9, 4)) else (5, 184, 10, 4))) else (bif Nat.ble k 198 then (bif Nat.ble k 197 then (bif Nat.ble k 196 then (5, 184, 11, 4) else (5, 184, 12, 4)) else (5, 184, 13, 4)) else (bif Nat.ble k 200 then (bif Nat.ble k 199 then (5, 184, 14, 4) else (5, 184, 15, 4)) else (5, 184, 16, 4)))))))) else (bif Nat.ble k 302 then (bif Nat.ble k 252 then (bif Nat.ble k 227 then (bif Nat.ble k 214 then (bif Nat.ble k 208 then (bif Nat.ble k 205 then (bif Nat.ble k 203 then (bif Nat.ble k 202 then (5, 184, 17, 4) else (5, 184, 18, 4)) else (bif Nat.ble k 204 then (5, 184, 19, 4) else (5, 184, 20, 4))) else (bif Nat.ble k 207 then (bif Nat.ble k 206 then (5, 184, 21, 4) else (5, 184, 22, 4)) else (5, 184, 23, 4))) else (bif Nat.ble k 211 then (bif Nat.ble k 210 then (bif Nat.ble k 209 then (3, 210, 24, 4) else (5, 209, 0, 4)) else (5, 209, 1, 4)) else (bif Nat.ble k 213 then (bif Nat.ble k 212 then (5, 209, 2, 4) else (5, 209, 3, 4)) else (5, 209, 4, 4)))) else (bif Nat.ble k 221 then (bif Nat.ble k 218 then (bif Nat.ble k 216 then (bif Nat.ble k 215 then (5, 209, 5, 4) else (5, 209, 6, 4)) else (bif Nat.ble k 217 then (5, 209, 7, 4) else (5, 209, 8, 4))) else (bif Nat.ble k 220 then (bif Nat.ble k 219 then (5, 209, 9, 4) else (5, 209, 10, 4)) else (5, 209, 11, 4))) else (bif Nat.ble k 224 then (bif Nat.ble k 223 then (bif Nat.ble k 222 then (5, 209, 12, 4) else (5, 209, 13, 4)) else (5, 209, 14, 4)) else (bif Nat.ble k 226 then (bif Nat.ble k 225 then (5, 209, 15, 4) else (5, 209, 16, 4)) else (5, 209, 17, 4))))) else (bif Nat.ble k 240 then (bif Nat.ble k 234 then (bif Nat.ble k 231 then (bif Nat.ble k 229 then (bif Nat.ble k 228 then (5, 209, 18, 4) else (5, 209, 19, 4)) else (bif Nat.ble k 230 then (5, 209, 20, 4) else (5, 209, 21, 4))) else (bif Nat.ble k 233 then (bif Nat.ble k 232 then (5, 209, 22, 4) else (5, 209, 23, 4)) else (0, 4, 16, 0))) else (bif Nat.ble k 237 then (bif Nat.ble k 236 then (bif Nat.ble k 235 then (1, 24, 0, 0) else (1, 24, 0, 0)) else (1, 24, 0, 0)) else (bif Nat.ble k 239 then (bif Nat.ble k 238 then (1, 24, 0, 0) else (1, 24, 0, 0)) else (1, 24, 0, 0)))) else (bif Nat.ble k 246 then (bif Nat.ble k 243 then (bif Nat.ble k 242 then (bif Nat.ble k 241 then (1, 24, 0, 0) else (1, 24, 0, 0)) else (1, 24, 0, 0)) else (bif Nat.ble k 245 then (bif Nat.ble k 244 then (1, 24, 0, 0) else (1, 24, 0, 0)) else (1, 24, 0, 0))) else (bif Nat.ble k 249 then (bif Nat.ble k 248 then (bif Nat.ble k 247 then (1, 24, 0, 0) else (1, 24, 0, 0)) else (2, 24, 0, 0)) else (bif Nat.ble k 251 then (bif Nat.ble k 250 then (0, 7, 8, 0) else (1, 12, 0, 0)) else (1, 12, 0, 0)))))) else (bif Nat.ble k 277 then (bif Nat.ble k 265 then (bif Nat.ble k 259 then (bif Nat.ble k 256 then (bif Nat.ble k 254 then (bif Nat.ble k 253 then (1, 12, 0, 0) else (1, 12, 0, 0)) else (bif Nat.ble k 255 then (1, 12, 0, 0) else (3, 257, 12, 120))) else (bif Nat.ble k 258 then (bif Nat.ble k 257 then (5, 256, 0, 120) else (5, 256, 1, 120)) else (5, 256, 2, 120))) else (bif Nat.ble k 262 then (bif Nat.ble k 261 then (bif Nat.ble k 260 then (5, 256, 3, 120) else (5, 256, 4, 120)) else (5, 256, 5, 120)) else (bif Nat.ble k 264 then (bif Nat.ble k 263 then (5, 256, 6, 120) else (5, 256, 7, 120)) else (5, 256, 8, 120)))) else (bif Nat.ble k 271 then (bif Nat.ble k 268 then (bif Nat.ble k 267 then (bif Nat.ble k 266 then (5, 256, 9, 120) else (5, 256, 10, 120)) else (5, 256, 11, 120)) else (bif Nat.ble k 270 then (bif Nat.ble k 269 then (1, 120, 0, 0) else (0, 10, 8, 0)) else (4, 272, 7, 7))) else (bif Nat.ble k 274 then (bif Nat.ble k 273 then (bif Nat.ble k 272 then (6, 271, 0, 7) else (6, 271, 1, 7)) else (6, 271, 2, 7)) else (bif Nat.ble k 276 then (bif Nat.ble k 275 then (6, 271, 3, 7) else (6, 271, 4, 7)) else (6, 271, 5, 7))))) else (bif Nat.ble k 290 then (bif Nat.ble k 284 then (bif Nat.ble k 281 then (bif Nat.ble k 279 then (bif Nat.ble k 278 then (6, 271, 6, 7) else (4, 280, 7, 16)) else (bif Nat.ble k 280 then (6, 279, 0, 16) else (6, 279, 1, 16))) else (bif Nat.ble k 283 then (bif Nat.ble k 282 then (6, 279, 2, 16) else (6, 279, 3, 16)) else (6, 279, 4, 16))) else (bif Nat.ble k 287 then (bif Nat.ble k 286 then (bif Nat.ble k 285 then (6, 279, 5, 16) else (6, 279, 6, 16)) else (4, 288, 7, 16)) else (bif Nat.ble k 289 then (bif Nat.ble k 288 then (6, 287, 0, 16) else (6, 287, 1, 16)) else (6, 287, 2, 16)))) else (bif Nat.ble k 296 then (bif Nat.ble k 293 then (bif Nat.ble k 292 then (bif Nat.ble k 291 then (6, 287, 3, 16) else (6, 287, 4, 16)) else (6, 287, 5, 16)) else (bif Nat.ble k 295 then (bif Nat.ble k 294 then (6, 287, 6, 16) else (4, 296, 7, 16)) else (6, 295, 0, 16))) else (bif Nat.ble k 299 then (bif Nat.ble k 298 then (bif Nat.ble k 297 then (6, 295, 1, 16) else (6, 295, 2, 16)) else (6, 295, 3, 16)) else (bif Nat.ble k 301 then (bif Nat.ble k 300 then (6, 295, 4, 16) else (6, 295, 5, 16)) else (6, 295, 6, 16))))))) else (bif Nat.ble k 352 then (bif Nat.ble k 327 then (bif Nat.ble k 315 then (bif Nat.ble k 309 then (bif Nat.ble k 306 then (bif Nat.ble k 304 then (bif Nat.ble k 303 then (4, 304, 7, 16) else (6, 303, 0, 16)) else (bif Nat.ble k 305 then (6, 303, 1, 16) else (6, 303, 2, 16))) else (bif Nat.ble k 308 then (bif Nat.ble k 307 then (6, 303, 3, 16) else (6, 303, 4, 16)) else (6, 303, 5, 16))) else (bif Nat.ble k 312 then (bif Nat.ble k 311 then (bif Nat.ble k 310 then (6, 303, 6, 16) else (2, 16, 0, 0)) else (0, 9, 8, 0)) else (bif Nat.ble k 314 then (bif Nat.ble k 313 then (1, 401, 0, 0) else (1, 20, 0, 0)) else (1, 20, 0, 0)))) else (bif Nat.ble k 321 then (bif Nat.ble k 318 then (bif Nat.ble k 317 then (bif Nat.ble k 316 then (1, 20, 0, 0) else (1, 20, 0, 0)) else (1, 20, 0, 0)) else (bif Nat.ble k 320 then (bif Nat.ble k 319 then (1, 4, 0, 0) else (3, 321, 4, 8)) else (5, 320, 0, 8))) else (bif Nat.ble k 324 then (bif Nat.ble k 323 then (bif Nat.ble k 322 then (5, 320, 1, 8) else (5, 320, 2, 8)) else (5, 320, 3, 8)) else (bif Nat.ble k 326 then (bif Nat.ble k 325 then (0, 6, 11, 0) else (1, 120, 0, 0)) else (1, 120, 0, 0))))) else (bif Nat.ble k 340 then (bif Nat.ble k 334 then (bif Nat.ble k 331 then (bif Nat.ble k 329 then (bif Nat.ble k 328 then (1, 12, 0, 0) else (1, 9, 0, 0)) else (bif Nat.ble k 330 then (0, 3, 2, 0) else (1, 10, 0, 0))) else (bif Nat.ble k 333 then (bif Nat.ble k 332 then (0, 1, 5, 0) else (2, 16, 0, 0)) else (2, 16, 0, 0))) else (bif Nat.ble k 337 then (bif Nat.ble k 336 then (bif Nat.ble k 335 then (2, 16, 0, 0) else (0, 5, 9, 0)) else (1, 8, 0, 0)) else (bif Nat.ble k 339 then (bif Nat.ble k 338 then (3, 339, 24, 8) else (5, 338, 0, 8)) else (5, 338, 1, 8)))) else (bif Nat.ble k 346 then (bif Nat.ble k 343 then (bif Nat.ble k 342 then (bif Nat.ble k 341 then (5, 338, 2, 8) else (5, 338, 3, 8)) else (5, 338, 4, 8)) else (bif Nat.ble k 345 then (bif Nat.ble k 344 then (5, 338, 5, 8) else (5, 338, 6, 8)) else (5, 338, 7, 8))) else (bif Nat.ble k 349 then (bif Nat.ble k 348 then (bif Nat.ble k 347 then (5, 338, 8, 8) else (5, 338, 9, 8)) else (5, 338, 10, 8)) else (bif Nat.ble k 351 then (bif Nat.ble k 350 then (5, 338, 11, 8) else (5, 338, 12, 8)) else (5, 338, 13, 8)))))) else (bif Nat.ble k 377 then (bif Nat.ble k 365 then (bif Nat.ble k 359 then (bif Nat.ble k 356 then (bif Nat.ble k 354 then (bif Nat.ble k 353 then (5, 338, 14, 8) else (5, 338, 15, 8)) else (bif Nat.ble k 355 then (5, 338, 16, 8) else (5, 338, 17, 8))) else (bif Nat.ble k 358 then (bif Nat.ble k 357 then (5, 338, 18, 8) else (5, 338, 19, 8)) else (5, 338, 20, 8))) else (bif Nat.ble k 362 then (bif Nat.ble k 361 then (bif Nat.ble k 360 then (5, 338, 21, 8) else (5, 338, 22, 8)) else (5, 338, 23, 8)) else (bif Nat.ble k 364 then (bif Nat.ble k 363 then (0, 2, 9, 0) else (1, 700, 0, 0)) else (1, 700, 0, 0)))) else (bif Nat.ble k 371 then (bif Nat.ble k 368 then (bif Nat.ble k 367 then (bif Nat.ble k 366 then (1, 700, 0, 0) else (1, 700, 0, 0)) else (1, 16, 0, 0)) else (bif Nat.ble k 370 then (bif Nat.ble k 369 then (1, 52, 0, 0) else (0, 4, 16, 0)) else (1, 24, 0, 0))) else (bif Nat.ble k 374 then (bif Nat.ble k 373 then (bif Nat.ble k 372 then (1, 24, 0, 0) else (1, 24, 0, 0)) else (1, 24, 0, 0)) else (bif Nat.ble k 376 then (bif Nat.ble k 375 then (1, 24, 0, 0) else (1, 24, 0, 0)) else (1, 24, 0, 0))))) else (bif Nat.ble k 390 then (bif Nat.ble k 384 then (bif Nat.ble k 381 then (bif Nat.ble k 379 then (bif Nat.ble k 378 then (1, 24, 0, 0) else (1, 24, 0, 0)) else (bif Nat.ble k 380 then (1, 24, 0, 0) else (1, 24, 0, 0))) else (bif Nat.ble k 383 then (bif Nat.ble k 382 then (1, 24, 0, 0) else (1, 24, 0, 0)) else (1, 24, 0, 0))) else (bif Nat.ble k 387 then (bif Nat.ble k 386 then (bif Nat.ble k 385 then (2, 24, 0, 0) else (0, 12, 28, 0)) else (1, 6163, 0, 0)) else (bif Nat.ble k 389 then (bif Nat.ble k 388 then (1, 6163, 0, 0) else (1, 6163, 0, 0)) else (2, 128, 0, 0)))) else (bif Nat.ble k 396 then (bif Nat.ble k 393 then (bif Nat.ble k 392 then (bif Nat.ble k 391 then (2, 128, 0, 0) else (2, 128, 0, 0)) else (1, 9, 0, 0)) else (bif Nat.ble k 395 then (bif Nat.ble k 394 then (1, 120, 0, 0) else (1, 12, 0, 0)) else (2, 20, 0, 0))) else (bif Nat.ble k 399 then (bif Nat.ble k 398 then (bif Nat.ble k 397 then (1, 10, 0, 0) else (1, 130, 0, 0)) else (2, 16, 0, 0)) else (bif Nat.ble k 401 then (bif Nat.ble k 400 then (2, 16, 0, 0) else (2, 8, 0, 0)) else (1, 192, 0, 0)))))))))
/-- the targets of an object's reference slots (0 where the slot is none) -/
def zRf (k : Nat) : List Nat := bif Nat.beq k 0 then [1, 163, 0, 325, 330, 332, 336, 328, 0, 329] else bif Nat.beq k 1 then [0, 0, 2, 3, 4, 5, 6, 7, 14, 72, 88, 108, 150, 157, 158] else bif Nat.beq k 7 then [0, 8, 9, 10, 11, 12, 13, 0, 0] else bif Nat.beq k 14 then [0, 15, 16, 17, 18, 19, 20, 21, 22, 47] else bif Nat.beq k 72 then [0, 73, 74, 75, 76, 77, 78, 79, 80, 81, 82, 83, 84, 85, 86, 87] else bif Nat.beq k 88 then [0, 89, 90, 91, 92, 93, 94, 107] else bif Nat.beq k 108 then [0, 109, 117, 125, 133, 141, 149, 0] else bif Nat.beq k 150 then [151, 0, 152, 153, 0, 154, 155, 156] else bif Nat.beq k 163 then [0, 0, 164, 165, 166, 167, 168, 169, 176, 234, 250, 270, 312, 319, 320] else bif Nat.beq k 169 then [0, 170, 171, 172, 173, 174, 175, 0, 0] else bif Nat.beq k 176 then [0, 177, 178, 179, 180, 181, 182, 183, 184, 209] else bif Nat.beq k 234 then [0, 235, 236, 237, 238, 239, 240, 241, 242, 243, 244, 245, 246, 247, 248, 249] else bif Nat.beq k 250 then [0, 251, 252, 253, 254, 255, 256, 269] else bif Nat.beq k 270 then [0, 271, 279, 287, 295, 303, 311, 0] else bif Nat.beq k 312 then [313, 0, 314, 315, 0, 316, 317, 318] else bif Nat.beq k 325 then [326, 0, 0, 0, 0, 0, 327, 0, 0, 0, 0] else bif Nat.beq k 330 then [1, 331] else bif Nat.beq k 332 then [1, 330, 333, 334, 335] else bif Nat.beq k 336 then [1, 330, 337, 338, 363, 370, 0, 0, 0] else bif Nat.beq k 363 then [0, 364, 365, 366, 367, 368, 369, 0, 0] else bif Nat.beq k 370 then [0, 371, 372, 373, 374, 375, 376, 377, 378, 379, 380, 381, 382, 383, 384, 385] else bif Nat.beq k 386 then [387, 388, 389, 390, 391, 392, 0, 393, 394, 0, 0, 395, 0, 0, 0, 0, 0, 0, 0, 0, 396, 397, 398, 0, 399, 400, 401, 402] else []
/-- the kinds of a class's slots: 0 int, 1 long, 2 a reference, 3 boolean -/
def zTy (k : Nat) : List Nat := (bif Nat.ble k 6 then (bif Nat.ble k 3 then (bif Nat.ble k 1 then (bif Nat.ble k 0 then [0, 2, 2, 2, 2, 2, 2, 2, 2, 2] else [2, 2, 2, 2, 2]) else (bif Nat.ble k 2 then [0, 2, 2, 2, 2, 2, 2, 0, 1] else [2, 2])) else (bif Nat.ble k 5 then (bif Nat.ble k 4 then [0, 2, 2, 2, 2, 2, 2, 2, 2, 2, 2, 2, 2, 2, 2, 2] else [2, 2, 2, 2, 2, 2, 0, 0, 0]) else [2, 0, 0, 0, 0, 0, 2, 0, 0, 0, 0])) else (bif Nat.ble k 9 then (bif Nat.ble k 8 then (bif Nat.ble k 7 then [0, 2, 2, 2, 2, 2, 2, 2] else [0, 0, 2, 2, 2, 2, 2, 2, 2, 2, 2, 2, 2, 2, 2]) else [2, 0, 2, 2, 0, 2, 2, 2]) else (bif Nat.ble k 11 then (bif Nat.ble k 10 then [0, 2, 2, 2, 2, 2, 2, 1] else [2, 2, 3, 2, 2, 2, 2, 2, 0, 2]) else [2, 2, 2, 2, 2, 2, 3, 2, 2, 0, 0, 2, 0, 0, 0, 0, 0, 0, 0, 3, 2, 2, 2, 0, 2, 2, 2, 2])))
def zCl (k : Nat) : vw_C := (bif Nat.ble k 6 then (bif Nat.ble k 3 then (bif Nat.ble k 1 then (bif Nat.ble k 0 then (RX0, TX0, 10) else (RX1, TX1, 5)) else (bif Nat.ble k 2 then (RX2, TX2, 9) else (RX3, TX3, 2))) else (bif Nat.ble k 5 then (bif Nat.ble k 4 then (RX4, TX4, 16) else (RX5, TX5, 9)) else (RX6, TX6, 11))) else (bif Nat.ble k 9 then (bif Nat.ble k 8 then (bif Nat.ble k 7 then (RX7, TX7, 8) else (RX8, TX8, 15)) else (RX9, TX9, 8)) else (bif Nat.ble k 11 then (bif Nat.ble k 10 then (RX10, TX10, 8) else (RX11, TX11, 10)) else (RX12, TX12, 28))))
def zCb (k : Nat) : ByteArray := (bif Nat.ble k 142 then (bif Nat.ble k 71 then (bif Nat.ble k 35 then (bif Nat.ble k 17 then (bif Nat.ble k 8 then (bif Nat.ble k 4 then (bif Nat.ble k 2 then (bif Nat.ble k 1 then (bif Nat.ble k 0 then cX0_init else cX0_isOf) else cX0_add) else (bif Nat.ble k 3 then cX0_addBacker else cX0_hasBacker)) else (bif Nat.ble k 6 then (bif Nat.ble k 5 then cX0_pledges else cX0_likeness) else (bif Nat.ble k 7 then cX0_become else cX1_init))) else (bif Nat.ble k 13 then (bif Nat.ble k 11 then (bif Nat.ble k 10 then (bif Nat.ble k 9 then cX1_fail else cX1_take) else cX1_closeWeek) else (bif Nat.ble k 12 then cX1_closeLoans else cX1_closeYear)) else (bif Nat.ble k 15 then (bif Nat.ble k 14 then cX1_earn else cX1_partSurplus) else (bif Nat.ble k 16 then cX1_part else cX1_greatestRest)))) else (bif Nat.ble k 26 then (bif Nat.ble k 22 then (bif Nat.ble k 20 then (bif Nat.ble k 19 then (bif Nat.ble k 18 then cX1_handOut else cX1_reworked) else cX1_mayVoid) else (bif Nat.ble k 21 then cX1_takeBack else cX2_init)) else (bif Nat.ble k 24 then (bif Nat.ble k 23 then cX2_place else cX2_hasRoom) else (bif Nat.ble k 25 then cX2_enter else cX2_savedIn))) else (bif Nat.ble k 31 then (bif Nat.ble k 29 then (bif Nat.ble k 28 then (bif Nat.ble k 27 then cX2_savedByAll else cX2_entriesBehind) else cX2_shareWeeks) else (bif Nat.ble k 30 then cX2_become else cX3_init)) else (bif Nat.ble k 33 then (bif Nat.ble k 32 then cX3_knowNone else cX3_knowMember) else (bif Nat.ble k 34 then cX3_knowAsk else cX3_ruleTelling))))) else (bif Nat.ble k 53 then (bif Nat.ble k 44 then (bif Nat.ble k 40 then (bif Nat.ble k 38 then (bif Nat.ble k 37 then (bif Nat.ble k 36 then cX3_told else cX3_hundredths) else cX3_limitOf) else (bif Nat.ble k 39 then cX3_limitBy else cX3_interestOf)) else (bif Nat.ble k 42 then (bif Nat.ble k 41 then cX3_answerNow else cX3_isBacked) else (bif Nat.ble k 43 then cX3_lend else cX3_isDormant))) else (bif Nat.ble k 49 then (bif Nat.ble k 47 then (bif Nat.ble k 46 then (bif Nat.ble k 45 then cX3_dormantOnes else cX4_init) else cX4_usualDue) else (bif Nat.ble k 48 then cX4_add else cX4_owedBy)) else (bif Nat.ble k 51 then (bif Nat.ble k 50 then cX4_payOff else cX4_dueIn) else (bif Nat.ble k 52 then cX4_dueThrough else cX4_isLate)))) else (bif Nat.ble k 62 then (bif Nat.ble k 58 then (bif Nat.ble k 56 then (bif Nat.ble k 55 then (bif Nat.ble k 54 then cX4_lateOf else cX4_hasFailed) else cX4_owedOf) else (bif Nat.ble k 57 then cX4_heldOf else cX4_openOnes)) else (bif Nat.ble k 60 then (bif Nat.ble k 59 then cX4_owedByAll else cX4_dueOfAll) else (bif Nat.ble k 61 then cX4_become else cX5_init))) else (bif Nat.ble k 67 then (bif Nat.ble k 65 then (bif Nat.ble k 64 then (bif Nat.ble k 63 then cX5_mayJoin else cX5_lasts) else cX5_bestOf) else (bif Nat.ble k 66 then cX5_isBetter else cX5_sumOf)) else (bif Nat.ble k 69 then (bif Nat.ble k 68 then cX5_foresee else cX5_foreseeAsk) else (bif Nat.ble k 70 then cX5_foreseenLasts else cX5_lastsThrough)))))) else (bif Nat.ble k 107 then (bif Nat.ble k 89 then (bif Nat.ble k 80 then (bif Nat.ble k 76 then (bif Nat.ble k 74 then (bif Nat.ble k 73 then (bif Nat.ble k 72 then cX5_fell else cX5_failAll) else cX5_wanting) else (bif Nat.ble k 75 then cX6_init else cX6_append)) else (bif Nat.ble k 78 then (bif Nat.ble k 77 then cX6_readRule else cX6_either) else (bif Nat.ble k 79 then cX6_both else cX6_denied))) else (bif Nat.ble k 85 then (bif Nat.ble k 83 then (bif Nat.ble k 82 then (bif Nat.ble k 81 then cX6_compared else cX6_summed) else cX6_multiplied) else (bif Nat.ble k 84 then cX6_single else cX6_emit)) else (bif Nat.ble k 87 then (bif Nat.ble k 86 then cX6_faulty else cX6_step) else (bif Nat.ble k 88 then cX6_number else cX6_word)))) else (bif Nat.ble k 98 then (bif Nat.ble k 94 then (bif Nat.ble k 92 then (bif Nat.ble k 91 then (bif Nat.ble k 90 then cX6_wordNumber else cX6_isDigit) else cX6_isLetter) else (bif Nat.ble k 93 then cX6_isSign else cX7_init)) else (bif Nat.ble k 96 then (bif Nat.ble k 95 then cX7_add else cX7_ruleFor) else (bif Nat.ble k 97 then cX7_valueOf else cX7_work))) else (bif Nat.ble k 103 then (bif Nat.ble k 101 then (bif Nat.ble k 100 then (bif Nat.ble k 99 then cX7_pair else cX7_become) else cX8_init) else (bif Nat.ble k 102 then cX8_join else cX8_move)) else (bif Nat.ble k 105 then (bif Nat.ble k 104 then cX8_entriesBehindDeath else cX8_become) else (bif Nat.ble k 106 then cX9_init else cX9_addCount))))) else (bif Nat.ble k 125 then (bif Nat.ble k 116 then (bif Nat.ble k 112 then (bif Nat.ble k 110 then (bif Nat.ble k 109 then (bif Nat.ble k 108 then cX9_addBook else cX9_suspected) else cX9_onDutyFrom) else (bif Nat.ble k 111 then cX9_become else cX10_init)) else (bif Nat.ble k 114 then (bif Nat.ble k 113 then cX10_gotBy else cX10_become) else (bif Nat.ble k 115 then cX11_init else cX11_member))) else (bif Nat.ble k 121 then (bif Nat.ble k 119 then (bif Nat.ble k 118 then (bif Nat.ble k 117 then cX11_died else cX11_save) else cX11_draw) else (bif Nat.ble k 120 then cX11_found else cX11_saved)) else (bif Nat.ble k 123 then (bif Nat.ble k 122 then cX11_look else cX11_ask) else (bif Nat.ble k 124 then cX11_back else cX11_askOf)))) else (bif Nat.ble k 134 then (bif Nat.ble k 130 then (bif Nat.ble k 128 then (bif Nat.ble k 127 then (bif Nat.ble k 126 then cX11_answer else cX11_pay) else cX11_loanOf) else (bif Nat.ble k 129 then cX11_dues else cX11_taken)) else (bif Nat.ble k 132 then (bif Nat.ble k 131 then cX11_alike else cX11_feed) else (bif Nat.ble k 133 then cX11_wipe else cX11_rule))) else (bif Nat.ble k 138 then (bif Nat.ble k 136 then (bif Nat.ble k 135 then cX11_says else cX11_why) else (bif Nat.ble k 137 then cX11_run else cX11_cost)) else (bif Nat.ble k 140 then (bif Nat.ble k 139 then cX11_year else cX11_got) else (bif Nat.ble k 141 then cX11_voided else cX11_runs))))))) else (bif Nat.ble k 213 then (bif Nat.ble k 178 then (bif Nat.ble k 160 then (bif Nat.ble k 151 then (bif Nat.ble k 147 then (bif Nat.ble k 145 then (bif Nat.ble k 144 then (bif Nat.ble k 143 then cX11_calm else cX11_best) else cX11_judge) else (bif Nat.ble k 146 then cX11_fall else cX11_duty)) else (bif Nat.ble k 149 then (bif Nat.ble k 148 then cX11_counted else cX11_suspects) else (bif Nat.ble k 150 then cX11_book else cX11_wrong))) else (bif Nat.ble k 156 then (bif Nat.ble k 154 then (bif Nat.ble k 153 then (bif Nat.ble k 152 then cX11_count else cX11_image) else cX11_undo) else (bif Nat.ble k 155 then cX11_lay else cX11_set)) else (bif Nat.ble k 158 then (bif Nat.ble k 157 then cX11_tear else cX11_row) else (bif Nat.ble k 159 then cX11_copy else cX11_status)))) else (bif Nat.ble k 169 then (bif Nat.ble k 165 then (bif Nat.ble k 163 then (bif Nat.ble k 162 then (bif Nat.ble k 161 then cX11_refuse else cX11_tellZero) else cX11_outside) else (bif Nat.ble k 164 then cX11_noMember else cX11_noAsk)) else (bif Nat.ble k 167 then (bif Nat.ble k 166 then cX11_noLoan else cX11_noWeek) else (bif Nat.ble k 168 then cX11_nobody else cX11_knowWho))) else (bif Nat.ble k 174 then (bif Nat.ble k 172 then (bif Nat.ble k 171 then (bif Nat.ble k 170 then cX12_init else cX12_in) else cX12_refuse) else (bif Nat.ble k 173 then cX12_nought else cX12_isMember)) else (bif Nat.ble k 176 then (bif Nat.ble k 175 then cX12_isAsk else cX12_isLoan) else (bif Nat.ble k 177 then cX12_sameEntry else cX12_enters))))) else (bif Nat.ble k 196 then (bif Nat.ble k 187 then (bif Nat.ble k 183 then (bif Nat.ble k 181 then (bif Nat.ble k 180 then (bif Nat.ble k 179 then cX12_hasRoom else cX12_savedIn) else cX12_savedNow) else (bif Nat.ble k 182 then cX12_member else cX12_died)) else (bif Nat.ble k 185 then (bif Nat.ble k 184 then cX12_save else cX12_draw) else (bif Nat.ble k 186 then cX12_found else cX12_saved))) else (bif Nat.ble k 192 then (bif Nat.ble k 190 then (bif Nat.ble k 189 then (bif Nat.ble k 188 then cX12_isSecured else cX12_isBacked) else cX12_owed) else (bif Nat.ble k 191 then cX12_isOf else cX12_owes)) else (bif Nat.ble k 194 then (bif Nat.ble k 193 then cX12_held else cX12_dueOf) else (bif Nat.ble k 195 then cX12_duesIn else cX12_dueTill)))) else (bif Nat.ble k 205 then (bif Nat.ble k 201 then (bif Nat.ble k 199 then (bif Nat.ble k 198 then (bif Nat.ble k 197 then cX12_isLate else cX12_lateOf) else cX12_isDormant) else (bif Nat.ble k 200 then cX12_lateEntries else cX12_look)) else (bif Nat.ble k 203 then (bif Nat.ble k 202 then cX12_ask else cX12_back) else (bif Nat.ble k 204 then cX12_pledges else cX12_limit))) else (bif Nat.ble k 209 then (bif Nat.ble k 207 then (bif Nat.ble k 206 then cX12_interest else cX12_isBarred) else (bif Nat.ble k 208 then cX12_isStoodFor else cX12_answerNow)) else (bif Nat.ble k 211 then (bif Nat.ble k 210 then cX12_askOf else cX12_answer) else (bif Nat.ble k 212 then cX12_pay else cX12_loanOf)))))) else (bif Nat.ble k 249 then (bif Nat.ble k 231 then (bif Nat.ble k 222 then (bif Nat.ble k 218 then (bif Nat.ble k 216 then (bif Nat.ble k 215 then (bif Nat.ble k 214 then cX12_dues else cX12_isUnder) else cX12_taken) else (bif Nat.ble k 217 then cX12_alike else cX12_feed)) else (bif Nat.ble k 220 then (bif Nat.ble k 219 then cX12_wipe else cX12_nextWord) else (bif Nat.ble k 221 then cX12_next else cX12_puts))) else (bif Nat.ble k 227 then (bif Nat.ble k 225 then (bif Nat.ble k 224 then (bif Nat.ble k 223 then cX12_opensOne else cX12_or) else cX12_and) else (bif Nat.ble k 226 then cX12_not else cX12_sum)) else (bif Nat.ble k 229 then (bif Nat.ble k 228 then cX12_term else cX12_one) else (bif Nat.ble k 230 then cX12_closesOne else cX12_rule)))) else (bif Nat.ble k 240 then (bif Nat.ble k 236 then (bif Nat.ble k 234 then (bif Nat.ble k 233 then (bif Nat.ble k 232 then cX12_two else cX12_worth) else cX12_names) else (bif Nat.ble k 235 then cX12_finds else cX12_isAsked)) else (bif Nat.ble k 238 then (bif Nat.ble k 237 then cX12_says else cX12_why) else (bif Nat.ble k 239 then cX12_takes else cX12_fails))) else (bif Nat.ble k 245 then (bif Nat.ble k 243 then (bif Nat.ble k 242 then (bif Nat.ble k 241 then cX12_passes else cX12_partsOut) else cX12_bound) else (bif Nat.ble k 244 then cX12_closesYear else cX12_given)) else (bif Nat.ble k 247 then (bif Nat.ble k 246 then cX12_closes else cX12_run) else (bif Nat.ble k 248 then cX12_cost else cX12_isYear))))) else (bif Nat.ble k 267 then (bif Nat.ble k 258 then (bif Nat.ble k 254 then (bif Nat.ble k 252 then (bif Nat.ble k 251 then (bif Nat.ble k 250 then cX12_year else cX12_sharesNow) else cX12_got) else (bif Nat.ble k 253 then cX12_voided else cX12_runs)) else (bif Nat.ble k 256 then (bif Nat.ble k 255 then cX12_calm else cX12_mayBe) else (bif Nat.ble k 257 then cX12_foresees else cX12_lastsBy))) else (bif Nat.ble k 263 then (bif Nat.ble k 261 then (bif Nat.ble k 260 then (bif Nat.ble k 259 then cX12_lasts else cX12_many) else cX12_sums) else (bif Nat.ble k 262 then cX12_isBetter else cX12_best)) else (bif Nat.ble k 265 then (bif Nat.ble k 264 then cX12_judge else cX12_failAll) else (bif Nat.ble k 266 then cX12_fall else cX12_duty)))) else (bif Nat.ble k 276 then (bif Nat.ble k 272 then (bif Nat.ble k 270 then (bif Nat.ble k 269 then (bif Nat.ble k 268 then cX12_counted else cX12_suspects) else cX12_book) else (bif Nat.ble k 271 then cX12_wrong else cX12_count)) else (bif Nat.ble k 274 then (bif Nat.ble k 273 then cX12_image else cX12_undo) else (bif Nat.ble k 275 then cX12_lay else cX12_set))) else (bif Nat.ble k 280 then (bif Nat.ble k 278 then (bif Nat.ble k 277 then cX12_tear else cX12_row) else (bif Nat.ble k 279 then cX12_copy else cX12_status)) else (bif Nat.ble k 282 then (bif Nat.ble k 281 then cL_law else cJ6_bitCount_0f7a4) else (bif Nat.ble k 283 then cJ7_fill_d0a16 else cJ7_fill_53178))))))))
def zNm (k : Nat) : MethodName := (bif Nat.ble k 142 then (bif Nat.ble k 71 then (bif Nat.ble k 35 then (bif Nat.ble k 17 then (bif Nat.ble k 8 then (bif Nat.ble k 4 then (bif Nat.ble k 2 then (bif Nat.ble k 1 then (bif Nat.ble k 0 then yX0_init else yX0_isOf) else yX0_add) else (bif Nat.ble k 3 then yX0_addBacker else yX0_hasBacker)) else (bif Nat.ble k 6 then (bif Nat.ble k 5 then yX0_pledges else yX0_likeness) else (bif Nat.ble k 7 then yX0_become else yX1_init))) else (bif Nat.ble k 13 then (bif Nat.ble k 11 then (bif Nat.ble k 10 then (bif Nat.ble k 9 then yX1_fail else yX1_take) else yX1_closeWeek) else (bif Nat.ble k 12 then yX1_closeLoans else yX1_closeYear)) else (bif Nat.ble k 15 then (bif Nat.ble k 14 then yX1_earn else yX1_partSurplus) else (bif Nat.ble k 16 then yX1_part else yX1_greatestRest)))) else (bif Nat.ble k 26 then (bif Nat.ble k 22 then (bif Nat.ble k 20 then (bif Nat.ble k 19 then (bif Nat.ble k 18 then yX1_handOut else yX1_reworked) else yX1_mayVoid) else (bif Nat.ble k 21 then yX1_takeBack else yX2_init)) else (bif Nat.ble k 24 then (bif Nat.ble k 23 then yX2_place else yX2_hasRoom) else (bif Nat.ble k 25 then yX2_enter else yX2_savedIn))) else (bif Nat.ble k 31 then (bif Nat.ble k 29 then (bif Nat.ble k 28 then (bif Nat.ble k 27 then yX2_savedByAll else yX2_entriesBehind) else yX2_shareWeeks) else (bif Nat.ble k 30 then yX2_become else yX3_init)) else (bif Nat.ble k 33 then (bif Nat.ble k 32 then yX3_knowNone else yX3_knowMember) else (bif Nat.ble k 34 then yX3_knowAsk else yX3_ruleTelling))))) else (bif Nat.ble k 53 then (bif Nat.ble k 44 then (bif Nat.ble k 40 then (bif Nat.ble k 38 then (bif Nat.ble k 37 then (bif Nat.ble k 36 then yX3_told else yX3_hundredths) else yX3_limitOf) else (bif Nat.ble k 39 then yX3_limitBy else yX3_interestOf)) else (bif Nat.ble k 42 then (bif Nat.ble k 41 then yX3_answerNow else yX3_isBacked) else (bif Nat.ble k 43 then yX3_lend else yX3_isDormant))) else (bif Nat.ble k 49 then (bif Nat.ble k 47 then (bif Nat.ble k 46 then (bif Nat.ble k 45 then yX3_dormantOnes else yX4_init) else yX4_usualDue) else (bif Nat.ble k 48 then yX4_add else yX4_owedBy)) else (bif Nat.ble k 51 then (bif Nat.ble k 50 then yX4_payOff else yX4_dueIn) else (bif Nat.ble k 52 then yX4_dueThrough else yX4_isLate)))) else (bif Nat.ble k 62 then (bif Nat.ble k 58 then (bif Nat.ble k 56 then (bif Nat.ble k 55 then (bif Nat.ble k 54 then yX4_lateOf else yX4_hasFailed) else yX4_owedOf) else (bif Nat.ble k 57 then yX4_heldOf else yX4_openOnes)) else (bif Nat.ble k 60 then (bif Nat.ble k 59 then yX4_owedByAll else yX4_dueOfAll) else (bif Nat.ble k 61 then yX4_become else yX5_init))) else (bif Nat.ble k 67 then (bif Nat.ble k 65 then (bif Nat.ble k 64 then (bif Nat.ble k 63 then yX5_mayJoin else yX5_lasts) else yX5_bestOf) else (bif Nat.ble k 66 then yX5_isBetter else yX5_sumOf)) else (bif Nat.ble k 69 then (bif Nat.ble k 68 then yX5_foresee else yX5_foreseeAsk) else (bif Nat.ble k 70 then yX5_foreseenLasts else yX5_lastsThrough)))))) else (bif Nat.ble k 107 then (bif Nat.ble k 89 then (bif Nat.ble k 80 then (bif Nat.ble k 76 then (bif Nat.ble k 74 then (bif Nat.ble k 73 then (bif Nat.ble k 72 then yX5_fell else yX5_failAll) else yX5_wanting) else (bif Nat.ble k 75 then yX6_init else yX6_append)) else (bif Nat.ble k 78 then (bif Nat.ble k 77 then yX6_readRule else yX6_either) else (bif Nat.ble k 79 then yX6_both else yX6_denied))) else (bif Nat.ble k 85 then (bif Nat.ble k 83 then (bif Nat.ble k 82 then (bif Nat.ble k 81 then yX6_compared else yX6_summed) else yX6_multiplied) else (bif Nat.ble k 84 then yX6_single else yX6_emit)) else (bif Nat.ble k 87 then (bif Nat.ble k 86 then yX6_faulty else yX6_step) else (bif Nat.ble k 88 then yX6_number else yX6_word)))) else (bif Nat.ble k 98 then (bif Nat.ble k 94 then (bif Nat.ble k 92 then (bif Nat.ble k 91 then (bif Nat.ble k 90 then yX6_wordNumber else yX6_isDigit) else yX6_isLetter) else (bif Nat.ble k 93 then yX6_isSign else yX7_init)) else (bif Nat.ble k 96 then (bif Nat.ble k 95 then yX7_add else yX7_ruleFor) else (bif Nat.ble k 97 then yX7_valueOf else yX7_work))) else (bif Nat.ble k 103 then (bif Nat.ble k 101 then (bif Nat.ble k 100 then (bif Nat.ble k 99 then yX7_pair else yX7_become) else yX8_init) else (bif Nat.ble k 102 then yX8_join else yX8_move)) else (bif Nat.ble k 105 then (bif Nat.ble k 104 then yX8_entriesBehindDeath else yX8_become) else (bif Nat.ble k 106 then yX9_init else yX9_addCount))))) else (bif Nat.ble k 125 then (bif Nat.ble k 116 then (bif Nat.ble k 112 then (bif Nat.ble k 110 then (bif Nat.ble k 109 then (bif Nat.ble k 108 then yX9_addBook else yX9_suspected) else yX9_onDutyFrom) else (bif Nat.ble k 111 then yX9_become else yX10_init)) else (bif Nat.ble k 114 then (bif Nat.ble k 113 then yX10_gotBy else yX10_become) else (bif Nat.ble k 115 then yX11_init else yX11_member))) else (bif Nat.ble k 121 then (bif Nat.ble k 119 then (bif Nat.ble k 118 then (bif Nat.ble k 117 then yX11_died else yX11_save) else yX11_draw) else (bif Nat.ble k 120 then yX11_found else yX11_saved)) else (bif Nat.ble k 123 then (bif Nat.ble k 122 then yX11_look else yX11_ask) else (bif Nat.ble k 124 then yX11_back else yX11_askOf)))) else (bif Nat.ble k 134 then (bif Nat.ble k 130 then (bif Nat.ble k 128 then (bif Nat.ble k 127 then (bif Nat.ble k 126 then yX11_answer else yX11_pay) else yX11_loanOf) else (bif Nat.ble k 129 then yX11_dues else yX11_taken)) else (bif Nat.ble k 132 then (bif Nat.ble k 131 then yX11_alike else yX11_feed) else (bif Nat.ble k 133 then yX11_wipe else yX11_rule))) else (bif Nat.ble k 138 then (bif Nat.ble k 136 then (bif Nat.ble k 135 then yX11_says else yX11_why) else (bif Nat.ble k 137 then yX11_run else yX11_cost)) else (bif Nat.ble k 140 then (bif Nat.ble k 139 then yX11_year else yX11_got) else (bif Nat.ble k 141 then yX11_voided else yX11_runs))))))) else (bif Nat.ble k 213 then (bif Nat.ble k 178 then (bif Nat.ble k 160 then (bif Nat.ble k 151 then (bif Nat.ble k 147 then (bif Nat.ble k 145 then (bif Nat.ble k 144 then (bif Nat.ble k 143 then yX11_calm else yX11_best) else yX11_judge) else (bif Nat.ble k 146 then yX11_fall else yX11_duty)) else (bif Nat.ble k 149 then (bif Nat.ble k 148 then yX11_counted else yX11_suspects) else (bif Nat.ble k 150 then yX11_book else yX11_wrong))) else (bif Nat.ble k 156 then (bif Nat.ble k 154 then (bif Nat.ble k 153 then (bif Nat.ble k 152 then yX11_count else yX11_image) else yX11_undo) else (bif Nat.ble k 155 then yX11_lay else yX11_set)) else (bif Nat.ble k 158 then (bif Nat.ble k 157 then yX11_tear else yX11_row) else (bif Nat.ble k 159 then yX11_copy else yX11_status)))) else (bif Nat.ble k 169 then (bif Nat.ble k 165 then (bif Nat.ble k 163 then (bif Nat.ble k 162 then (bif Nat.ble k 161 then yX11_refuse else yX11_tellZero) else yX11_outside) else (bif Nat.ble k 164 then yX11_noMember else yX11_noAsk)) else (bif Nat.ble k 167 then (bif Nat.ble k 166 then yX11_noLoan else yX11_noWeek) else (bif Nat.ble k 168 then yX11_nobody else yX11_knowWho))) else (bif Nat.ble k 174 then (bif Nat.ble k 172 then (bif Nat.ble k 171 then (bif Nat.ble k 170 then yX12_init else yX12_in) else yX12_refuse) else (bif Nat.ble k 173 then yX12_nought else yX12_isMember)) else (bif Nat.ble k 176 then (bif Nat.ble k 175 then yX12_isAsk else yX12_isLoan) else (bif Nat.ble k 177 then yX12_sameEntry else yX12_enters))))) else (bif Nat.ble k 196 then (bif Nat.ble k 187 then (bif Nat.ble k 183 then (bif Nat.ble k 181 then (bif Nat.ble k 180 then (bif Nat.ble k 179 then yX12_hasRoom else yX12_savedIn) else yX12_savedNow) else (bif Nat.ble k 182 then yX12_member else yX12_died)) else (bif Nat.ble k 185 then (bif Nat.ble k 184 then yX12_save else yX12_draw) else (bif Nat.ble k 186 then yX12_found else yX12_saved))) else (bif Nat.ble k 192 then (bif Nat.ble k 190 then (bif Nat.ble k 189 then (bif Nat.ble k 188 then yX12_isSecured else yX12_isBacked) else yX12_owed) else (bif Nat.ble k 191 then yX12_isOf else yX12_owes)) else (bif Nat.ble k 194 then (bif Nat.ble k 193 then yX12_held else yX12_dueOf) else (bif Nat.ble k 195 then yX12_duesIn else yX12_dueTill)))) else (bif Nat.ble k 205 then (bif Nat.ble k 201 then (bif Nat.ble k 199 then (bif Nat.ble k 198 then (bif Nat.ble k 197 then yX12_isLate else yX12_lateOf) else yX12_isDormant) else (bif Nat.ble k 200 then yX12_lateEntries else yX12_look)) else (bif Nat.ble k 203 then (bif Nat.ble k 202 then yX12_ask else yX12_back) else (bif Nat.ble k 204 then yX12_pledges else yX12_limit))) else (bif Nat.ble k 209 then (bif Nat.ble k 207 then (bif Nat.ble k 206 then yX12_interest else yX12_isBarred) else (bif Nat.ble k 208 then yX12_isStoodFor else yX12_answerNow)) else (bif Nat.ble k 211 then (bif Nat.ble k 210 then yX12_askOf else yX12_answer) else (bif Nat.ble k 212 then yX12_pay else yX12_loanOf)))))) else (bif Nat.ble k 249 then (bif Nat.ble k 231 then (bif Nat.ble k 222 then (bif Nat.ble k 218 then (bif Nat.ble k 216 then (bif Nat.ble k 215 then (bif Nat.ble k 214 then yX12_dues else yX12_isUnder) else yX12_taken) else (bif Nat.ble k 217 then yX12_alike else yX12_feed)) else (bif Nat.ble k 220 then (bif Nat.ble k 219 then yX12_wipe else yX12_nextWord) else (bif Nat.ble k 221 then yX12_next else yX12_puts))) else (bif Nat.ble k 227 then (bif Nat.ble k 225 then (bif Nat.ble k 224 then (bif Nat.ble k 223 then yX12_opensOne else yX12_or) else yX12_and) else (bif Nat.ble k 226 then yX12_not else yX12_sum)) else (bif Nat.ble k 229 then (bif Nat.ble k 228 then yX12_term else yX12_one) else (bif Nat.ble k 230 then yX12_closesOne else yX12_rule)))) else (bif Nat.ble k 240 then (bif Nat.ble k 236 then (bif Nat.ble k 234 then (bif Nat.ble k 233 then (bif Nat.ble k 232 then yX12_two else yX12_worth) else yX12_names) else (bif Nat.ble k 235 then yX12_finds else yX12_isAsked)) else (bif Nat.ble k 238 then (bif Nat.ble k 237 then yX12_says else yX12_why) else (bif Nat.ble k 239 then yX12_takes else yX12_fails))) else (bif Nat.ble k 245 then (bif Nat.ble k 243 then (bif Nat.ble k 242 then (bif Nat.ble k 241 then yX12_passes else yX12_partsOut) else yX12_bound) else (bif Nat.ble k 244 then yX12_closesYear else yX12_given)) else (bif Nat.ble k 247 then (bif Nat.ble k 246 then yX12_closes else yX12_run) else (bif Nat.ble k 248 then yX12_cost else yX12_isYear))))) else (bif Nat.ble k 267 then (bif Nat.ble k 258 then (bif Nat.ble k 254 then (bif Nat.ble k 252 then (bif Nat.ble k 251 then (bif Nat.ble k 250 then yX12_year else yX12_sharesNow) else yX12_got) else (bif Nat.ble k 253 then yX12_voided else yX12_runs)) else (bif Nat.ble k 256 then (bif Nat.ble k 255 then yX12_calm else yX12_mayBe) else (bif Nat.ble k 257 then yX12_foresees else yX12_lastsBy))) else (bif Nat.ble k 263 then (bif Nat.ble k 261 then (bif Nat.ble k 260 then (bif Nat.ble k 259 then yX12_lasts else yX12_many) else yX12_sums) else (bif Nat.ble k 262 then yX12_isBetter else yX12_best)) else (bif Nat.ble k 265 then (bif Nat.ble k 264 then yX12_judge else yX12_failAll) else (bif Nat.ble k 266 then yX12_fall else yX12_duty)))) else (bif Nat.ble k 276 then (bif Nat.ble k 272 then (bif Nat.ble k 270 then (bif Nat.ble k 269 then (bif Nat.ble k 268 then yX12_counted else yX12_suspects) else yX12_book) else (bif Nat.ble k 271 then yX12_wrong else yX12_count)) else (bif Nat.ble k 274 then (bif Nat.ble k 273 then yX12_image else yX12_undo) else (bif Nat.ble k 275 then yX12_lay else yX12_set))) else (bif Nat.ble k 280 then (bif Nat.ble k 278 then (bif Nat.ble k 277 then yX12_tear else yX12_row) else (bif Nat.ble k 279 then yX12_copy else yX12_status)) else (bif Nat.ble k 282 then (bif Nat.ble k 281 then yL_law else yJ6_bitCount_0f7a4) else (bif Nat.ble k 283 then yJ7_fill_d0a16 else yJ7_fill_53178))))))))
/-- the classes whose code runs -/
def zOn (k : Nat) : String := (bif Nat.ble k 7 then (bif Nat.ble k 3 then (bif Nat.ble k 1 then (bif Nat.ble k 0 then RX0 else RX1) else (bif Nat.ble k 2 then RX2 else RX3)) else (bif Nat.ble k 5 then (bif Nat.ble k 4 then RX4 else RX5) else (bif Nat.ble k 6 then RX6 else RX7))) else (bif Nat.ble k 11 then (bif Nat.ble k 9 then (bif Nat.ble k 8 then RX8 else RX9) else (bif Nat.ble k 10 then RX10 else RX11)) else (bif Nat.ble k 13 then (bif Nat.ble k 12 then RX12 else RL) else (bif Nat.ble k 14 then RJ6 else RJ7))))
def zOc (k : Nat) : Nat := (bif Nat.ble k 142 then (bif Nat.ble k 71 then (bif Nat.ble k 35 then (bif Nat.ble k 17 then (bif Nat.ble k 8 then (bif Nat.ble k 4 then (bif Nat.ble k 2 then (bif Nat.ble k 1 then (bif Nat.ble k 0 then 0 else 0) else 0) else (bif Nat.ble k 3 then 0 else 0)) else (bif Nat.ble k 6 then (bif Nat.ble k 5 then 0 else 0) else (bif Nat.ble k 7 then 0 else 1))) else (bif Nat.ble k 13 then (bif Nat.ble k 11 then (bif Nat.ble k 10 then (bif Nat.ble k 9 then 1 else 1) else 1) else (bif Nat.ble k 12 then 1 else 1)) else (bif Nat.ble k 15 then (bif Nat.ble k 14 then 1 else 1) else (bif Nat.ble k 16 then 1 else 1)))) else (bif Nat.ble k 26 then (bif Nat.ble k 22 then (bif Nat.ble k 20 then (bif Nat.ble k 19 then (bif Nat.ble k 18 then 1 else 1) else 1) else (bif Nat.ble k 21 then 1 else 2)) else (bif Nat.ble k 24 then (bif Nat.ble k 23 then 2 else 2) else (bif Nat.ble k 25 then 2 else 2))) else (bif Nat.ble k 31 then (bif Nat.ble k 29 then (bif Nat.ble k 28 then (bif Nat.ble k 27 then 2 else 2) else 2) else (bif Nat.ble k 30 then 2 else 3)) else (bif Nat.ble k 33 then (bif Nat.ble k 32 then 3 else 3) else (bif Nat.ble k 34 then 3 else 3))))) else (bif Nat.ble k 53 then (bif Nat.ble k 44 then (bif Nat.ble k 40 then (bif Nat.ble k 38 then (bif Nat.ble k 37 then (bif Nat.ble k 36 then 3 else 3) else 3) else (bif Nat.ble k 39 then 3 else 3)) else (bif Nat.ble k 42 then (bif Nat.ble k 41 then 3 else 3) else (bif Nat.ble k 43 then 3 else 3))) else (bif Nat.ble k 49 then (bif Nat.ble k 47 then (bif Nat.ble k 46 then (bif Nat.ble k 45 then 3 else 4) else 4) else (bif Nat.ble k 48 then 4 else 4)) else (bif Nat.ble k 51 then (bif Nat.ble k 50 then 4 else 4) else (bif Nat.ble k 52 then 4 else 4)))) else (bif Nat.ble k 62 then (bif Nat.ble k 58 then (bif Nat.ble k 56 then (bif Nat.ble k 55 then (bif Nat.ble k 54 then 4 else 4) else 4) else (bif Nat.ble k 57 then 4 else 4)) else (bif Nat.ble k 60 then (bif Nat.ble k 59 then 4 else 4) else (bif Nat.ble k 61 then 4 else 5))) else (bif Nat.ble k 67 then (bif Nat.ble k 65 then (bif Nat.ble k 64 then (bif Nat.ble k 63 then 5 else 5) else 5) else (bif Nat.ble k 66 then 5 else 5)) else (bif Nat.ble k 69 then (bif Nat.ble k 68 then 5 else 5) else (bif Nat.ble k 70 then 5 else 5)))))) else (bif Nat.ble k 107 then (bif Nat.ble k 89 then (bif Nat.ble k 80 then (bif Nat.ble k 76 then (bif Nat.ble k 74 then (bif Nat.ble k 73 then (bif Nat.ble k 72 then 5 else 5) else 5) else (bif Nat.ble k 75 then 6 else 6)) else (bif Nat.ble k 78 then (bif Nat.ble k 77 then 6 else 6) else (bif Nat.ble k 79 then 6 else 6))) else (bif Nat.ble k 85 then (bif Nat.ble k 83 then (bif Nat.ble k 82 then (bif Nat.ble k 81 then 6 else 6) else 6) else (bif Nat.ble k 84 then 6 else 6)) else (bif Nat.ble k 87 then (bif Nat.ble k 86 then 6 else 6) else (bif Nat.ble k 88 then 6 else 6)))) else (bif Nat.ble k 98 then (bif Nat.ble k 94 then (bif Nat.ble k 92 then (bif Nat.ble k 91 then (bif Nat.ble k 90 then 6 else 6) else 6) else (bif Nat.ble k 93 then 6 else 7)) else (bif Nat.ble k 96 then (bif Nat.ble k 95 then 7 else 7) else (bif Nat.ble k 97 then 7 else 7))) else (bif Nat.ble k 103 then (bif Nat.ble k 101 then (bif Nat.ble k 100 then (bif Nat.ble k 99 then 7 else 7) else 8) else (bif Nat.ble k 102 then 8 else 8)) else (bif Nat.ble k 105 then (bif Nat.ble k 104 then 8 else 8) else (bif Nat.ble k 106 then 9 else 9))))) else (bif Nat.ble k 125 then (bif Nat.ble k 116 then (bif Nat.ble k 112 then (bif Nat.ble k 110 then (bif Nat.ble k 109 then (bif Nat.ble k 108 then 9 else 9) else 9) else (bif Nat.ble k 111 then 9 else 10)) else (bif Nat.ble k 114 then (bif Nat.ble k 113 then 10 else 10) else (bif Nat.ble k 115 then 11 else 11))) else (bif Nat.ble k 121 then (bif Nat.ble k 119 then (bif Nat.ble k 118 then (bif Nat.ble k 117 then 11 else 11) else 11) else (bif Nat.ble k 120 then 11 else 11)) else (bif Nat.ble k 123 then (bif Nat.ble k 122 then 11 else 11) else (bif Nat.ble k 124 then 11 else 11)))) else (bif Nat.ble k 134 then (bif Nat.ble k 130 then (bif Nat.ble k 128 then (bif Nat.ble k 127 then (bif Nat.ble k 126 then 11 else 11) else 11) else (bif Nat.ble k 129 then 11 else 11)) else (bif Nat.ble k 132 then (bif Nat.ble k 131 then 11 else 11) else (bif Nat.ble k 133 then 11 else 11))) else (bif Nat.ble k 138 then (bif Nat.ble k 136 then (bif Nat.ble k 135 then 11 else 11) else (bif Nat.ble k 137 then 11 else 11)) else (bif Nat.ble k 140 then (bif Nat.ble k 139 then 11 else 11) else (bif Nat.ble k 141 then 11 else 11))))))) else (bif Nat.ble k 213 then (bif Nat.ble k 178 then (bif Nat.ble k 160 then (bif Nat.ble k 151 then (bif Nat.ble k 147 then (bif Nat.ble k 145 then (bif Nat.ble k 144 then (bif Nat.ble k 143 then 11 else 11) else 11) else (bif Nat.ble k 146 then 11 else 11)) else (bif Nat.ble k 149 then (bif Nat.ble k 148 then 11 else 11) else (bif Nat.ble k 150 then 11 else 11))) else (bif Nat.ble k 156 then (bif Nat.ble k 154 then (bif Nat.ble k 153 then (bif Nat.ble k 152 then 11 else 11) else 11) else (bif Nat.ble k 155 then 11 else 11)) else (bif Nat.ble k 158 then (bif Nat.ble k 157 then 11 else 11) else (bif Nat.ble k 159 then 11 else 11)))) else (bif Nat.ble k 169 then (bif Nat.ble k 165 then (bif Nat.ble k 163 then (bif Nat.ble k 162 then (bif Nat.ble k 161 then 11 else 11) else 11) else (bif Nat.ble k 164 then 11 else 11)) else (bif Nat.ble k 167 then (bif Nat.ble k 166 then 11 else 11) else (bif Nat.ble k 168 then 11 else 11))) else (bif Nat.ble k 174 then (bif Nat.ble k 172 then (bif Nat.ble k 171 then (bif Nat.ble k 170 then 12 else 12) else 12) else (bif Nat.ble k 173 then 12 else 12)) else (bif Nat.ble k 176 then (bif Nat.ble k 175 then 12 else 12) else (bif Nat.ble k 177 then 12 else 12))))) else (bif Nat.ble k 196 then (bif Nat.ble k 187 then (bif Nat.ble k 183 then (bif Nat.ble k 181 then (bif Nat.ble k 180 then (bif Nat.ble k 179 then 12 else 12) else 12) else (bif Nat.ble k 182 then 12 else 12)) else (bif Nat.ble k 185 then (bif Nat.ble k 184 then 12 else 12) else (bif Nat.ble k 186 then 12 else 12))) else (bif Nat.ble k 192 then (bif Nat.ble k 190 then (bif Nat.ble k 189 then (bif Nat.ble k 188 then 12 else 12) else 12) else (bif Nat.ble k 191 then 12 else 12)) else (bif Nat.ble k 194 then (bif Nat.ble k 193 then 12 else 12) else (bif Nat.ble k 195 then 12 else 12)))) else (bif Nat.ble k 205 then (bif Nat.ble k 201 then (bif Nat.ble k 199 then (bif Nat.ble k 198 then (bif Nat.ble k 197 then 12 else 12) else 12) else (bif Nat.ble k 200 then 12 else 12)) else (bif Nat.ble k 203 then (bif Nat.ble k 202 then 12 else 12) else (bif Nat.ble k 204 then 12 else 12))) else (bif Nat.ble k 209 then (bif Nat.ble k 207 then (bif Nat.ble k 206 then 12 else 12) else (bif Nat.ble k 208 then 12 else 12)) else (bif Nat.ble k 211 then (bif Nat.ble k 210 then 12 else 12) else (bif Nat.ble k 212 then 12 else 12)))))) else (bif Nat.ble k 249 then (bif Nat.ble k 231 then (bif Nat.ble k 222 then (bif Nat.ble k 218 then (bif Nat.ble k 216 then (bif Nat.ble k 215 then (bif Nat.ble k 214 then 12 else 12) else 12) else (bif Nat.ble k 217 then 12 else 12)) else (bif Nat.ble k 220 then (bif Nat.ble k 219 then 12 else 12) else (bif Nat.ble k 221 then 12 else 12))) else (bif Nat.ble k 227 then (bif Nat.ble k 225 then (bif Nat.ble k 224 then (bif Nat.ble k 223 then 12 else 12) else 12) else (bif Nat.ble k 226 then 12 else 12)) else (bif Nat.ble k 229 then (bif Nat.ble k 228 then 12 else 12) else (bif Nat.ble k 230 then 12 else 12)))) else (bif Nat.ble k 240 then (bif Nat.ble k 236 then (bif Nat.ble k 234 then (bif Nat.ble k 233 then (bif Nat.ble k 232 then 12 else 12) else 12) else (bif Nat.ble k 235 then 12 else 12)) else (bif Nat.ble k 238 then (bif Nat.ble k 237 then 12 else 12) else (bif Nat.ble k 239 then 12 else 12))) else (bif Nat.ble k 245 then (bif Nat.ble k 243 then (bif Nat.ble k 242 then (bif Nat.ble k 241 then 12 else 12) else 12) else (bif Nat.ble k 244 then 12 else 12)) else (bif Nat.ble k 247 then (bif Nat.ble k 246 then 12 else 12) else (bif Nat.ble k 248 then 12 else 12))))) else (bif Nat.ble k 267 then (bif Nat.ble k 258 then (bif Nat.ble k 254 then (bif Nat.ble k 252 then (bif Nat.ble k 251 then (bif Nat.ble k 250 then 12 else 12) else 12) else (bif Nat.ble k 253 then 12 else 12)) else (bif Nat.ble k 256 then (bif Nat.ble k 255 then 12 else 12) else (bif Nat.ble k 257 then 12 else 12))) else (bif Nat.ble k 263 then (bif Nat.ble k 261 then (bif Nat.ble k 260 then (bif Nat.ble k 259 then 12 else 12) else 12) else (bif Nat.ble k 262 then 12 else 12)) else (bif Nat.ble k 265 then (bif Nat.ble k 264 then 12 else 12) else (bif Nat.ble k 266 then 12 else 12)))) else (bif Nat.ble k 276 then (bif Nat.ble k 272 then (bif Nat.ble k 270 then (bif Nat.ble k 269 then (bif Nat.ble k 268 then 12 else 12) else 12) else (bif Nat.ble k 271 then 12 else 12)) else (bif Nat.ble k 274 then (bif Nat.ble k 273 then 12 else 12) else (bif Nat.ble k 275 then 12 else 12))) else (bif Nat.ble k 280 then (bif Nat.ble k 278 then (bif Nat.ble k 277 then 12 else 12) else (bif Nat.ble k 279 then 12 else 12)) else (bif Nat.ble k 282 then (bif Nat.ble k 281 then 13 else 14) else (bif Nat.ble k 283 then 15 else 15))))))))
def zOw (k : Nat) : String := zOn (zOc k)
def zMl (k : Nat) : Nat := (bif Nat.ble k 142 then (bif Nat.ble k 71 then (bif Nat.ble k 35 then (bif Nat.ble k 17 then (bif Nat.ble k 8 then (bif Nat.ble k 4 then (bif Nat.ble k 2 then (bif Nat.ble k 1 then (bif Nat.ble k 0 then 1 else 4) else 6) else (bif Nat.ble k 3 then 5 else 4)) else (bif Nat.ble k 6 then (bif Nat.ble k 5 then 4 else 3) else (bif Nat.ble k 7 then 3 else 3))) else (bif Nat.ble k 13 then (bif Nat.ble k 11 then (bif Nat.ble k 10 then (bif Nat.ble k 9 then 12 else 5) else 3) else (bif Nat.ble k 12 then 4 else 4)) else (bif Nat.ble k 15 then (bif Nat.ble k 14 then 10 else 6) else (bif Nat.ble k 16 then 11 else 3)))) else (bif Nat.ble k 26 then (bif Nat.ble k 22 then (bif Nat.ble k 20 then (bif Nat.ble k 19 then (bif Nat.ble k 18 then 4 else 4) else 3) else (bif Nat.ble k 21 then 5 else 1)) else (bif Nat.ble k 24 then (bif Nat.ble k 23 then 5 else 4) else (bif Nat.ble k 25 then 6 else 6))) else (bif Nat.ble k 31 then (bif Nat.ble k 29 then (bif Nat.ble k 28 then (bif Nat.ble k 27 then 3 else 5) else 7) else (bif Nat.ble k 30 then 2 else 2)) else (bif Nat.ble k 33 then (bif Nat.ble k 32 then 1 else 2) else (bif Nat.ble k 34 then 2 else 2))))) else (bif Nat.ble k 53 then (bif Nat.ble k 44 then (bif Nat.ble k 40 then (bif Nat.ble k 38 then (bif Nat.ble k 37 then (bif Nat.ble k 36 then 3 else 1) else 2) else (bif Nat.ble k 39 then 6 else 3)) else (bif Nat.ble k 42 then (bif Nat.ble k 41 then 4 else 4) else (bif Nat.ble k 43 then 2 else 3))) else (bif Nat.ble k 49 then (bif Nat.ble k 47 then (bif Nat.ble k 46 then (bif Nat.ble k 45 then 3 else 1) else 4) else (bif Nat.ble k 48 then 6 else 2)) else (bif Nat.ble k 51 then (bif Nat.ble k 50 then 3 else 3) else (bif Nat.ble k 52 then 4 else 3)))) else (bif Nat.ble k 62 then (bif Nat.ble k 58 then (bif Nat.ble k 56 then (bif Nat.ble k 55 then (bif Nat.ble k 54 then 5 else 3) else 4) else (bif Nat.ble k 57 then 4 else 3)) else (bif Nat.ble k 60 then (bif Nat.ble k 59 then 3 else 4) else (bif Nat.ble k 61 then 2 else 3))) else (bif Nat.ble k 67 then (bif Nat.ble k 65 then (bif Nat.ble k 64 then (bif Nat.ble k 63 then 3 else 2) else 6) else (bif Nat.ble k 66 then 6 else 4)) else (bif Nat.ble k 69 then (bif Nat.ble k 68 then 3 else 7) else (bif Nat.ble k 70 then 4 else 7)))))) else (bif Nat.ble k 107 then (bif Nat.ble k 89 then (bif Nat.ble k 80 then (bif Nat.ble k 76 then (bif Nat.ble k 74 then (bif Nat.ble k 73 then (bif Nat.ble k 72 then 4 else 4) else 3) else (bif Nat.ble k 75 then 1 else 4)) else (bif Nat.ble k 78 then (bif Nat.ble k 77 then 1 else 4) else (bif Nat.ble k 79 then 4 else 2))) else (bif Nat.ble k 85 then (bif Nat.ble k 83 then (bif Nat.ble k 82 then (bif Nat.ble k 81 then 3 else 5) else 5) else (bif Nat.ble k 84 then 3 else 2)) else (bif Nat.ble k 87 then (bif Nat.ble k 86 then 1 else 1) else (bif Nat.ble k 88 then 1 else 2)))) else (bif Nat.ble k 98 then (bif Nat.ble k 94 then (bif Nat.ble k 92 then (bif Nat.ble k 91 then (bif Nat.ble k 90 then 6 else 1) else 1) else (bif Nat.ble k 93 then 1 else 1)) else (bif Nat.ble k 96 then (bif Nat.ble k 95 then 5 else 6) else (bif Nat.ble k 97 then 3 else 8))) else (bif Nat.ble k 103 then (bif Nat.ble k 101 then (bif Nat.ble k 100 then (bif Nat.ble k 99 then 3 else 3) else 1) else (bif Nat.ble k 102 then 4 else 4)) else (bif Nat.ble k 105 then (bif Nat.ble k 104 then 2 else 3) else (bif Nat.ble k 106 then 1 else 3))))) else (bif Nat.ble k 125 then (bif Nat.ble k 116 then (bif Nat.ble k 112 then (bif Nat.ble k 110 then (bif Nat.ble k 109 then (bif Nat.ble k 108 then 4 else 3) else 5) else (bif Nat.ble k 111 then 2 else 1)) else (bif Nat.ble k 114 then (bif Nat.ble k 113 then 3 else 3) else (bif Nat.ble k 115 then 1 else 3))) else (bif Nat.ble k 121 then (bif Nat.ble k 119 then (bif Nat.ble k 118 then (bif Nat.ble k 117 then 4 else 3) else 3) else (bif Nat.ble k 120 then 4 else 4)) else (bif Nat.ble k 123 then (bif Nat.ble k 122 then 3 else 4) else (bif Nat.ble k 124 then 5 else 3)))) else (bif Nat.ble k 134 then (bif Nat.ble k 130 then (bif Nat.ble k 128 then (bif Nat.ble k 127 then (bif Nat.ble k 126 then 3 else 4) else 4) else (bif Nat.ble k 129 then 3 else 3)) else (bif Nat.ble k 132 then (bif Nat.ble k 131 then 3 else 3) else (bif Nat.ble k 133 then 2 else 3))) else (bif Nat.ble k 138 then (bif Nat.ble k 136 then (bif Nat.ble k 135 then 3 else 3) else (bif Nat.ble k 137 then 4 else 2)) else (bif Nat.ble k 140 then (bif Nat.ble k 139 then 3 else 4) else (bif Nat.ble k 141 then 2 else 5))))))) else (bif Nat.ble k 213 then (bif Nat.ble k 178 then (bif Nat.ble k 160 then (bif Nat.ble k 151 then (bif Nat.ble k 147 then (bif Nat.ble k 145 then (bif Nat.ble k 144 then (bif Nat.ble k 143 then 3 else 2) else 3) else (bif Nat.ble k 146 then 3 else 3)) else (bif Nat.ble k 149 then (bif Nat.ble k 148 then 2 else 1) else (bif Nat.ble k 150 then 4 else 4))) else (bif Nat.ble k 156 then (bif Nat.ble k 154 then (bif Nat.ble k 153 then (bif Nat.ble k 152 then 2 else 1) else 1) else (bif Nat.ble k 155 then 2 else 4)) else (bif Nat.ble k 158 then (bif Nat.ble k 157 then 2 else 2) else (bif Nat.ble k 159 then 4 else 2)))) else (bif Nat.ble k 169 then (bif Nat.ble k 165 then (bif Nat.ble k 163 then (bif Nat.ble k 162 then (bif Nat.ble k 161 then 2 else 2) else 3) else (bif Nat.ble k 164 then 2 else 2)) else (bif Nat.ble k 167 then (bif Nat.ble k 166 then 2 else 2) else (bif Nat.ble k 168 then 2 else 2))) else (bif Nat.ble k 174 then (bif Nat.ble k 172 then (bif Nat.ble k 171 then (bif Nat.ble k 170 then 2 else 3) else 2) else (bif Nat.ble k 173 then 2 else 2)) else (bif Nat.ble k 176 then (bif Nat.ble k 175 then 2 else 2) else (bif Nat.ble k 177 then 4 else 5))))) else (bif Nat.ble k 196 then (bif Nat.ble k 187 then (bif Nat.ble k 183 then (bif Nat.ble k 181 then (bif Nat.ble k 180 then (bif Nat.ble k 179 then 3 else 6) else 2) else (bif Nat.ble k 182 then 4 else 4)) else (bif Nat.ble k 185 then (bif Nat.ble k 184 then 3 else 3) else (bif Nat.ble k 186 then 4 else 4))) else (bif Nat.ble k 192 then (bif Nat.ble k 190 then (bif Nat.ble k 189 then (bif Nat.ble k 188 then 1 else 1) else 3) else (bif Nat.ble k 191 then 3 else 4)) else (bif Nat.ble k 194 then (bif Nat.ble k 193 then 4 else 8) else (bif Nat.ble k 195 then 3 else 5)))) else (bif Nat.ble k 205 then (bif Nat.ble k 201 then (bif Nat.ble k 199 then (bif Nat.ble k 198 then (bif Nat.ble k 197 then 3 else 4) else 2) else (bif Nat.ble k 200 then 4 else 3)) else (bif Nat.ble k 203 then (bif Nat.ble k 202 then 5 else 6) else (bif Nat.ble k 204 then 4 else 4))) else (bif Nat.ble k 209 then (bif Nat.ble k 207 then (bif Nat.ble k 206 then 5 else 3) else (bif Nat.ble k 208 then 4 else 2)) else (bif Nat.ble k 211 then (bif Nat.ble k 210 then 3 else 6) else (bif Nat.ble k 212 then 4 else 3)))))) else (bif Nat.ble k 249 then (bif Nat.ble k 231 then (bif Nat.ble k 222 then (bif Nat.ble k 218 then (bif Nat.ble k 216 then (bif Nat.ble k 215 then (bif Nat.ble k 214 then 3 else 2) else 4) else (bif Nat.ble k 217 then 4 else 4)) else (bif Nat.ble k 220 then (bif Nat.ble k 219 then 2 else 5) else (bif Nat.ble k 221 then 3 else 2))) else (bif Nat.ble k 227 then (bif Nat.ble k 225 then (bif Nat.ble k 224 then (bif Nat.ble k 223 then 1 else 1) else 1) else (bif Nat.ble k 226 then 2 else 2)) else (bif Nat.ble k 229 then (bif Nat.ble k 228 then 2 else 1) else (bif Nat.ble k 230 then 1 else 6)))) else (bif Nat.ble k 240 then (bif Nat.ble k 236 then (bif Nat.ble k 234 then (bif Nat.ble k 233 then (bif Nat.ble k 232 then 3 else 7) else 4) else (bif Nat.ble k 235 then 6 else 3)) else (bif Nat.ble k 238 then (bif Nat.ble k 237 then 3 else 3) else (bif Nat.ble k 239 then 5 else 9))) else (bif Nat.ble k 245 then (bif Nat.ble k 243 then (bif Nat.ble k 242 then (bif Nat.ble k 241 then 3 else 10) else 1) else (bif Nat.ble k 244 then 6 else 4)) else (bif Nat.ble k 247 then (bif Nat.ble k 246 then 6 else 4) else (bif Nat.ble k 248 then 2 else 2))))) else (bif Nat.ble k 267 then (bif Nat.ble k 258 then (bif Nat.ble k 254 then (bif Nat.ble k 252 then (bif Nat.ble k 251 then (bif Nat.ble k 250 then 3 else 7) else 5) else (bif Nat.ble k 253 then 6 else 5)) else (bif Nat.ble k 256 then (bif Nat.ble k 255 then 4 else 3) else (bif Nat.ble k 257 then 5 else 9))) else (bif Nat.ble k 263 then (bif Nat.ble k 261 then (bif Nat.ble k 260 then (bif Nat.ble k 259 then 6 else 3) else 5) else (bif Nat.ble k 262 then 7 else 5)) else (bif Nat.ble k 265 then (bif Nat.ble k 264 then 4 else 4) else (bif Nat.ble k 266 then 8 else 3)))) else (bif Nat.ble k 276 then (bif Nat.ble k 272 then (bif Nat.ble k 270 then (bif Nat.ble k 269 then (bif Nat.ble k 268 then 2 else 4) else 4) else (bif Nat.ble k 271 then 3 else 4)) else (bif Nat.ble k 274 then (bif Nat.ble k 273 then 2 else 2) else (bif Nat.ble k 275 then 3 else 4))) else (bif Nat.ble k 280 then (bif Nat.ble k 278 then (bif Nat.ble k 277 then 2 else 2) else (bif Nat.ble k 279 then 6 else 2)) else (bif Nat.ble k 282 then (bif Nat.ble k 281 then 4 else 1) else (bif Nat.ble k 283 then 5 else 4))))))))
/-- what a method answers: 0 nothing, 1 an int, 2 a long, 3 a boolean -/
def zKd (k : Nat) : Nat := (bif Nat.ble k 142 then (bif Nat.ble k 71 then (bif Nat.ble k 35 then (bif Nat.ble k 17 then (bif Nat.ble k 8 then (bif Nat.ble k 4 then (bif Nat.ble k 2 then (bif Nat.ble k 1 then (bif Nat.ble k 0 then 0 else 3) else 1) else (bif Nat.ble k 3 then 1 else 3)) else (bif Nat.ble k 6 then (bif Nat.ble k 5 then 1 else 1) else (bif Nat.ble k 7 then 0 else 0))) else (bif Nat.ble k 13 then (bif Nat.ble k 11 then (bif Nat.ble k 10 then (bif Nat.ble k 9 then 1 else 1) else 1) else (bif Nat.ble k 12 then 1 else 0)) else (bif Nat.ble k 15 then (bif Nat.ble k 14 then 2 else 0) else (bif Nat.ble k 16 then 3 else 1)))) else (bif Nat.ble k 26 then (bif Nat.ble k 22 then (bif Nat.ble k 20 then (bif Nat.ble k 19 then (bif Nat.ble k 18 then 0 else 2) else 3) else (bif Nat.ble k 21 then 1 else 0)) else (bif Nat.ble k 24 then (bif Nat.ble k 23 then 1 else 3) else (bif Nat.ble k 25 then 0 else 1))) else (bif Nat.ble k 31 then (bif Nat.ble k 29 then (bif Nat.ble k 28 then (bif Nat.ble k 27 then 1 else 1) else 2) else (bif Nat.ble k 30 then 0 else 0)) else (bif Nat.ble k 33 then (bif Nat.ble k 32 then 0 else 0) else (bif Nat.ble k 34 then 0 else 1))))) else (bif Nat.ble k 53 then (bif Nat.ble k 44 then (bif Nat.ble k 40 then (bif Nat.ble k 38 then (bif Nat.ble k 37 then (bif Nat.ble k 36 then 1 else 1) else 1) else (bif Nat.ble k 39 then 1 else 1)) else (bif Nat.ble k 42 then (bif Nat.ble k 41 then 1 else 3) else (bif Nat.ble k 43 then 0 else 3))) else (bif Nat.ble k 49 then (bif Nat.ble k 47 then (bif Nat.ble k 46 then (bif Nat.ble k 45 then 1 else 0) else 1) else (bif Nat.ble k 48 then 1 else 1)) else (bif Nat.ble k 51 then (bif Nat.ble k 50 then 1 else 1) else (bif Nat.ble k 52 then 1 else 3)))) else (bif Nat.ble k 62 then (bif Nat.ble k 58 then (bif Nat.ble k 56 then (bif Nat.ble k 55 then (bif Nat.ble k 54 then 1 else 3) else 1) else (bif Nat.ble k 57 then 1 else 1)) else (bif Nat.ble k 60 then (bif Nat.ble k 59 then 1 else 1) else (bif Nat.ble k 61 then 0 else 0))) else (bif Nat.ble k 67 then (bif Nat.ble k 65 then (bif Nat.ble k 64 then (bif Nat.ble k 63 then 3 else 3) else 1) else (bif Nat.ble k 66 then 3 else 1)) else (bif Nat.ble k 69 then (bif Nat.ble k 68 then 0 else 0) else (bif Nat.ble k 70 then 3 else 3)))))) else (bif Nat.ble k 107 then (bif Nat.ble k 89 then (bif Nat.ble k 80 then (bif Nat.ble k 76 then (bif Nat.ble k 74 then (bif Nat.ble k 73 then (bif Nat.ble k 72 then 0 else 0) else 1) else (bif Nat.ble k 75 then 0 else 1)) else (bif Nat.ble k 78 then (bif Nat.ble k 77 then 3 else 3) else (bif Nat.ble k 79 then 3 else 3))) else (bif Nat.ble k 85 then (bif Nat.ble k 83 then (bif Nat.ble k 82 then (bif Nat.ble k 81 then 3 else 3) else 3) else (bif Nat.ble k 84 then 3 else 3)) else (bif Nat.ble k 87 then (bif Nat.ble k 86 then 3 else 0) else (bif Nat.ble k 88 then 0 else 0)))) else (bif Nat.ble k 98 then (bif Nat.ble k 94 then (bif Nat.ble k 92 then (bif Nat.ble k 91 then (bif Nat.ble k 90 then 1 else 3) else 3) else (bif Nat.ble k 93 then 3 else 0)) else (bif Nat.ble k 96 then (bif Nat.ble k 95 then 1 else 1) else (bif Nat.ble k 97 then 1 else 1))) else (bif Nat.ble k 103 then (bif Nat.ble k 101 then (bif Nat.ble k 100 then (bif Nat.ble k 99 then 1 else 0) else 0) else (bif Nat.ble k 102 then 1 else 1)) else (bif Nat.ble k 105 then (bif Nat.ble k 104 then 1 else 0) else (bif Nat.ble k 106 then 0 else 1))))) else (bif Nat.ble k 125 then (bif Nat.ble k 116 then (bif Nat.ble k 112 then (bif Nat.ble k 110 then (bif Nat.ble k 109 then (bif Nat.ble k 108 then 1 else 1) else 1) else (bif Nat.ble k 111 then 0 else 0)) else (bif Nat.ble k 114 then (bif Nat.ble k 113 then 2 else 0) else (bif Nat.ble k 115 then 0 else 1))) else (bif Nat.ble k 121 then (bif Nat.ble k 119 then (bif Nat.ble k 118 then (bif Nat.ble k 117 then 1 else 1) else 1) else (bif Nat.ble k 120 then 1 else 1)) else (bif Nat.ble k 123 then (bif Nat.ble k 122 then 1 else 1) else (bif Nat.ble k 124 then 1 else 1)))) else (bif Nat.ble k 134 then (bif Nat.ble k 130 then (bif Nat.ble k 128 then (bif Nat.ble k 127 then (bif Nat.ble k 126 then 1 else 1) else 1) else (bif Nat.ble k 129 then 1 else 1)) else (bif Nat.ble k 132 then (bif Nat.ble k 131 then 1 else 1) else (bif Nat.ble k 133 then 1 else 1))) else (bif Nat.ble k 138 then (bif Nat.ble k 136 then (bif Nat.ble k 135 then 1 else 1) else (bif Nat.ble k 137 then 1 else 1)) else (bif Nat.ble k 140 then (bif Nat.ble k 139 then 2 else 2) else (bif Nat.ble k 141 then 1 else 1))))))) else (bif Nat.ble k 213 then (bif Nat.ble k 178 then (bif Nat.ble k 160 then (bif Nat.ble k 151 then (bif Nat.ble k 147 then (bif Nat.ble k 145 then (bif Nat.ble k 144 then (bif Nat.ble k 143 then 1 else 1) else 1) else (bif Nat.ble k 146 then 1 else 1)) else (bif Nat.ble k 149 then (bif Nat.ble k 148 then 1 else 1) else (bif Nat.ble k 150 then 1 else 1))) else (bif Nat.ble k 156 then (bif Nat.ble k 154 then (bif Nat.ble k 153 then (bif Nat.ble k 152 then 1 else 1) else 1) else (bif Nat.ble k 155 then 1 else 1)) else (bif Nat.ble k 158 then (bif Nat.ble k 157 then 1 else 1) else (bif Nat.ble k 159 then 1 else 1)))) else (bif Nat.ble k 169 then (bif Nat.ble k 165 then (bif Nat.ble k 163 then (bif Nat.ble k 162 then (bif Nat.ble k 161 then 1 else 1) else 3) else (bif Nat.ble k 164 then 3 else 3)) else (bif Nat.ble k 167 then (bif Nat.ble k 166 then 3 else 3) else (bif Nat.ble k 168 then 3 else 0))) else (bif Nat.ble k 174 then (bif Nat.ble k 172 then (bif Nat.ble k 171 then (bif Nat.ble k 170 then 0 else 3) else 1) else (bif Nat.ble k 173 then 1 else 3)) else (bif Nat.ble k 176 then (bif Nat.ble k 175 then 3 else 3) else (bif Nat.ble k 177 then 1 else 0))))) else (bif Nat.ble k 196 then (bif Nat.ble k 187 then (bif Nat.ble k 183 then (bif Nat.ble k 181 then (bif Nat.ble k 180 then (bif Nat.ble k 179 then 3 else 1) else 1) else (bif Nat.ble k 182 then 1 else 1)) else (bif Nat.ble k 185 then (bif Nat.ble k 184 then 1 else 1) else (bif Nat.ble k 186 then 1 else 1))) else (bif Nat.ble k 192 then (bif Nat.ble k 190 then (bif Nat.ble k 189 then (bif Nat.ble k 188 then 3 else 3) else 1) else (bif Nat.ble k 191 then 3 else 1)) else (bif Nat.ble k 194 then (bif Nat.ble k 193 then 1 else 1) else (bif Nat.ble k 195 then 1 else 1)))) else (bif Nat.ble k 205 then (bif Nat.ble k 201 then (bif Nat.ble k 199 then (bif Nat.ble k 198 then (bif Nat.ble k 197 then 3 else 1) else 3) else (bif Nat.ble k 200 then 1 else 1)) else (bif Nat.ble k 203 then (bif Nat.ble k 202 then 1 else 1) else (bif Nat.ble k 204 then 1 else 1))) else (bif Nat.ble k 209 then (bif Nat.ble k 207 then (bif Nat.ble k 206 then 1 else 3) else (bif Nat.ble k 208 then 3 else 1)) else (bif Nat.ble k 211 then (bif Nat.ble k 210 then 1 else 1) else (bif Nat.ble k 212 then 1 else 1)))))) else (bif Nat.ble k 249 then (bif Nat.ble k 231 then (bif Nat.ble k 222 then (bif Nat.ble k 218 then (bif Nat.ble k 216 then (bif Nat.ble k 215 then (bif Nat.ble k 214 then 1 else 3) else 1) else (bif Nat.ble k 217 then 1 else 1)) else (bif Nat.ble k 220 then (bif Nat.ble k 219 then 1 else 0) else (bif Nat.ble k 221 then 0 else 0))) else (bif Nat.ble k 227 then (bif Nat.ble k 225 then (bif Nat.ble k 224 then (bif Nat.ble k 223 then 3 else 0) else 0) else (bif Nat.ble k 226 then 0 else 0)) else (bif Nat.ble k 229 then (bif Nat.ble k 228 then 0 else 0) else (bif Nat.ble k 230 then 0 else 1)))) else (bif Nat.ble k 240 then (bif Nat.ble k 236 then (bif Nat.ble k 234 then (bif Nat.ble k 233 then (bif Nat.ble k 232 then 1 else 1) else 0) else (bif Nat.ble k 235 then 1 else 3)) else (bif Nat.ble k 238 then (bif Nat.ble k 237 then 1 else 1) else (bif Nat.ble k 239 then 1 else 1))) else (bif Nat.ble k 245 then (bif Nat.ble k 243 then (bif Nat.ble k 242 then (bif Nat.ble k 241 then 1 else 2) else 1) else (bif Nat.ble k 244 then 0 else 0)) else (bif Nat.ble k 247 then (bif Nat.ble k 246 then 1 else 1) else (bif Nat.ble k 248 then 1 else 3))))) else (bif Nat.ble k 267 then (bif Nat.ble k 258 then (bif Nat.ble k 254 then (bif Nat.ble k 252 then (bif Nat.ble k 251 then (bif Nat.ble k 250 then 2 else 2) else 2) else (bif Nat.ble k 253 then 1 else 1)) else (bif Nat.ble k 256 then (bif Nat.ble k 255 then 1 else 3) else (bif Nat.ble k 257 then 0 else 3))) else (bif Nat.ble k 263 then (bif Nat.ble k 261 then (bif Nat.ble k 260 then (bif Nat.ble k 259 then 3 else 1) else 2) else (bif Nat.ble k 262 then 3 else 1)) else (bif Nat.ble k 265 then (bif Nat.ble k 264 then 1 else 1) else (bif Nat.ble k 266 then 1 else 1)))) else (bif Nat.ble k 276 then (bif Nat.ble k 272 then (bif Nat.ble k 270 then (bif Nat.ble k 269 then (bif Nat.ble k 268 then 1 else 1) else 1) else (bif Nat.ble k 271 then 1 else 1)) else (bif Nat.ble k 274 then (bif Nat.ble k 273 then 1 else 1) else (bif Nat.ble k 275 then 1 else 1))) else (bif Nat.ble k 280 then (bif Nat.ble k 278 then (bif Nat.ble k 277 then 1 else 1) else (bif Nat.ble k 279 then 1 else 1)) else (bif Nat.ble k 282 then (bif Nat.ble k 281 then 3 else 1) else (bif Nat.ble k 283 then 0 else 0))))))))
/-- how many parameters it has -/
def zNp (k : Nat) : Nat := (bif Nat.ble k 142 then (bif Nat.ble k 71 then (bif Nat.ble k 35 then (bif Nat.ble k 17 then (bif Nat.ble k 8 then (bif Nat.ble k 4 then (bif Nat.ble k 2 then (bif Nat.ble k 1 then (bif Nat.ble k 0 then 0 else 2) else 4) else (bif Nat.ble k 3 then 3 else 2)) else (bif Nat.ble k 6 then (bif Nat.ble k 5 then 1 else 2) else (bif Nat.ble k 7 then 1 else 2))) else (bif Nat.ble k 13 then (bif Nat.ble k 11 then (bif Nat.ble k 10 then (bif Nat.ble k 9 then 5 else 4) else 0) else (bif Nat.ble k 12 then 0 else 0)) else (bif Nat.ble k 15 then (bif Nat.ble k 14 then 1 else 1) else (bif Nat.ble k 16 then 3 else 0)))) else (bif Nat.ble k 26 then (bif Nat.ble k 22 then (bif Nat.ble k 20 then (bif Nat.ble k 19 then (bif Nat.ble k 18 then 1 else 2) else 1) else (bif Nat.ble k 21 then 1 else 0)) else (bif Nat.ble k 24 then (bif Nat.ble k 23 then 3 else 3) else (bif Nat.ble k 25 then 4 else 3))) else (bif Nat.ble k 31 then (bif Nat.ble k 29 then (bif Nat.ble k 28 then (bif Nat.ble k 27 then 0 else 2) else 2) else (bif Nat.ble k 30 then 1 else 1)) else (bif Nat.ble k 33 then (bif Nat.ble k 32 then 0 else 1) else (bif Nat.ble k 34 then 1 else 1))))) else (bif Nat.ble k 53 then (bif Nat.ble k 44 then (bif Nat.ble k 40 then (bif Nat.ble k 38 then (bif Nat.ble k 37 then (bif Nat.ble k 36 then 1 else 1) else 1) else (bif Nat.ble k 39 then 2 else 1)) else (bif Nat.ble k 42 then (bif Nat.ble k 41 then 1 else 1) else (bif Nat.ble k 43 then 1 else 1))) else (bif Nat.ble k 49 then (bif Nat.ble k 47 then (bif Nat.ble k 46 then (bif Nat.ble k 45 then 0 else 0) else 4) else (bif Nat.ble k 48 then 4 else 1)) else (bif Nat.ble k 51 then (bif Nat.ble k 50 then 2 else 2) else (bif Nat.ble k 52 then 2 else 2)))) else (bif Nat.ble k 62 then (bif Nat.ble k 58 then (bif Nat.ble k 56 then (bif Nat.ble k 55 then (bif Nat.ble k 54 then 2 else 1) else 1) else (bif Nat.ble k 57 then 1 else 0)) else (bif Nat.ble k 60 then (bif Nat.ble k 59 then 0 else 1) else (bif Nat.ble k 61 then 1 else 2))) else (bif Nat.ble k 67 then (bif Nat.ble k 65 then (bif Nat.ble k 64 then (bif Nat.ble k 63 then 1 else 1) else 1) else (bif Nat.ble k 66 then 2 else 1)) else (bif Nat.ble k 69 then (bif Nat.ble k 68 then 1 else 2) else (bif Nat.ble k 70 then 1 else 3)))))) else (bif Nat.ble k 107 then (bif Nat.ble k 89 then (bif Nat.ble k 80 then (bif Nat.ble k 76 then (bif Nat.ble k 74 then (bif Nat.ble k 73 then (bif Nat.ble k 72 then 1 else 1) else 0) else (bif Nat.ble k 75 then 0 else 2)) else (bif Nat.ble k 78 then (bif Nat.ble k 77 then 0 else 1) else (bif Nat.ble k 79 then 1 else 1))) else (bif Nat.ble k 85 then (bif Nat.ble k 83 then (bif Nat.ble k 82 then (bif Nat.ble k 81 then 1 else 1) else 1) else (bif Nat.ble k 84 then 1 else 1)) else (bif Nat.ble k 87 then (bif Nat.ble k 86 then 0 else 0) else (bif Nat.ble k 88 then 0 else 0)))) else (bif Nat.ble k 98 then (bif Nat.ble k 94 then (bif Nat.ble k 92 then (bif Nat.ble k 91 then (bif Nat.ble k 90 then 0 else 1) else 1) else (bif Nat.ble k 93 then 1 else 0)) else (bif Nat.ble k 96 then (bif Nat.ble k 95 then 3 else 3) else (bif Nat.ble k 97 then 2 else 4))) else (bif Nat.ble k 103 then (bif Nat.ble k 101 then (bif Nat.ble k 100 then (bif Nat.ble k 99 then 3 else 1) else 0) else (bif Nat.ble k 102 then 2 else 3)) else (bif Nat.ble k 105 then (bif Nat.ble k 104 then 1 else 1) else (bif Nat.ble k 106 then 0 else 2))))) else (bif Nat.ble k 125 then (bif Nat.ble k 116 then (bif Nat.ble k 112 then (bif Nat.ble k 110 then (bif Nat.ble k 109 then (bif Nat.ble k 108 then 3 else 0) else 2) else (bif Nat.ble k 111 then 1 else 0)) else (bif Nat.ble k 114 then (bif Nat.ble k 113 then 2 else 1) else (bif Nat.ble k 115 then 0 else 2))) else (bif Nat.ble k 121 then (bif Nat.ble k 119 then (bif Nat.ble k 118 then (bif Nat.ble k 117 then 2 else 2) else 2) else (bif Nat.ble k 120 then 3 else 3)) else (bif Nat.ble k 123 then (bif Nat.ble k 122 then 2 else 3) else (bif Nat.ble k 124 then 3 else 2)))) else (bif Nat.ble k 134 then (bif Nat.ble k 130 then (bif Nat.ble k 128 then (bif Nat.ble k 127 then (bif Nat.ble k 126 then 1 else 2) else 2) else (bif Nat.ble k 129 then 2 else 2)) else (bif Nat.ble k 132 then (bif Nat.ble k 131 then 2 else 2) else (bif Nat.ble k 133 then 0 else 2))) else (bif Nat.ble k 138 then (bif Nat.ble k 136 then (bif Nat.ble k 135 then 2 else 2) else (bif Nat.ble k 137 then 1 else 1)) else (bif Nat.ble k 140 then (bif Nat.ble k 139 then 2 else 3) else (bif Nat.ble k 141 then 0 else 3))))))) else (bif Nat.ble k 213 then (bif Nat.ble k 178 then (bif Nat.ble k 160 then (bif Nat.ble k 151 then (bif Nat.ble k 147 then (bif Nat.ble k 145 then (bif Nat.ble k 144 then (bif Nat.ble k 143 then 1 else 1) else 0) else (bif Nat.ble k 146 then 2 else 1)) else (bif Nat.ble k 149 then (bif Nat.ble k 148 then 1 else 0) else (bif Nat.ble k 150 then 3 else 0))) else (bif Nat.ble k 156 then (bif Nat.ble k 154 then (bif Nat.ble k 153 then (bif Nat.ble k 152 then 1 else 0) else 0) else (bif Nat.ble k 155 then 1 else 2)) else (bif Nat.ble k 158 then (bif Nat.ble k 157 then 0 else 1) else (bif Nat.ble k 159 then 3 else 1)))) else (bif Nat.ble k 169 then (bif Nat.ble k 165 then (bif Nat.ble k 163 then (bif Nat.ble k 162 then (bif Nat.ble k 161 then 1 else 1) else 3) else (bif Nat.ble k 164 then 1 else 1)) else (bif Nat.ble k 167 then (bif Nat.ble k 166 then 1 else 1) else (bif Nat.ble k 168 then 1 else 1))) else (bif Nat.ble k 174 then (bif Nat.ble k 172 then (bif Nat.ble k 171 then (bif Nat.ble k 170 then 0 else 3) else 1) else (bif Nat.ble k 173 then 1 else 1)) else (bif Nat.ble k 176 then (bif Nat.ble k 175 then 1 else 1) else (bif Nat.ble k 177 then 2 else 3))))) else (bif Nat.ble k 196 then (bif Nat.ble k 187 then (bif Nat.ble k 183 then (bif Nat.ble k 181 then (bif Nat.ble k 180 then (bif Nat.ble k 179 then 2 else 3) else 1) else (bif Nat.ble k 182 then 2 else 2)) else (bif Nat.ble k 185 then (bif Nat.ble k 184 then 2 else 2) else (bif Nat.ble k 186 then 3 else 3))) else (bif Nat.ble k 192 then (bif Nat.ble k 190 then (bif Nat.ble k 189 then (bif Nat.ble k 188 then 1 else 1) else 1) else (bif Nat.ble k 191 then 2 else 1)) else (bif Nat.ble k 194 then (bif Nat.ble k 193 then 1 else 3) else (bif Nat.ble k 195 then 2 else 2)))) else (bif Nat.ble k 205 then (bif Nat.ble k 201 then (bif Nat.ble k 199 then (bif Nat.ble k 198 then (bif Nat.ble k 197 then 2 else 1) else 1) else (bif Nat.ble k 200 then 1 else 2)) else (bif Nat.ble k 203 then (bif Nat.ble k 202 then 3 else 3) else (bif Nat.ble k 204 then 1 else 1))) else (bif Nat.ble k 209 then (bif Nat.ble k 207 then (bif Nat.ble k 206 then 1 else 1) else (bif Nat.ble k 208 then 1 else 1)) else (bif Nat.ble k 211 then (bif Nat.ble k 210 then 2 else 1) else (bif Nat.ble k 212 then 2 else 2)))))) else (bif Nat.ble k 249 then (bif Nat.ble k 231 then (bif Nat.ble k 222 then (bif Nat.ble k 218 then (bif Nat.ble k 216 then (bif Nat.ble k 215 then (bif Nat.ble k 214 then 2 else 2) else 2) else (bif Nat.ble k 217 then 2 else 2)) else (bif Nat.ble k 220 then (bif Nat.ble k 219 then 0 else 0) else (bif Nat.ble k 221 then 0 else 1))) else (bif Nat.ble k 227 then (bif Nat.ble k 225 then (bif Nat.ble k 224 then (bif Nat.ble k 223 then 0 else 0) else 0) else (bif Nat.ble k 226 then 0 else 0)) else (bif Nat.ble k 229 then (bif Nat.ble k 228 then 0 else 0) else (bif Nat.ble k 230 then 0 else 2)))) else (bif Nat.ble k 240 then (bif Nat.ble k 236 then (bif Nat.ble k 234 then (bif Nat.ble k 233 then (bif Nat.ble k 232 then 3 else 3) else 1) else (bif Nat.ble k 235 then 2 else 2)) else (bif Nat.ble k 238 then (bif Nat.ble k 237 then 2 else 2) else (bif Nat.ble k 239 then 2 else 1))) else (bif Nat.ble k 245 then (bif Nat.ble k 243 then (bif Nat.ble k 242 then (bif Nat.ble k 241 then 0 else 1) else 1) else (bif Nat.ble k 244 then 0 else 2)) else (bif Nat.ble k 247 then (bif Nat.ble k 246 then 0 else 1) else (bif Nat.ble k 248 then 1 else 1))))) else (bif Nat.ble k 267 then (bif Nat.ble k 258 then (bif Nat.ble k 254 then (bif Nat.ble k 252 then (bif Nat.ble k 251 then (bif Nat.ble k 250 then 2 else 2) else 3) else (bif Nat.ble k 253 then 0 else 3)) else (bif Nat.ble k 256 then (bif Nat.ble k 255 then 1 else 1) else (bif Nat.ble k 257 then 1 else 3))) else (bif Nat.ble k 263 then (bif Nat.ble k 261 then (bif Nat.ble k 260 then (bif Nat.ble k 259 then 1 else 1) else 1) else (bif Nat.ble k 262 then 2 else 1)) else (bif Nat.ble k 265 then (bif Nat.ble k 264 then 0 else 1) else (bif Nat.ble k 266 then 2 else 1)))) else (bif Nat.ble k 276 then (bif Nat.ble k 272 then (bif Nat.ble k 270 then (bif Nat.ble k 269 then (bif Nat.ble k 268 then 1 else 0) else 3) else (bif Nat.ble k 271 then 0 else 1)) else (bif Nat.ble k 274 then (bif Nat.ble k 273 then 0 else 0) else (bif Nat.ble k 275 then 1 else 2))) else (bif Nat.ble k 280 then (bif Nat.ble k 278 then (bif Nat.ble k 277 then 0 else 1) else (bif Nat.ble k 279 then 3 else 1)) else (bif Nat.ble k 282 then (bif Nat.ble k 281 then 1 else 1) else (bif Nat.ble k 283 then 2 else 2))))))))
def zIs (k : Nat) : Bool := (bif Nat.ble k 142 then (bif Nat.ble k 71 then (bif Nat.ble k 35 then (bif Nat.ble k 17 then (bif Nat.ble k 8 then (bif Nat.ble k 4 then (bif Nat.ble k 2 then (bif Nat.ble k 1 then (bif Nat.ble k 0 then true else false) else false) else (bif Nat.ble k 3 then false else false)) else (bif Nat.ble k 6 then (bif Nat.ble k 5 then false else false) else (bif Nat.ble k 7 then false else true))) else (bif Nat.ble k 13 then (bif Nat.ble k 11 then (bif Nat.ble k 10 then (bif Nat.ble k 9 then false else false) else false) else (bif Nat.ble k 12 then false else false)) else (bif Nat.ble k 15 then (bif Nat.ble k 14 then false else false) else (bif Nat.ble k 16 then false else false)))) else (bif Nat.ble k 26 then (bif Nat.ble k 22 then (bif Nat.ble k 20 then (bif Nat.ble k 19 then (bif Nat.ble k 18 then false else false) else false) else (bif Nat.ble k 21 then false else true)) else (bif Nat.ble k 24 then (bif Nat.ble k 23 then false else false) else (bif Nat.ble k 25 then false else false))) else (bif Nat.ble k 31 then (bif Nat.ble k 29 then (bif Nat.ble k 28 then (bif Nat.ble k 27 then false else false) else false) else (bif Nat.ble k 30 then false else true)) else (bif Nat.ble k 33 then (bif Nat.ble k 32 then false else false) else (bif Nat.ble k 34 then false else false))))) else (bif Nat.ble k 53 then (bif Nat.ble k 44 then (bif Nat.ble k 40 then (bif Nat.ble k 38 then (bif Nat.ble k 37 then (bif Nat.ble k 36 then false else false) else false) else (bif Nat.ble k 39 then false else false)) else (bif Nat.ble k 42 then (bif Nat.ble k 41 then false else false) else (bif Nat.ble k 43 then false else false))) else (bif Nat.ble k 49 then (bif Nat.ble k 47 then (bif Nat.ble k 46 then (bif Nat.ble k 45 then false else true) else false) else (bif Nat.ble k 48 then false else false)) else (bif Nat.ble k 51 then (bif Nat.ble k 50 then false else false) else (bif Nat.ble k 52 then false else false)))) else (bif Nat.ble k 62 then (bif Nat.ble k 58 then (bif Nat.ble k 56 then (bif Nat.ble k 55 then (bif Nat.ble k 54 then false else false) else false) else (bif Nat.ble k 57 then false else false)) else (bif Nat.ble k 60 then (bif Nat.ble k 59 then false else false) else (bif Nat.ble k 61 then false else true))) else (bif Nat.ble k 67 then (bif Nat.ble k 65 then (bif Nat.ble k 64 then (bif Nat.ble k 63 then false else false) else false) else (bif Nat.ble k 66 then false else false)) else (bif Nat.ble k 69 then (bif Nat.ble k 68 then false else false) else (bif Nat.ble k 70 then false else false)))))) else (bif Nat.ble k 107 then (bif Nat.ble k 89 then (bif Nat.ble k 80 then (bif Nat.ble k 76 then (bif Nat.ble k 74 then (bif Nat.ble k 73 then (bif Nat.ble k 72 then false else false) else false) else (bif Nat.ble k 75 then true else false)) else (bif Nat.ble k 78 then (bif Nat.ble k 77 then false else false) else (bif Nat.ble k 79 then false else false))) else (bif Nat.ble k 85 then (bif Nat.ble k 83 then (bif Nat.ble k 82 then (bif Nat.ble k 81 then false else false) else false) else (bif Nat.ble k 84 then false else false)) else (bif Nat.ble k 87 then (bif Nat.ble k 86 then false else false) else (bif Nat.ble k 88 then false else false)))) else (bif Nat.ble k 98 then (bif Nat.ble k 94 then (bif Nat.ble k 92 then (bif Nat.ble k 91 then (bif Nat.ble k 90 then false else false) else false) else (bif Nat.ble k 93 then false else true)) else (bif Nat.ble k 96 then (bif Nat.ble k 95 then false else false) else (bif Nat.ble k 97 then false else false))) else (bif Nat.ble k 103 then (bif Nat.ble k 101 then (bif Nat.ble k 100 then (bif Nat.ble k 99 then false else false) else true) else (bif Nat.ble k 102 then false else false)) else (bif Nat.ble k 105 then (bif Nat.ble k 104 then false else false) else (bif Nat.ble k 106 then true else false))))) else (bif Nat.ble k 125 then (bif Nat.ble k 116 then (bif Nat.ble k 112 then (bif Nat.ble k 110 then (bif Nat.ble k 109 then (bif Nat.ble k 108 then false else false) else false) else (bif Nat.ble k 111 then false else true)) else (bif Nat.ble k 114 then (bif Nat.ble k 113 then false else false) else (bif Nat.ble k 115 then true else false))) else (bif Nat.ble k 121 then (bif Nat.ble k 119 then (bif Nat.ble k 118 then (bif Nat.ble k 117 then false else false) else false) else (bif Nat.ble k 120 then false else false)) else (bif Nat.ble k 123 then (bif Nat.ble k 122 then false else false) else (bif Nat.ble k 124 then false else false)))) else (bif Nat.ble k 134 then (bif Nat.ble k 130 then (bif Nat.ble k 128 then (bif Nat.ble k 127 then (bif Nat.ble k 126 then false else false) else false) else (bif Nat.ble k 129 then false else false)) else (bif Nat.ble k 132 then (bif Nat.ble k 131 then false else false) else (bif Nat.ble k 133 then false else false))) else (bif Nat.ble k 138 then (bif Nat.ble k 136 then (bif Nat.ble k 135 then false else false) else (bif Nat.ble k 137 then false else false)) else (bif Nat.ble k 140 then (bif Nat.ble k 139 then false else false) else (bif Nat.ble k 141 then false else false))))))) else (bif Nat.ble k 213 then (bif Nat.ble k 178 then (bif Nat.ble k 160 then (bif Nat.ble k 151 then (bif Nat.ble k 147 then (bif Nat.ble k 145 then (bif Nat.ble k 144 then (bif Nat.ble k 143 then false else false) else false) else (bif Nat.ble k 146 then false else false)) else (bif Nat.ble k 149 then (bif Nat.ble k 148 then false else false) else (bif Nat.ble k 150 then false else false))) else (bif Nat.ble k 156 then (bif Nat.ble k 154 then (bif Nat.ble k 153 then (bif Nat.ble k 152 then false else false) else false) else (bif Nat.ble k 155 then false else false)) else (bif Nat.ble k 158 then (bif Nat.ble k 157 then false else false) else (bif Nat.ble k 159 then false else false)))) else (bif Nat.ble k 169 then (bif Nat.ble k 165 then (bif Nat.ble k 163 then (bif Nat.ble k 162 then (bif Nat.ble k 161 then false else false) else false) else (bif Nat.ble k 164 then false else false)) else (bif Nat.ble k 167 then (bif Nat.ble k 166 then false else false) else (bif Nat.ble k 168 then false else false))) else (bif Nat.ble k 174 then (bif Nat.ble k 172 then (bif Nat.ble k 171 then (bif Nat.ble k 170 then true else false) else false) else (bif Nat.ble k 173 then false else false)) else (bif Nat.ble k 176 then (bif Nat.ble k 175 then false else false) else (bif Nat.ble k 177 then false else false))))) else (bif Nat.ble k 196 then (bif Nat.ble k 187 then (bif Nat.ble k 183 then (bif Nat.ble k 181 then (bif Nat.ble k 180 then (bif Nat.ble k 179 then false else false) else false) else (bif Nat.ble k 182 then false else false)) else (bif Nat.ble k 185 then (bif Nat.ble k 184 then false else false) else (bif Nat.ble k 186 then false else false))) else (bif Nat.ble k 192 then (bif Nat.ble k 190 then (bif Nat.ble k 189 then (bif Nat.ble k 188 then false else false) else false) else (bif Nat.ble k 191 then false else false)) else (bif Nat.ble k 194 then (bif Nat.ble k 193 then false else false) else (bif Nat.ble k 195 then false else false)))) else (bif Nat.ble k 205 then (bif Nat.ble k 201 then (bif Nat.ble k 199 then (bif Nat.ble k 198 then (bif Nat.ble k 197 then false else false) else false) else (bif Nat.ble k 200 then false else false)) else (bif Nat.ble k 203 then (bif Nat.ble k 202 then false else false) else (bif Nat.ble k 204 then false else false))) else (bif Nat.ble k 209 then (bif Nat.ble k 207 then (bif Nat.ble k 206 then false else false) else (bif Nat.ble k 208 then false else false)) else (bif Nat.ble k 211 then (bif Nat.ble k 210 then false else false) else (bif Nat.ble k 212 then false else false)))))) else (bif Nat.ble k 249 then (bif Nat.ble k 231 then (bif Nat.ble k 222 then (bif Nat.ble k 218 then (bif Nat.ble k 216 then (bif Nat.ble k 215 then (bif Nat.ble k 214 then false else false) else false) else (bif Nat.ble k 217 then false else false)) else (bif Nat.ble k 220 then (bif Nat.ble k 219 then false else false) else (bif Nat.ble k 221 then false else false))) else (bif Nat.ble k 227 then (bif Nat.ble k 225 then (bif Nat.ble k 224 then (bif Nat.ble k 223 then false else false) else false) else (bif Nat.ble k 226 then false else false)) else (bif Nat.ble k 229 then (bif Nat.ble k 228 then false else false) else (bif Nat.ble k 230 then false else false)))) else (bif Nat.ble k 240 then (bif Nat.ble k 236 then (bif Nat.ble k 234 then (bif Nat.ble k 233 then (bif Nat.ble k 232 then false else false) else false) else (bif Nat.ble k 235 then false else false)) else (bif Nat.ble k 238 then (bif Nat.ble k 237 then false else false) else (bif Nat.ble k 239 then false else false))) else (bif Nat.ble k 245 then (bif Nat.ble k 243 then (bif Nat.ble k 242 then (bif Nat.ble k 241 then false else false) else false) else (bif Nat.ble k 244 then false else false)) else (bif Nat.ble k 247 then (bif Nat.ble k 246 then false else false) else (bif Nat.ble k 248 then false else false))))) else (bif Nat.ble k 267 then (bif Nat.ble k 258 then (bif Nat.ble k 254 then (bif Nat.ble k 252 then (bif Nat.ble k 251 then (bif Nat.ble k 250 then false else false) else false) else (bif Nat.ble k 253 then false else false)) else (bif Nat.ble k 256 then (bif Nat.ble k 255 then false else false) else (bif Nat.ble k 257 then false else false))) else (bif Nat.ble k 263 then (bif Nat.ble k 261 then (bif Nat.ble k 260 then (bif Nat.ble k 259 then false else false) else false) else (bif Nat.ble k 262 then false else false)) else (bif Nat.ble k 265 then (bif Nat.ble k 264 then false else false) else (bif Nat.ble k 266 then false else false)))) else (bif Nat.ble k 276 then (bif Nat.ble k 272 then (bif Nat.ble k 270 then (bif Nat.ble k 269 then (bif Nat.ble k 268 then false else false) else false) else (bif Nat.ble k 271 then false else false)) else (bif Nat.ble k 274 then (bif Nat.ble k 273 then false else false) else (bif Nat.ble k 275 then false else false))) else (bif Nat.ble k 280 then (bif Nat.ble k 278 then (bif Nat.ble k 277 then false else false) else (bif Nat.ble k 279 then false else false)) else (bif Nat.ble k 282 then (bif Nat.ble k 281 then false else false) else (bif Nat.ble k 283 then false else false))))))))
/-- a constructor: how many cells it makes, how many reference slots it sets -/
def zCa (k : Nat) : Nat × Nat := bif Nat.beq k 0 then (57, 9) else bif Nat.beq k 8 then (3, 5) else bif Nat.beq k 22 then (6, 6) else bif Nat.beq k 31 then (1, 2) else bif Nat.beq k 46 then (15, 15) else bif Nat.beq k 62 then (49, 6) else bif Nat.beq k 75 then (2, 2) else bif Nat.beq k 94 then (19, 7) else bif Nat.beq k 101 then (161, 13) else bif Nat.beq k 106 then (6, 6) else bif Nat.beq k 112 then (41, 6) else bif Nat.beq k 115 then (385, 8) else bif Nat.beq k 170 then (16, 16) else (0, 0)
/-- links that go through the nest host -/
def zNM : List (String × Nat × MethodName) := [("CommonBond", 9, ⟨"CommonBond$State", "<init>", "()V"⟩), ("CommonBond$State", 36, ⟨"CommonBond$Ledger", "<init>", "()V"⟩), ("CommonBond$State", 43, ⟨"CommonBond$Asks", "<init>", "()V"⟩), ("CommonBond$State", 50, ⟨"CommonBond$Loans", "<init>", "()V"⟩), ("CommonBond$State", 57, ⟨"CommonBond$Rules", "<init>", "()V"⟩), ("CommonBond$State", 64, ⟨"CommonBond$Years", "<init>", "()V"⟩), ("CommonBond", 25, ⟨"CommonBond$Reader", "<init>", "()V"⟩), ("CommonBond$Planner", 22, ⟨"CommonBond$Ledger", "<init>", "()V"⟩), ("CommonBond$Planner", 29, ⟨"CommonBond$Loans", "<init>", "()V"⟩)]
def zNF : List (String × Nat × String) := [("CommonBond$Asks", 45, "UNDER"), ("CommonBond$Lender", 98, "OTHERWISE")]
abbrev zI : Type := Nat × ClassFile.Instr × Nat × Nat × Nat × Int
end
section
/-! THE ABSTRACT MACHINE: values, memories, the world that a memory stands for -/
abbrev zV : Type := Int ⊕ (Int ⊕ (Nat ⊕ (Nat × Int)))
abbrev zM : Type := Nat → Int → Int
abbrev zi (a : Int) : zV := .inl a
abbrev zl (a : Int) : zV := .inr (.inl a)
abbrev zr (k : Nat) : zV := .inr (.inr (.inl k))
abbrev zw (k : Nat) (i : Int) : zV := .inr (.inr (.inr (k, i)))
def zIn (a : Int) : Prop := -2147483648 ≤ a ∧ a < 2147483648
def zLn (a : Int) : Prop := -9223372036854775808 ≤ a ∧ a < 9223372036854775808
def w32 (a : Int) : Int := (a + 2147483648) % 4294967296 - 2147483648
def w64 (a : Int) : Int := (a + 9223372036854775808) % 18446744073709551616 - 9223372036854775808
def zupd (x : zM) (k : Nat) (i v : Int) : zM := fun k' i' => if k' = k ∧ i' = i then v else x k' i'
/-- n places from lo on become v -/
def zfil (x : zM) (k : Nat) (lo n v : Int) : zM := fun k' i' => if k' = k ∧ lo ≤ i' ∧ i' < lo + n then v else x k' i'
def zcpy (x : zM) (ks : Nat) (sp : Int) (kd : Nat) (dp n : Int) : zM := fun k' i' => if k' = kd ∧ dp ≤ i' ∧ i' < dp + n then x ks (sp + (i' - dp)) else x k' i'
def zrd (x m : zM) (k : Nat) : Int → Int := bif Nat.ble k 385 then x k else m k
def zc (ad : Nat → Nat) : zV → Value
  | .inl a => .int (Int32.ofInt a)
  | .inr (.inl a) => .long (Int64.ofInt a)
  | .inr (.inr (.inl k)) => .ref (ad k)
  | .inr (.inr (.inr (o, i))) => .ref (ad ((zSh o).2.1 + i.toNat))
/-- a value that may lie there: in its range; a place that stands -/
def zOk (n : Nat) : zV → Prop
  | .inl a => zIn a
  | .inr (.inl a) => zLn a
  | .inr (.inr (.inl k)) => k < n ∨ 2000 ≤ k
  | .inr (.inr (.inr (o, i))) => 0 ≤ i ∧ i < ((zSh o).2.2.1 : Int) ∧ (zSh o).2.1 + i.toNat < n
def zcat : zV → Nat
  | .inl _ => 1
  | .inr (.inl _) => 2
  | .inr (.inr _) => 1
theorem zcat_eq (ad : Nat → Nat) (v : zV) : (zc ad v).category = zcat v := by
  rcases v with a | a | a | ⟨o, i⟩ <;> rfl
def zFv (ad : Nat → Nat) (u : List (Nat × Nat)) (μ : zM) (k j : Nat) : Value :=
  match (zTy (zSh k).2.1).getD j 0 with
  | 1 => .long (Int64.ofInt (μ k j))
  | 2 => if (k, j) ∈ u then .null else .ref (ad ((zRf k).getD j 0))
  | _ => .int (Int32.ofInt (μ k j))
def zE (ca : Nat → ClassId) (ad : Nat → Nat) (u : List (Nat × Nat)) (μ : zM) (k : Nat) : va_E :=
  match zSh k with
  | (0, ci, nf, _) => .inr (ci, (List.range nf).map (zFv ad u μ k))
  | (1, n, _, _) => .inl (ca k, n, .inl (fun i => Int32.ofInt (μ k i)))
  | (2, n, _, _) => .inl (ca k, n, .inr (.inl (fun i => Int64.ofInt (μ k i))))
  | (5, o, i, w) => .inl (ca k, w, .inl (fun j => Int32.ofInt (μ o ((i : Int) * w + j))))
  | (6, o, i, w) => .inl (ca k, w, .inr (.inl (fun j => Int64.ofInt (μ o ((i : Int) * w + j)))))
  | (_, b, n, _) => .inl (ca k, n, .inr (.inr (.inr (.inr (fun i => if i < n then some (ad (b + i)) else none)))))
/-- the type of an array place's components -/
def zEt (k : Nat) : FieldType :=
  match (zSh k).1 with
  | 2 => .long
  | 6 => .long
  | 3 => .array .int
  | 4 => .array .long
  | _ => .int
def zws (ca : Nat → ClassId) (ad : Nat → Nat) (n : Nat) (u : List (Nat × Nat)) (μ : zM) : va_W := (List.range n).map (fun k => (ad k, zE ca ad u μ k))
/-- does the memory hold longs at a place -/
def zLg (k : Nat) (i : Int) : Bool :=
  match (zSh k).1 with
  | 0 => Nat.beq ((zTy (zSh k).2.1).getD i.toNat 0) 1
  | 2 => true
  | 4 => true
  | _ => false
def zRg (k : Nat) (i v : Int) : Prop := bif zLg k i then zLn v else zIn v
/-- what a reference that is set leads to stands -/
def zCls (n : Nat) (u : List (Nat × Nat)) : Prop := ∀ k, k < n → ((zSh k).1 = 0 → ∀ j, (zTy (zSh k).2.1).getD j 0 = 2 → (k, j) ∉ u → (zRf k).getD j 0 < n) ∧ ((zSh k).1 = 3 ∨ (zSh k).1 = 4 → (zSh k).2.1 + (zSh k).2.2.1 ≤ n)
def zW (s : State) (A : Nat → Prop) (D : va_G) (n : Nat) (u : List (Nat × Nat)) (ad : Nat → Nat) (x m : zM) (H : Heap) : Prop :=
  ∃ (ca : Nat → ClassId) (tys : List (ClassId × FieldType)), va_K D vwCl tys s ∧ va_P D vwCl (zws ca ad n u (zrd x m)) H ∧ va_D A (zws ca ad n u (zrd x m)) ∧
    (∀ k, k < n → (zSh k).1 ≠ 0 → ∃ t0 : Nat, tys[t0]? = some (ca k, zEt k)) ∧ (∀ k i, zRg k i (zrd x m k i)) ∧ zCls n u
theorem zws_get {ca : Nat → ClassId} {ad : Nat → Nat} {n : Nat} {u : List (Nat × Nat)} {μ : zM} {k : Nat} (h : k < n) : (zws ca ad n u μ)[k]? = some (ad k, zE ca ad u μ k) := by
  simp [zws, h]
theorem zws_len {ca : Nat → ClassId} {ad : Nat → Nat} {n : Nat} {u : List (Nat × Nat)} {μ : zM} : (zws ca ad n u μ).length = n := by simp [zws]
theorem zws_get_inv {ca : Nat → ClassId} {ad : Nat → Nat} {n : Nat} {u : List (Nat × Nat)} {μ : zM} {k : Nat} {q : Nat × va_E} (h : (zws ca ad n u μ)[k]? = some q) : k < n ∧ q = (ad k, zE ca ad u μ k) := by
  have h1 : k < n := by
    have := (List.getElem?_eq_some_iff.mp h).1
    rwa [zws_len] at this
  rw [zws_get h1] at h
  exact ⟨h1, (Option.some.inj h).symm⟩
/-- one cell's picture serves for another -/
def zEq (e e' : va_E) : Prop := ∀ (D : va_G) (cl : List vw_C) (a : Nat) (H : Heap), va_at D cl (a, e) H → va_at D cl (a, e') H
theorem zEq.rf (e : va_E) : zEq e e := fun _ _ _ _ h => h
theorem zEq.of {e e' : va_E} (h : e = e') : zEq e e' := h ▸ zEq.rf e
theorem arrV_ext {c : ClassId} {n : Nat} {f g : Nat → Value} (h : ∀ j, j < n → f j = g j) : arrV c n f = arrV c n g := by
  have e : (fun j : Fin n => f j) = (fun j : Fin n => g j) := funext fun j => h j j.2
  unfold arrV
  rw [e]
theorem zEq.ints {c : ClassId} {n : Nat} {f g : Nat → Int32} (h : ∀ j, j < n → f j = g j) : zEq (.inl (c, n, .inl f)) (.inl (c, n, .inl g)) := by
  intro D cl a H ha
  show H[a]? = some (vp_cell c (n, .inl g))
  rw [vp_cell_i, ← arrV_ext (f := fun j => .int (f j)) (fun j hj => by show Value.int _ = Value.int _; rw [h j hj]), ← vp_cell_i]
  exact ha
theorem zEq.longs {c : ClassId} {n : Nat} {f g : Nat → Int64} (h : ∀ j, j < n → f j = g j) : zEq (.inl (c, n, .inr (.inl f))) (.inl (c, n, .inr (.inl g))) := by
  intro D cl a H ha
  show H[a]? = some (vp_cell c (n, .inr (.inl g)))
  rw [vp_cell_l, ← arrV_ext (f := fun j => .long (f j)) (fun j hj => by show Value.long _ = Value.long _; rw [h j hj]), ← vp_cell_l]
  exact ha
theorem zEq.obj {ci : Nat} {fs gs : List Value} (h : ∀ j, vp_V fs j = vp_V gs j) : zEq (.inr (ci, fs)) (.inr (ci, gs)) := by
  intro D cl a H ha
  obtain ⟨r, h1, h2⟩ := ha
  refine ⟨r, h1, ?_⟩
  have e : vp_V fs = vp_V gs := funext h
  rwa [← e]
theorem zP_ext {D : va_G} {cl : List vw_C} {ca ca' : Nat → ClassId} {ad ad' : Nat → Nat} {n : Nat} {u u' : List (Nat × Nat)} {μ μ' : zM} {ws : va_W} {H : Heap} (hP : va_P D cl ws H) (hw : ∀ k, k < n → ∃ e, ws[k]? = some (ad' k, e) ∧ zEq e (zE ca' ad' u' μ' k)) : va_P D cl (zws ca' ad' n u' μ') H := by
  intro k q hq
  obtain ⟨hk, rfl⟩ := zws_get_inv hq
  obtain ⟨e, h1, h2⟩ := hw k hk
  exact h2 D cl _ H (hP k _ h1)
theorem zD_ext {A : Nat → Prop} {ca ca' : Nat → ClassId} {ad : Nat → Nat} {n : Nat} {u u' : List (Nat × Nat)} {μ μ' : zM} (hD : va_D A (zws ca ad n u μ)) : va_D A (zws ca' ad n u' μ') := by
  refine ⟨fun i j p q hp hq hpq => ?_, fun k q hq => ?_⟩
  · obtain ⟨hi, rfl⟩ := zws_get_inv hp
    obtain ⟨hj, rfl⟩ := zws_get_inv hq
    exact hD.1 i j _ _ (zws_get hi) (zws_get hj) hpq
  · obtain ⟨hk, rfl⟩ := zws_get_inv hq
    exact hD.2 k (ad k, zE ca ad u μ k) (zws_get hk)
/-- one place written -/
theorem zP_set {D : va_G} {cl : List vw_C} {ca : Nat → ClassId} {ad : Nat → Nat} {n : Nat} {u u' : List (Nat × Nat)} {μ μ' : zM} {q0 : Nat} {e : va_E} {H : Heap} (h0 : q0 < n) (hP : va_P D cl ((zws ca ad n u μ).set q0 (ad q0, e)) H) (he : zEq e (zE ca ad u' μ' q0)) (ho : ∀ k, k < n → k ≠ q0 → zEq (zE ca ad u μ k) (zE ca ad u' μ' k)) : va_P D cl (zws ca ad n u' μ') H := by
  refine zP_ext (ca := ca) (ad := ad) (u := u) (μ := μ) hP (fun k hk => ?_)
  by_cases hq : k = q0
  · subst hq
    exact ⟨e, by rw [List.getElem?_set_self (by rw [zws_len]; exact h0)], he⟩
  · exact ⟨_, by rw [List.getElem?_set_ne (Ne.symm hq)]; exact zws_get hk, ho k hk hq⟩

/-! the walk's context -/
def zgood : List Cond := lw_tbl.filter goodWord
def zRi (y : Nat) : ClassFile.Instr := match zKd y with
  | 0 => .return_
  | 2 => .lreturn
  | _ => .ireturn
def zRs (y : Nat) (r : Int) : List Value := match zKd y with
  | 0 => []
  | 2 => [.long (Int64.ofInt r)]
  | _ => [.int (Int32.ofInt r)]
def zRok (y : Nat) (r : Int) : Prop := match zKd y with
  | 0 => r = 0
  | 2 => zLn r
  | 3 => r = 0 ∨ r = 1
  | _ => zIn r
def zRt (y : Nat) : Option FieldType := match zKd y with
  | 0 => none
  | 2 => some .long
  | 3 => some .boolean
  | _ => some .int
def zLen (k : Nat) : Nat := match zSh k with
  | (0, _, n, _) => n
  | (1, n, _, _) => n
  | (2, n, _, _) => n
  | (3, _, n, _) => n
  | (4, _, n, _) => n
  | (5, _, _, w) => w
  | (6, _, _, w) => w
  | _ => 0
/-- the slots of the first n places -/
def zSl : Nat → Nat
  | 0 => 0
  | n + 1 => zSl n + zLen n
def zCtx (y : Nat) (p : Program) (s : State) (mi : MethodId) (args : Array Value) (meth : Method) (c : Code) : Prop :=
  p.tables.exec = Jvm.exec ∧ c.code = zCb y ∧ meth.sig.returnType = zRt y ∧ c.maxLocals = zMl y ∧ s.vm.findClass (zOw y) = some mi.cls ∧ (∀ w ∈ zgood, w.before args s = true) ∧ meth.locks = false ∧ (zIs y = true → meth.name = "<init>")
def zUn (j : Nat) : Int32 := match j with
  | 0 => -1
  | 1 => 0
  | 2 => 0
  | 3 => 0
  | 4 => 3
  | _ => 2
def zOt (j : Nat) : Int32 := match j with
  | 0 => 1
  | 1 => 5000
  | 2 => 10
  | 3 => 20
  | 4 => 50
  | _ => 0
def va_AOA (t : FieldType) (U : State) : Prop := (Cond.arrayOver (.array t)).before #[] U = true
theorem va_AOA.use {t : FieldType} {A : Array Value} {U : State} (h : va_AOA t U) : (Cond.arrayOver (.array t)).before A U = true := h
theorem va_AOA.moved {t : FieldType} {u U : State} (hvm : u.vm.Alike U.vm) (h : va_AOA t u) : va_AOA t U := arrayOver_alikeB hvm h
def zText : String := "bond limit rate reserve div dormant work street saved owed joined late kind sum week cash if or and not "
def zByt : List Int32 := [98, 111, 110, 100, 32, 108, 105, 109, 105, 116, 32, 114, 97, 116, 101, 32, 114, 101, 115, 101, 114, 118, 101, 32, 100, 105, 118, 32, 100, 111, 114, 109, 97, 110, 116, 32, 119, 111, 114, 107, 32, 115, 116, 114, 101, 101, 116, 32, 115, 97, 118, 101, 100, 32, 111, 119, 101, 100, 32, 106, 111, 105, 110, 101, 100, 32, 108, 97, 116, 101, 32, 107, 105, 110, 100, 32, 115, 117, 109, 32, 119, 101, 101, 107, 32, 99, 97, 115, 104, 32, 105, 102, 32, 111, 114, 32, 97, 110, 100, 32, 110, 111, 116, 32]
/-- what nobody writes: the script, two static arrays, one String -/
def zRS (s : State) (A : Nat → Prop) (a : Nat) : Prop := va_AOA .int s ∧ va_AOA .long s ∧ vk_R "CommonBond$Reader" 97 zText a s ∧ (∃ av : Nat, vk_S 1 [104] [zByt] (fun _ => a) (fun _ => av) A s s.heap) ∧
  va_Z "java/lang/String" "COMPACT_STRINGS" "Z" (.int 1) A s s.heap ∧ va_Zq "jdk/internal/util/Preconditions" "SIOOBE_FORMATTER" "Ljava/util/function/BiFunction;" A s s.heap ∧
  (∀ q ∈ zNM, va_Nw (.methodLinkNest q.1 q.2.1 q.2.2 "CommonBond") s) ∧ ∀ q ∈ zNF, va_Nw (.fieldLinkNest q.1 q.2.1 "CommonBond" q.2.2 "[I" "CommonBond") s
def zRO (s : State) (A : Nat → Prop) (ro : Nat → Nat) (sc : Int → Int) : Prop :=
  (∃ L : Nat, L ≤ 2048 ∧ sc (-1) = L ∧ va_X (ro 2000) L (fun i => Int32.ofInt (sc i)) s s.heap ∧ ro 2000 < s.heap.size ∧ ¬ A (ro 2000)) ∧ (∀ i, zIn (sc i)) ∧
  (va_Z "CommonBond" "UNDER" "[I" (.ref (ro 2001)) A s s.heap ∧ va_T .int (ro 2001) 6 (fun i => .int (zUn i)) A s s.heap) ∧
  (va_Z "CommonBond" "OTHERWISE" "[I" (.ref (ro 2002)) A s s.heap ∧ va_T .int (ro 2002) 6 (fun i => .int (zOt i)) A s s.heap) ∧ zRS s A (ro 2003)
def zEnv (d y n' : Nat) (u' : List (Nat × Nat)) (Q : Int → zM → zM → Prop) (p : Program) (l : Launch) (e : Env) (R : Room) (s : State) (mi : MethodId) (args : Array Value) (below : List Frame) (meth : Method) (c : Code) (QQ : State → Prop) (D : va_G) (A : Nat → Prop) (sc : Int → Int) (ro ad0 : Nat → Nat) (n0 : Nat) : Prop :=
  zCtx y p s mi args meth c ∧ (d ≤ R.frames ∧ 64 * d ≤ R.locals ∧ n' - n0 ≤ R.cells ∧ zSl n' - zSl n0 ≤ R.slots) ∧ (∀ q, s.heap.size ≤ q → A q) ∧ zRO s A ro sc ∧
  (∀ (H : Heap) (locs : List Loc) (ad : Nat → Nat) (x m : zM) (lsl : Array Slot) (pc : Nat) (r : Int), decode (zCb y) pc = .ok (zRi y, 1) → zW s A D n' u' ad x m H → va_S A s.heap H locs → m 2000 = sc → (∀ k, k < n0 → ad k = ad0 k) → (∀ k, 2000 ≤ k → ad k = ro k) → zRok y r → Q r x m →
    W p l e R s mi args below meth c H locs (n' - n0) (zSl n' - zSl n0) QQ (F0 mi pc lsl (zRs y r)))
def zSt (y n' : Nat) (s : State) (A : Nat → Prop) (D : va_G) (sc : Int → Int) (ro ad0 : Nat → Nat) (n0 n : Nat) (u : List (Nat × Nat)) (ad : Nat → Nat) (x m : zM) (H : Heap) (locs : List Loc) (ls : List (Nat × zV)) (st : List zV) (lsl : Array Slot) : Prop :=
  zW s A D n u ad x m H ∧ va_S A s.heap H locs ∧ m 2000 = sc ∧ (∀ k, k < n0 → ad k = ad0 k) ∧ (∀ k, 2000 ≤ k → ad k = ro k) ∧ (n0 ≤ n ∧ n ≤ n' ∧ n' ≤ 403) ∧
  lv_has lsl (zMl y) (ls.map fun q => (q.1, zc ad q.2)) ∧ (∀ q ∈ ls, zOk n q.2) ∧ ∀ v ∈ st, zOk n v
/-- from here the method ends, and its answer and the memories behind it have Q -/
def WP (d y pc : Nat) (ls : List (Nat × zV)) (st : List zV) (n : Nat) (u : List (Nat × Nat)) (x m : zM) (n' : Nat) (u' : List (Nat × Nat)) (Q : Int → zM → zM → Prop) : Prop :=
  ∀ (p : Program) (l : Launch) (e : Env) (R : Room) (s : State) (mi : MethodId) (args : Array Value) (below : List Frame) (meth : Method) (c : Code) (QQ : State → Prop) (D : va_G) (A : Nat → Prop) (sc : Int → Int) (ro ad0 : Nat → Nat) (n0 : Nat),
    zEnv d y n' u' Q p l e R s mi args below meth c QQ D A sc ro ad0 n0 → ∀ (H : Heap) (locs : List Loc) (ad : Nat → Nat) (lsl : Array Slot),
      zSt y n' s A D sc ro ad0 n0 n u ad x m H locs ls st lsl → W p l e R s mi args below meth c H locs (n - n0) (zSl n - zSl n0) QQ (F0 mi pc lsl (st.map (zc ad)))
def zA (ad : Nat → Nat) (n sz : Nat) : Nat → Prop := fun q => (∃ k, k < n ∧ q = ad k) ∨ sz ≤ q
abbrev zS3 : Type := (Nat → Nat) × zM × zM
def zB (D : va_G) (n n' : Nat) (u' : List (Nat × Nat)) (ad : Nat → Nat) (sc : Int → Int) (sz : Nat) : zS3 → State → Prop := fun w t =>
  zW t (zA ad n sz) D n' u' w.1 w.2.1 w.2.2 t.heap ∧ w.2.2 2000 = sc ∧ (∀ k, k < n → w.1 k = ad k) ∧ ∀ k, 2000 ≤ k → w.1 k = ad k
def zQc (y n n' : Nat) (u' : List (Nat × Nat)) (Q : Int → zM → zM → Prop) (D : va_G) (ad : Nat → Nat) (sc : Int → Int) (sz : Nat) : Array Value → State → Outcome → State → Prop :=
  match zKd y with
  | 0 => va_Qv (fun w : zS3 => Q 0 w.2.1 w.2.2) (zB D n n' u' ad sc sz) (zA ad n sz)
  | 2 => va_Ql (fun r (w : zS3) => ∃ z, r = Int64.ofInt z ∧ zRok y z ∧ Q z w.2.1 w.2.2) (zB D n n' u' ad sc sz) (zA ad n sz)
  | _ => va_Qi (fun r (w : zS3) => ∃ z, r = Int32.ofInt z ∧ zRok y z ∧ Q z w.2.1 w.2.2) (zB D n n' u' ad sc sz) (zA ad n sz)
def zPc (as : List zV) (n : Nat) (u : List (Nat × Nat)) (x m : zM) (D : va_G) (ad : Nat → Nat) (sc : Int → Int) (sz : Nat) : Array Value → State → Prop :=
  va_Pc (as.map (zc ad)) (fun U => U.heap.size = sz ∧ zW U (fun _ => True) D n u ad x m U.heap ∧ zRO U (zA ad n sz) ad sc)
def zWs (y : Nat) : List Cond := .code (zNm y) (zCb y) (zMl y) (zRt y) :: zgood
/-- a call: the method ends, and .. -/
def WPc (d y : Nat) (as : List zV) (n : Nat) (u : List (Nat × Nat)) (x m : zM) (n' : Nat) (u' : List (Nat × Nat)) (Q : Int → zM → zM → Prop) : Prop :=
  (∀ v ∈ as, zOk n v) → n ≤ n' → n' ≤ 403 → ∀ (l : Launch) (D : va_G) (ad : Nat → Nat) (sz : Nat), 
    Met l (zNm y) (zWs y) { frames := d, cells := n' - n, slots := zSl n' - zSl n, locals := 64 * d } (zPc as n u x m D ad (m 2000) sz) (zQc y n n' u' Q D ad (m 2000) sz) (n' - n) (zSl n' - zSl n) (zA ad n sz)
end
section
/-! numbers -/
theorem z32_eq (a : Int) : Int32.ofInt (w32 a) = Int32.ofInt a := by
  apply Int32.toInt_inj.mp
  rw [Int32.toInt_ofInt, Int32.toInt_ofInt]
  unfold w32
  simp only [Int.bmod, Int32.size]
  omega
theorem z64_eq (a : Int) : Int64.ofInt (w64 a) = Int64.ofInt a := by
  apply Int64.toInt_inj.mp
  rw [Int64.toInt_ofInt, Int64.toInt_ofInt]
  unfold w64
  simp only [Int.bmod, Int64.size]
  omega
theorem w32_in (a : Int) : zIn (w32 a) := by unfold zIn w32; omega
theorem w64_in (a : Int) : zLn (w64 a) := by unfold zLn w64; omega
theorem w32_id {a : Int} (h : zIn a) : w32 a = a := by unfold zIn at h; unfold w32; omega
theorem w64_id {a : Int} (h : zLn a) : w64 a = a := by unfold zLn at h; unfold w64; omega
theorem z32_to {a : Int} (h : zIn a) : (Int32.ofInt a).toInt = a := by
  rw [Int32.toInt_ofInt]
  unfold zIn at h
  simp only [Int.bmod, Int32.size]
  omega
theorem z64_to {a : Int} (h : zLn a) : (Int64.ofInt a).toInt = a := by
  rw [Int64.toInt_ofInt]
  unfold zLn at h
  simp only [Int.bmod, Int64.size]
  omega
theorem z32_rng (a : Int32) : zIn a.toInt := ⟨Int32.le_toInt a, Int32.toInt_lt a⟩
theorem z64_rng (a : Int64) : zLn a.toInt := ⟨Int64.le_toInt a, Int64.toInt_lt a⟩
theorem z32_of (a : Int32) : Int32.ofInt a.toInt = a := Int32.ofInt_toInt a
theorem z64_of (a : Int64) : Int64.ofInt a.toInt = a := Int64.ofInt_toInt a
theorem z32_lt {a b : Int} (ha : zIn a) (hb : zIn b) : Int32.ofInt a < Int32.ofInt b ↔ a < b := by
  rw [Int32.lt_iff_toInt_lt, z32_to ha, z32_to hb]
theorem z32_le {a b : Int} (ha : zIn a) (hb : zIn b) : Int32.ofInt a ≤ Int32.ofInt b ↔ a ≤ b := by
  rw [Int32.le_iff_toInt_le, z32_to ha, z32_to hb]
theorem z32_inj {a b : Int} (ha : zIn a) (hb : zIn b) : Int32.ofInt a = Int32.ofInt b ↔ a = b := by
  constructor
  · intro h
    have := congrArg Int32.toInt h
    rwa [z32_to ha, z32_to hb] at this
  · intro h; rw [h]
theorem z64_lt {a b : Int} (ha : zLn a) (hb : zLn b) : Int64.ofInt a < Int64.ofInt b ↔ a < b := by
  rw [Int64.lt_iff_toInt_lt, z64_to ha, z64_to hb]
theorem z64_inj {a b : Int} (ha : zLn a) (hb : zLn b) : Int64.ofInt a = Int64.ofInt b ↔ a = b := by
  constructor
  · intro h
    have := congrArg Int64.toInt h
    rwa [z64_to ha, z64_to hb] at this
  · intro h; rw [h]
theorem z32_clamp {a : Int} (h : zIn a) (h0 : 0 ≤ a) : (Int32.ofInt a).toNatClampNeg = a.toNat := by
  rw [← Int32.toNat_toInt, z32_to h]
theorem zvp_in {a : Int} {n : Nat} (h : zIn a) (h0 : 0 ≤ a ∧ a < n) : vp_in (Int32.ofInt a) n := by
  rw [vp_in_iff, z32_to h]
  exact h0

/-! bits, by the machine's own words -/
def zand (a b : Int) : Int := (Int32.ofInt a &&& Int32.ofInt b).toInt
def zor (a b : Int) : Int := (Int32.ofInt a ||| Int32.ofInt b).toInt
def zxor (a b : Int) : Int := (Int32.ofInt a ^^^ Int32.ofInt b).toInt
def zshl (a b : Int) : Int := (Int32.ofInt a <<< (Int32.ofInt b &&& 31)).toInt
def zshr (a b : Int) : Int := (Int32.ofInt a >>> (Int32.ofInt b &&& 31)).toInt
def zlor (a b : Int) : Int := (Int64.ofInt a ||| Int64.ofInt b).toInt
def zlshl (a b : Int) : Int := (Int64.ofInt a <<< ((Int32.ofInt b).toInt64 &&& 63)).toInt
section ZS
variable {d y pc n n' : Nat} {ls : List (Nat × zV)} {st : List zV} {u u' : List (Nat × Nat)} {x m : zM} {Q : Int → zM → zM → Prop}
abbrev zRow (y pc pc' : Nat) (lsl lsl' : Array Slot) (a b : List Value) : Prop := ∀ {p : Program} {l : Launch} {e : Env} {R : Room} {s : State} {mi : MethodId} {args : Array Value} {below : List Frame} {meth : Method} {c : Code} {H : Heap} {locs : List Loc} {cells slots : Nat} {QQ : State → Prop}, p.tables.exec = Jvm.exec → c.code = zCb y →
  W p l e R s mi args below meth c H locs cells slots QQ (F0 mi pc' lsl' b) → W p l e R s mi args below meth c H locs cells slots QQ (F0 mi pc lsl a)
abbrev zMap (ad : Nat → Nat) (ls : List (Nat × zV)) : List (Nat × Value) := ls.map fun q => (q.1, zc ad q.2)
/-- an instruction that moves the stack alone -/
theorem wp_st {pc' : Nat} {st' : List zV} (hr : ∀ (ad : Nat → Nat) (lsl : Array Slot), lv_has lsl (zMl y) (zMap ad ls) → (∀ q ∈ ls, zOk n q.2) → (∀ v ∈ st, zOk n v) → zRow y pc pc' lsl lsl (st.map (zc ad)) (st'.map (zc ad)))
    (ok : (∀ q ∈ ls, zOk n q.2) → (∀ v ∈ st, zOk n v) → ∀ v ∈ st', zOk n v) (k : WP d y pc' ls st' n u x m n' u' Q) : WP d y pc ls st n u x m n' u' Q := by
  intro p l e R s mi args below meth c QQ D A sc ro ad0 n0 E H locs ad lsl S
  obtain ⟨⟨hx, hb, -⟩, -⟩ := id E
  obtain ⟨s1, s2, s3, s4, s5, s6, s7, s8, s9⟩ := id S
  exact hr ad lsl s7 s8 s9 hx hb (k p l e R s mi args below meth c QQ D A sc ro ad0 n0 E H locs ad lsl ⟨s1, s2, s3, s4, s5, s6, s7, s8, ok s8 s9⟩)
/-- .. that writes a local -/
theorem wp_loc {pc' : Nat} {st' : List zV} {ls' : List (Nat × zV)} (hr : ∀ (ad : Nat → Nat) (lsl : Array Slot), lv_has lsl (zMl y) (zMap ad ls) → ∀ {p : Program} {l : Launch} {e : Env} {R : Room} {s : State} {mi : MethodId} {args : Array Value} {below : List Frame} {meth : Method} {c : Code} {H : Heap} {locs : List Loc} {cells slots : Nat} {QQ : State → Prop}, p.tables.exec = Jvm.exec → c.code = zCb y →
      (∀ lsl' : Array Slot, lv_has lsl' (zMl y) (zMap ad ls') → W p l e R s mi args below meth c H locs cells slots QQ (F0 mi pc' lsl' (st'.map (zc ad)))) → W p l e R s mi args below meth c H locs cells slots QQ (F0 mi pc lsl (st.map (zc ad))))
    (ok : (∀ q ∈ ls, zOk n q.2) → (∀ v ∈ st, zOk n v) → (∀ q ∈ ls', zOk n q.2) ∧ ∀ v ∈ st', zOk n v) (k : WP d y pc' ls' st' n u x m n' u' Q) : WP d y pc ls st n u x m n' u' Q := by
  intro p l e R s mi args below meth c QQ D A sc ro ad0 n0 E H locs ad lsl S
  obtain ⟨⟨hx, hb, -⟩, -⟩ := id E
  obtain ⟨s1, s2, s3, s4, s5, s6, s7, s8, s9⟩ := id S
  exact hr ad lsl s7 hx hb (fun lsl' h' => k p l e R s mi args below meth c QQ D A sc ro ad0 n0 E H locs ad lsl' ⟨s1, s2, s3, s4, s5, s6, h', (ok s8 s9).1, (ok s8 s9).2⟩)
/-- a look into the context, the walk unmoved -/
theorem wp_rng (k : (∀ q ∈ ls, zOk n q.2) → (∀ v ∈ st, zOk n v) → (∀ k i, zRg k i (zrd x m k i)) → WP d y pc ls st n u x m n' u' Q) : WP d y pc ls st n u x m n' u' Q := by
  intro p l e R s mi args below meth c QQ D A sc ro ad0 n0 E H locs ad lsl S
  obtain ⟨s1, s2, s3, s4, s5, s6, s7, s8, s9⟩ := id S
  obtain ⟨ca, tys, -, -, -, -, h, -⟩ := id s1
  exact k s8 s9 h p l e R s mi args below meth c QQ D A sc ro ad0 n0 E H locs ad lsl S
theorem wp_script (k : (∀ i, zIn (m 2000 i)) → (∃ L : Nat, L ≤ 2048 ∧ m 2000 (-1) = L) → WP d y pc ls st n u x m n' u' Q) : WP d y pc ls st n u x m n' u' Q := by
  intro p l e R s mi args below meth c QQ D A sc ro ad0 n0 E H locs ad lsl S
  obtain ⟨-, -, -, ⟨⟨L, h1, h2, -⟩, h3, -⟩, -⟩ := id E
  obtain ⟨s1, s2, s3, -⟩ := id S
  exact k (by rw [s3]; exact h3) ⟨L, h1, by rw [s3]; exact h2⟩ p l e R s mi args below meth c QQ D A sc ro ad0 n0 E H locs ad lsl S
theorem zOk_cons {v : zV} {st : List zV} (h : zOk n v) (hs : ∀ w ∈ st, zOk n w) : ∀ w ∈ v :: st, zOk n w := by
  intro w hw
  rcases List.mem_cons.mp hw with rfl | hw
  · exact h
  · exact hs w hw
theorem zOk_tl {v : zV} {st : List zV} (hs : ∀ w ∈ v :: st, zOk n w) : ∀ w ∈ st, zOk n w := fun w hw => hs w (List.mem_cons_of_mem _ hw)
theorem zOk_hd {v : zV} {st : List zV} (hs : ∀ w ∈ v :: st, zOk n w) : zOk n v := hs v List.mem_cons_self
-- constants
theorem zl2 (i : Fin 2) : Int64.ofNat i.val = Int64.ofInt (i.val : Int) := by revert i; decide
theorem wp_iconst {i : Int} (hd : decode (zCb y) pc = .ok (.iconst i, 1)) (hi : zIn i) (k : WP d y (pc + 1) ls (zi i :: st) n u x m n' u' Q) : WP d y pc ls st n u x m n' u' Q :=
  wp_st (fun ad lsl _ _ _ => fun hx hb hk => lv_iconst hx hb hd rfl hk) (fun _ h => zOk_cons (v := zi i) hi h) k
theorem wp_bipush {i : Int} (hd : decode (zCb y) pc = .ok (.bipush i, 2)) (hi : -128 ≤ i ∧ i < 128) (k : WP d y (pc + 2) ls (zi i :: st) n u x m n' u' Q) : WP d y pc ls st n u x m n' u' Q :=
  wp_st (fun ad lsl _ _ _ => fun hx hb hk => lv_bipush hx hb hd (by apply Int32.toInt_inj.mp; rw [Int8.toInt_toInt32, Int8.toInt_ofInt_of_le (by omega) (by omega), z32_to ⟨by omega, by omega⟩]) hk) (fun _ h => zOk_cons (v := zi i) (show zIn i from ⟨by omega, by omega⟩) h) k
theorem wp_sipush {i : Int} (hd : decode (zCb y) pc = .ok (.sipush i, 3)) (hi : -32768 ≤ i ∧ i < 32768) (k : WP d y (pc + 3) ls (zi i :: st) n u x m n' u' Q) : WP d y pc ls st n u x m n' u' Q :=
  wp_st (fun ad lsl _ _ _ => fun hx hb hk => lv_sipush hx hb hd (by apply Int32.toInt_inj.mp; rw [Int16.toInt_toInt32, Int16.toInt_ofInt_of_le (by omega) (by omega), z32_to ⟨by omega, by omega⟩]) hk) (fun _ h => zOk_cons (v := zi i) (show zIn i from ⟨by omega, by omega⟩) h) k
theorem wp_lconst {i : Fin 2} (hd : decode (zCb y) pc = .ok (.lconst i, 1)) (k : WP d y (pc + 1) ls (zl (i.val : Int) :: st) n u x m n' u' Q) : WP d y pc ls st n u x m n' u' Q :=
  wp_st (fun ad lsl _ _ _ => fun hx hb hk => lv_lconst hx hb hd (zl2 i) hk) (fun _ h => zOk_cons (v := zl (i.val : Int)) (show zLn _ from ⟨by omega, by omega⟩) h) k
-- locals
theorem zMap_at {ad : Nat → Nat} {lsl : Array Slot} {nL i j : Nat} {v : zV} (h : lv_has lsl nL (zMap ad ls)) (hj : ls[j]? = some (i, v)) : lsl[i]? = some (.val (zc ad v)) :=
  lv_at h j (by rw [List.getElem?_map, hj]; rfl)
theorem wp_iload {i j : Nat} {a : Int} (hd : decode (zCb y) pc = .ok (.iload i, 2)) (hj : ls[j]? = some (i, zi a)) (k : WP d y (pc + 2) ls (zi a :: st) n u x m n' u' Q) : WP d y pc ls st n u x m n' u' Q :=
  wp_st (fun ad lsl hl _ _ => fun hx hb hk => lv_iload hx hb hd (zMap_at hl hj) hk) (fun hl h => zOk_cons (hl _ (List.mem_of_getElem? hj)) h) k
theorem wp_iload_n {i : Fin 4} {j : Nat} {a : Int} (hd : decode (zCb y) pc = .ok (.iload_n i, 1)) (hj : ls[j]? = some (i.val, zi a)) (k : WP d y (pc + 1) ls (zi a :: st) n u x m n' u' Q) : WP d y pc ls st n u x m n' u' Q :=
  wp_st (fun ad lsl hl _ _ => fun hx hb hk => lv_iload_n hx hb hd rfl (zMap_at hl hj) hk) (fun hl h => zOk_cons (hl _ (List.mem_of_getElem? hj)) h) k
theorem wp_lload {i j : Nat} {a : Int} (hd : decode (zCb y) pc = .ok (.lload i, 2)) (hj : ls[j]? = some (i, zl a)) (k : WP d y (pc + 2) ls (zl a :: st) n u x m n' u' Q) : WP d y pc ls st n u x m n' u' Q :=
  wp_st (fun ad lsl hl _ _ => fun hx hb hk => lv_lload hx hb hd (zMap_at hl hj) hk) (fun hl h => zOk_cons (hl _ (List.mem_of_getElem? hj)) h) k
theorem wp_lload_n {i : Fin 4} {j : Nat} {a : Int} (hd : decode (zCb y) pc = .ok (.lload_n i, 1)) (hj : ls[j]? = some (i.val, zl a)) (k : WP d y (pc + 1) ls (zl a :: st) n u x m n' u' Q) : WP d y pc ls st n u x m n' u' Q :=
  wp_st (fun ad lsl hl _ _ => fun hx hb hk => lv_lload_n hx hb hd rfl (zMap_at hl hj) hk) (fun hl h => zOk_cons (hl _ (List.mem_of_getElem? hj)) h) k
theorem wp_aload {i j : Nat} {a : Nat ⊕ (Nat × Int)} (hd : decode (zCb y) pc = .ok (.aload i, 2)) (hj : ls[j]? = some (i, .inr (.inr a))) (k : WP d y (pc + 2) ls (.inr (.inr a) :: st) n u x m n' u' Q) : WP d y pc ls st n u x m n' u' Q :=
  wp_st (fun ad lsl hl _ _ => fun hx hb hk => by
    have h := zMap_at hl hj
    rcases a with a | ⟨o, a⟩
    · exact lv_aload hx hb hd h hk
    · exact lv_aload hx hb hd h hk) (fun hl h => zOk_cons (hl _ (List.mem_of_getElem? hj)) h) k
theorem wp_aload_n {i : Fin 4} {j : Nat} {a : Nat ⊕ (Nat × Int)} (hd : decode (zCb y) pc = .ok (.aload_n i, 1)) (hj : ls[j]? = some (i.val, .inr (.inr a))) (k : WP d y (pc + 1) ls (.inr (.inr a) :: st) n u x m n' u' Q) : WP d y pc ls st n u x m n' u' Q :=
  wp_st (fun ad lsl hl _ _ => fun hx hb hk => by
    have h := zMap_at hl hj
    rcases a with a | ⟨o, a⟩
    · exact lv_aload_n hx hb hd rfl h hk
    · exact lv_aload_n hx hb hd rfl h hk) (fun hl h => zOk_cons (hl _ (List.mem_of_getElem? hj)) h) k
/-- a store of a value of one slot -/
def zst1 (i : Nat) (v : zV) (ls : List (Nat × zV)) : List (Nat × zV) := (i, v) :: ls.filter (fun q => !(q.1 == i) && !(q.1 + 1 == i && zcat q.2 == 2))
def zst2 (i : Nat) (v : zV) (ls : List (Nat × zV)) : List (Nat × zV) := (i, v) :: ls.filter (fun q => !(q.1 == i) && (!(q.1 == i + 1) && !(q.1 + 1 == i && zcat q.2 == 2)))
theorem zst1_map (ad : Nat → Nat) (i : Nat) (v : zV) : (i, zc ad v) :: (zMap ad ls).filter (fun q => !(q.1 == i) && !(q.1 + 1 == i && q.2.category == 2)) = zMap ad (zst1 i v ls) := by
  simp only [zMap, zst1, List.map_cons, List.filter_map]
  congr 2
  apply List.filter_congr
  intro q _
  simp [zcat_eq]
theorem zst2_map (ad : Nat → Nat) (i : Nat) (v : zV) : (i, zc ad v) :: (zMap ad ls).filter (fun q => !(q.1 == i) && (!(q.1 == i + 1) && !(q.1 + 1 == i && q.2.category == 2))) = zMap ad (zst2 i v ls) := by
  simp only [zMap, zst2, List.map_cons, List.filter_map]
  congr 2
  apply List.filter_congr
  intro q _
  simp [zcat_eq]
theorem zst1_ok {i : Nat} {v : zV} (hl : ∀ q ∈ ls, zOk n q.2) (hv : zOk n v) : ∀ q ∈ zst1 i v ls, zOk n q.2 := by
  intro q hq
  rcases List.mem_cons.mp hq with rfl | hq
  · exact hv
  · exact hl q (List.mem_filter.mp hq).1
theorem zst2_ok {i : Nat} {v : zV} (hl : ∀ q ∈ ls, zOk n q.2) (hv : zOk n v) : ∀ q ∈ zst2 i v ls, zOk n q.2 := by
  intro q hq
  rcases List.mem_cons.mp hq with rfl | hq
  · exact hv
  · exact hl q (List.mem_filter.mp hq).1
theorem wp_istore {i : Nat} {a : Int} (hd : decode (zCb y) pc = .ok (.istore i, 2)) (hi : i < zMl y) (k : WP d y (pc + 2) (zst1 i (zi a) ls) st n u x m n' u' Q) : WP d y pc ls (zi a :: st) n u x m n' u' Q :=
  wp_loc (fun ad lsl hl => fun hx hb hk => lv_istore hx hb hd hl hi (zst1_map ad i (zi a)) hk) (fun hl h => ⟨zst1_ok hl (zOk_hd h), zOk_tl h⟩) k
theorem wp_istore_n {i : Fin 4} {a : Int} (hd : decode (zCb y) pc = .ok (.istore_n i, 1)) (hi : i.val < zMl y) (k : WP d y (pc + 1) (zst1 i.val (zi a) ls) st n u x m n' u' Q) : WP d y pc ls (zi a :: st) n u x m n' u' Q :=
  wp_loc (fun ad lsl hl => fun hx hb hk => lv_istore_n hx hb hd rfl hl hi (zst1_map ad i.val (zi a)) hk) (fun hl h => ⟨zst1_ok hl (zOk_hd h), zOk_tl h⟩) k
theorem wp_lstore {i : Nat} {a : Int} (hd : decode (zCb y) pc = .ok (.lstore i, 2)) (hi : i + 1 < zMl y) (k : WP d y (pc + 2) (zst2 i (zl a) ls) st n u x m n' u' Q) : WP d y pc ls (zl a :: st) n u x m n' u' Q :=
  wp_loc (fun ad lsl hl => fun hx hb hk => lv_lstore hx hb hd hl hi (zst2_map ad i (zl a)) hk) (fun hl h => ⟨zst2_ok hl (zOk_hd h), zOk_tl h⟩) k
theorem wp_lstore_n {i : Fin 4} {a : Int} (hd : decode (zCb y) pc = .ok (.lstore_n i, 1)) (hi : i.val + 1 < zMl y) (k : WP d y (pc + 1) (zst2 i.val (zl a) ls) st n u x m n' u' Q) : WP d y pc ls (zl a :: st) n u x m n' u' Q :=
  wp_loc (fun ad lsl hl => fun hx hb hk => lv_lstore_n hx hb hd rfl hl hi (zst2_map ad i.val (zl a)) hk) (fun hl h => ⟨zst2_ok hl (zOk_hd h), zOk_tl h⟩) k
theorem wp_astore {i : Nat} {a : Nat ⊕ (Nat × Int)} (hd : decode (zCb y) pc = .ok (.astore i, 2)) (hi : i < zMl y) (k : WP d y (pc + 2) (zst1 i (.inr (.inr a)) ls) st n u x m n' u' Q) : WP d y pc ls (.inr (.inr a) :: st) n u x m n' u' Q :=
  wp_loc (fun ad lsl hl => fun hx hb hk => by
    rcases a with a | ⟨o, a⟩
    · exact lv_astore hx hb hd hl hi (zst1_map ad i (zr a)) hk
    · exact lv_astore hx hb hd hl hi (zst1_map ad i (zw o a)) hk) (fun hl h => ⟨zst1_ok hl (zOk_hd h), zOk_tl h⟩) k
theorem wp_astore_n {i : Fin 4} {a : Nat ⊕ (Nat × Int)} (hd : decode (zCb y) pc = .ok (.astore_n i, 1)) (hi : i.val < zMl y) (k : WP d y (pc + 1) (zst1 i.val (.inr (.inr a)) ls) st n u x m n' u' Q) : WP d y pc ls (.inr (.inr a) :: st) n u x m n' u' Q :=
  wp_loc (fun ad lsl hl => fun hx hb hk => by
    rcases a with a | ⟨o, a⟩
    · exact lv_astore_n hx hb hd rfl hl hi (zst1_map ad i.val (zr a)) hk
    · exact lv_astore_n hx hb hd rfl hl hi (zst1_map ad i.val (zw o a)) hk) (fun hl h => ⟨zst1_ok hl (zOk_hd h), zOk_tl h⟩) k
theorem wp_iinc {i j : Nat} {a v b : Int} (hd : decode (zCb y) pc = .ok (.iinc i b, 3)) (hi : i < zMl y) (hj : ls[j]? = some (i, zi a)) (hv : Int32.ofInt a + Int32.ofInt b = Int32.ofInt v) (hvr : zIn a → zIn v) (k : WP d y (pc + 3) (zst1 i (zi v) ls) st n u x m n' u' Q) : WP d y pc ls st n u x m n' u' Q :=
  wp_loc (fun ad lsl hl => fun hx hb hk => lv_iinc (k := j) hx hb hd hl (by rw [List.getElem?_map, hj]; rfl) hv hi (zst1_map ad i (zi v)) hk) (fun hl h => ⟨zst1_ok hl (hvr (hl _ (List.mem_of_getElem? hj))), h⟩) k
end ZS
end
section
/-! arithmetic, branches, the stack's own moves -/
theorem z32_add (a b : Int) : Int32.ofInt a + Int32.ofInt b = Int32.ofInt (a + b) := (Int32.ofInt_add a b).symm
theorem z32_sub (a b : Int) : Int32.ofInt a - Int32.ofInt b = Int32.ofInt (a - b) := (Int32.ofInt_sub a b).symm
theorem z32_mul (a b : Int) : Int32.ofInt a * Int32.ofInt b = Int32.ofInt (a * b) := (Int32.ofInt_mul a b).symm
theorem z32_neg (a : Int) : -Int32.ofInt a = Int32.ofInt (-a) := (Int32.ofInt_neg a).symm
theorem z64_add (a b : Int) : Int64.ofInt a + Int64.ofInt b = Int64.ofInt (a + b) := (Int64.ofInt_add a b).symm
theorem z64_sub (a b : Int) : Int64.ofInt a - Int64.ofInt b = Int64.ofInt (a - b) := (Int64.ofInt_sub a b).symm
theorem z64_mul (a b : Int) : Int64.ofInt a * Int64.ofInt b = Int64.ofInt (a * b) := (Int64.ofInt_mul a b).symm
theorem z32_bm (a : Int) : Int32.ofInt (a.bmod 4294967296) = Int32.ofInt a := by
  apply Int32.toInt_inj.mp
  rw [Int32.toInt_ofInt, Int32.toInt_ofInt]
  exact Int.bmod_bmod
theorem z64_bm (a : Int) : Int64.ofInt (a.bmod 18446744073709551616) = Int64.ofInt a := by
  apply Int64.toInt_inj.mp
  rw [Int64.toInt_ofInt, Int64.toInt_ofInt]
  exact Int.bmod_bmod
theorem z32_div {a b : Int} (ha : zIn a) (hb : zIn b) : Int32.ofInt a / Int32.ofInt b = Int32.ofInt (a.tdiv b) := by
  rw [← z32_of (Int32.ofInt a / Int32.ofInt b), Int32.toInt_div, z32_to ha, z32_to hb]
  exact z32_bm _
theorem z64_div {a b : Int} (ha : zLn a) (hb : zLn b) : Int64.ofInt a / Int64.ofInt b = Int64.ofInt (a.tdiv b) := by
  rw [← z64_of (Int64.ofInt a / Int64.ofInt b), Int64.toInt_div, z64_to ha, z64_to hb]
  exact z64_bm _
theorem z32_rem {a b : Int} (ha : zIn a) (hb : zIn b) : Int32.ofInt a - Int32.ofInt a / Int32.ofInt b * Int32.ofInt b = Int32.ofInt (a.tmod b) := by
  rw [z32_div ha hb, z32_mul, z32_sub, Int.tmod_def, Int.mul_comm]
theorem z64_rem {a b : Int} (ha : zLn a) (hb : zLn b) : Int64.ofInt a - Int64.ofInt a / Int64.ofInt b * Int64.ofInt b = Int64.ofInt (a.tmod b) := by
  rw [z64_div ha hb, z64_mul, z64_sub, Int.tmod_def, Int.mul_comm]
theorem z32_ne0 {b : Int} (hb : zIn b) (h : b ≠ 0) : ¬ Int32.ofInt b = 0 := by
  intro e
  exact h ((z32_inj hb ⟨by omega, by omega⟩).mp (e.trans (show (0 : Int32) = Int32.ofInt 0 from rfl)))
theorem z64_ne0 {b : Int} (hb : zLn b) (h : b ≠ 0) : ¬ Int64.ofInt b = 0 := by
  intro e
  exact h ((z64_inj hb ⟨by omega, by omega⟩).mp (e.trans (show (0 : Int64) = Int64.ofInt 0 from rfl)))
theorem z_i2l {a : Int} (h : zIn a) : (Int32.ofInt a).toInt64 = Int64.ofInt a := by
  apply Int64.toInt_inj.mp
  rw [Int32.toInt_toInt64, z32_to h, z64_to ⟨by unfold zIn at h; omega, by unfold zIn at h; omega⟩]
theorem z_l2i {a : Int} (h : zLn a) : (Int64.ofInt a).toInt32 = Int32.ofInt a := by
  rw [← z32_of (Int64.ofInt a).toInt32, Int64.toInt_toInt32, z64_to h]
  exact z32_bm _
theorem zIn_Ln {a : Int} (h : zIn a) : zLn a := by unfold zIn at h; unfold zLn; omega
section ZO
variable {d y pc n n' : Nat} {ls : List (Nat × zV)} {st : List zV} {u u' : List (Nat × Nat)} {x m : zM} {Q : Int → zM → zM → Prop} {a b z : Int}
theorem wp_iadd (hd : decode (zCb y) pc = .ok (.iadd, 1)) (hz : Int32.ofInt z = Int32.ofInt (a + b)) (hr : zIn z) (k : WP d y (pc + 1) ls (zi z :: st) n u x m n' u' Q) : WP d y pc ls (zi b :: zi a :: st) n u x m n' u' Q :=
  wp_st (fun ad lsl _ _ _ => fun hx hb hk => lv_iadd hx hb hd (by rw [z32_add, ← hz]; exact hk)) (fun _ h => zOk_cons (v := zi z) hr (zOk_tl (zOk_tl h))) k
theorem wp_isub (hd : decode (zCb y) pc = .ok (.isub, 1)) (hz : Int32.ofInt z = Int32.ofInt (a - b)) (hr : zIn z) (k : WP d y (pc + 1) ls (zi z :: st) n u x m n' u' Q) : WP d y pc ls (zi b :: zi a :: st) n u x m n' u' Q :=
  wp_st (fun ad lsl _ _ _ => fun hx hb hk => lv_isub hx hb hd (by rw [z32_sub, ← hz]; exact hk)) (fun _ h => zOk_cons (v := zi z) hr (zOk_tl (zOk_tl h))) k
theorem wp_imul (hd : decode (zCb y) pc = .ok (.imul, 1)) (hz : Int32.ofInt z = Int32.ofInt (a * b)) (hr : zIn z) (k : WP d y (pc + 1) ls (zi z :: st) n u x m n' u' Q) : WP d y pc ls (zi b :: zi a :: st) n u x m n' u' Q :=
  wp_st (fun ad lsl _ _ _ => fun hx hb hk => lv_imul hx hb hd (by rw [z32_mul, ← hz]; exact hk)) (fun _ h => zOk_cons (v := zi z) hr (zOk_tl (zOk_tl h))) k
theorem wp_ineg (hd : decode (zCb y) pc = .ok (.ineg, 1)) (hz : Int32.ofInt z = Int32.ofInt (-a)) (hr : zIn z) (k : WP d y (pc + 1) ls (zi z :: st) n u x m n' u' Q) : WP d y pc ls (zi a :: st) n u x m n' u' Q :=
  wp_st (fun ad lsl _ _ _ => fun hx hb hk => lv_ineg hx hb hd (by rw [z32_neg, ← hz]; exact hk)) (fun _ h => zOk_cons (v := zi z) hr (zOk_tl h)) k
theorem wp_idiv (hd : decode (zCb y) pc = .ok (.idiv, 1)) (h0 : b ≠ 0) (hz : Int32.ofInt z = Int32.ofInt (a.tdiv b)) (hr : zIn a → zIn z) (k : WP d y (pc + 1) ls (zi z :: st) n u x m n' u' Q) : WP d y pc ls (zi b :: zi a :: st) n u x m n' u' Q :=
  wp_st (fun ad lsl _ _ h => fun hx hb hk => lv_idiv hx hb hd (z32_ne0 (zOk_hd h) h0) (by rw [z32_div (zOk_hd (zOk_tl h)) (zOk_hd h), ← hz]; exact hk)) (fun _ h => zOk_cons (v := zi z) (hr (zOk_hd (zOk_tl h))) (zOk_tl (zOk_tl h))) k
theorem wp_irem (hd : decode (zCb y) pc = .ok (.irem, 1)) (h0 : b ≠ 0) (hz : Int32.ofInt z = Int32.ofInt (a.tmod b)) (hr : zIn a → zIn z) (k : WP d y (pc + 1) ls (zi z :: st) n u x m n' u' Q) : WP d y pc ls (zi b :: zi a :: st) n u x m n' u' Q :=
  wp_st (fun ad lsl _ _ h => fun hx hb hk => lv_irem hx hb hd (z32_ne0 (zOk_hd h) h0) (by rw [z32_rem (zOk_hd (zOk_tl h)) (zOk_hd h), ← hz]; exact hk)) (fun _ h => zOk_cons (v := zi z) (hr (zOk_hd (zOk_tl h))) (zOk_tl (zOk_tl h))) k
theorem wp_iand (hd : decode (zCb y) pc = .ok (.iand, 1)) (k : WP d y (pc + 1) ls (zi (zand a b) :: st) n u x m n' u' Q) : WP d y pc ls (zi b :: zi a :: st) n u x m n' u' Q :=
  wp_st (fun ad lsl _ _ _ => fun hx hb hk => lv_iand hx hb hd (by rw [← z32_of (_ &&& _)]; exact hk)) (fun _ h => zOk_cons (v := zi _) (z32_rng _) (zOk_tl (zOk_tl h))) k
theorem wp_ior (hd : decode (zCb y) pc = .ok (.ior, 1)) (k : WP d y (pc + 1) ls (zi (zor a b) :: st) n u x m n' u' Q) : WP d y pc ls (zi b :: zi a :: st) n u x m n' u' Q :=
  wp_st (fun ad lsl _ _ _ => fun hx hb hk => lv_ior hx hb hd (by rw [← z32_of (_ ||| _)]; exact hk)) (fun _ h => zOk_cons (v := zi _) (z32_rng _) (zOk_tl (zOk_tl h))) k
theorem wp_ixor (hd : decode (zCb y) pc = .ok (.ixor, 1)) (k : WP d y (pc + 1) ls (zi (zxor a b) :: st) n u x m n' u' Q) : WP d y pc ls (zi b :: zi a :: st) n u x m n' u' Q :=
  wp_st (fun ad lsl _ _ _ => fun hx hb hk => lv_ixor hx hb hd (by rw [← z32_of (_ ^^^ _)]; exact hk)) (fun _ h => zOk_cons (v := zi _) (z32_rng _) (zOk_tl (zOk_tl h))) k
theorem wp_ishl (hd : decode (zCb y) pc = .ok (.ishl, 1)) (k : WP d y (pc + 1) ls (zi (zshl a b) :: st) n u x m n' u' Q) : WP d y pc ls (zi b :: zi a :: st) n u x m n' u' Q :=
  wp_st (fun ad lsl _ _ _ => fun hx hb hk => lv_ishl hx hb hd (by rw [← z32_of (_ <<< _)]; exact hk)) (fun _ h => zOk_cons (v := zi _) (z32_rng _) (zOk_tl (zOk_tl h))) k
theorem wp_ishr (hd : decode (zCb y) pc = .ok (.ishr, 1)) (k : WP d y (pc + 1) ls (zi (zshr a b) :: st) n u x m n' u' Q) : WP d y pc ls (zi b :: zi a :: st) n u x m n' u' Q :=
  wp_st (fun ad lsl _ _ _ => fun hx hb hk => lv_ishr hx hb hd (by rw [← z32_of (_ >>> _)]; exact hk)) (fun _ h => zOk_cons (v := zi _) (z32_rng _) (zOk_tl (zOk_tl h))) k
theorem wp_ladd (hd : decode (zCb y) pc = .ok (.ladd, 1)) (hz : Int64.ofInt z = Int64.ofInt (a + b)) (hr : zLn z) (k : WP d y (pc + 1) ls (zl z :: st) n u x m n' u' Q) : WP d y pc ls (zl b :: zl a :: st) n u x m n' u' Q :=
  wp_st (fun ad lsl _ _ _ => fun hx hb hk => lv_ladd hx hb hd (by rw [z64_add, ← hz]; exact hk)) (fun _ h => zOk_cons (v := zl z) hr (zOk_tl (zOk_tl h))) k
theorem wp_lsub (hd : decode (zCb y) pc = .ok (.lsub, 1)) (hz : Int64.ofInt z = Int64.ofInt (a - b)) (hr : zLn z) (k : WP d y (pc + 1) ls (zl z :: st) n u x m n' u' Q) : WP d y pc ls (zl b :: zl a :: st) n u x m n' u' Q :=
  wp_st (fun ad lsl _ _ _ => fun hx hb hk => lv_lsub hx hb hd (by rw [z64_sub, ← hz]; exact hk)) (fun _ h => zOk_cons (v := zl z) hr (zOk_tl (zOk_tl h))) k
theorem wp_lmul (hd : decode (zCb y) pc = .ok (.lmul, 1)) (hz : Int64.ofInt z = Int64.ofInt (a * b)) (hr : zLn z) (k : WP d y (pc + 1) ls (zl z :: st) n u x m n' u' Q) : WP d y pc ls (zl b :: zl a :: st) n u x m n' u' Q :=
  wp_st (fun ad lsl _ _ _ => fun hx hb hk => lv_lmul hx hb hd (by rw [z64_mul, ← hz]; exact hk)) (fun _ h => zOk_cons (v := zl z) hr (zOk_tl (zOk_tl h))) k
theorem wp_ldiv (hd : decode (zCb y) pc = .ok (.ldiv, 1)) (h0 : b ≠ 0) (hz : Int64.ofInt z = Int64.ofInt (a.tdiv b)) (hr : zLn a → zLn z) (k : WP d y (pc + 1) ls (zl z :: st) n u x m n' u' Q) : WP d y pc ls (zl b :: zl a :: st) n u x m n' u' Q :=
  wp_st (fun ad lsl _ _ h => fun hx hb hk => lv_ldiv hx hb hd (z64_ne0 (zOk_hd h) h0) (by rw [z64_div (zOk_hd (zOk_tl h)) (zOk_hd h), ← hz]; exact hk)) (fun _ h => zOk_cons (v := zl z) (hr (zOk_hd (zOk_tl h))) (zOk_tl (zOk_tl h))) k
theorem wp_lrem (hd : decode (zCb y) pc = .ok (.lrem, 1)) (h0 : b ≠ 0) (hz : Int64.ofInt z = Int64.ofInt (a.tmod b)) (hr : zLn a → zLn z) (k : WP d y (pc + 1) ls (zl z :: st) n u x m n' u' Q) : WP d y pc ls (zl b :: zl a :: st) n u x m n' u' Q :=
  wp_st (fun ad lsl _ _ h => fun hx hb hk => lv_lrem hx hb hd (z64_ne0 (zOk_hd h) h0) (by rw [z64_rem (zOk_hd (zOk_tl h)) (zOk_hd h), ← hz]; exact hk)) (fun _ h => zOk_cons (v := zl z) (hr (zOk_hd (zOk_tl h))) (zOk_tl (zOk_tl h))) k
theorem wp_lor (hd : decode (zCb y) pc = .ok (.lor, 1)) (k : WP d y (pc + 1) ls (zl (zlor a b) :: st) n u x m n' u' Q) : WP d y pc ls (zl b :: zl a :: st) n u x m n' u' Q :=
  wp_st (fun ad lsl _ _ _ => fun hx hb hk => lv_lor hx hb hd (by rw [← z64_of (_ ||| _)]; exact hk)) (fun _ h => zOk_cons (v := zl _) (z64_rng _) (zOk_tl (zOk_tl h))) k
theorem wp_lshl (hd : decode (zCb y) pc = .ok (.lshl, 1)) (k : WP d y (pc + 1) ls (zl (zlshl a b) :: st) n u x m n' u' Q) : WP d y pc ls (zi b :: zl a :: st) n u x m n' u' Q :=
  wp_st (fun ad lsl _ _ _ => fun hx hb hk => lv_lshl hx hb hd (z64_of _).symm hk) (fun _ h => zOk_cons (v := zl _) (z64_rng _) (zOk_tl (zOk_tl h))) k
theorem wp_i2l (hd : decode (zCb y) pc = .ok (.i2l, 1)) (k : WP d y (pc + 1) ls (zl a :: st) n u x m n' u' Q) : WP d y pc ls (zi a :: st) n u x m n' u' Q :=
  wp_st (fun ad lsl _ _ h => fun hx hb hk => lv_i2l hx hb hd (z_i2l (zOk_hd h)) hk) (fun _ h => zOk_cons (v := zl a) (zIn_Ln (zOk_hd h)) (zOk_tl h)) k
theorem wp_l2i (hd : decode (zCb y) pc = .ok (.l2i, 1)) (hz : Int32.ofInt z = Int32.ofInt a) (hr : zIn z) (k : WP d y (pc + 1) ls (zi z :: st) n u x m n' u' Q) : WP d y pc ls (zl a :: st) n u x m n' u' Q :=
  wp_st (fun ad lsl _ _ h => fun hx hb hk => lv_l2i hx hb hd ((z_l2i (zOk_hd h)).trans hz.symm) hk) (fun _ h => zOk_cons (v := zi z) hr (zOk_tl h)) k
-- the stack
theorem wp_dup {v : zV} (hd : decode (zCb y) pc = .ok (.dup, 1)) (hv : zcat v = 1) (k : WP d y (pc + 1) ls (v :: v :: st) n u x m n' u' Q) : WP d y pc ls (v :: st) n u x m n' u' Q :=
  wp_st (fun ad lsl _ _ _ => fun hx hb hk => lv_dup hx hb hd (by rw [zcat_eq]; exact hv) hk) (fun _ h => zOk_cons (zOk_hd h) h) k
theorem wp_pop {v : zV} (hd : decode (zCb y) pc = .ok (.pop, 1)) (hv : zcat v = 1) (k : WP d y (pc + 1) ls st n u x m n' u' Q) : WP d y pc ls (v :: st) n u x m n' u' Q :=
  wp_st (fun ad lsl _ _ _ => fun hx hb hk => lv_pop hx hb hd (by rw [zcat_eq]; exact hv) hk) (fun _ h => zOk_tl h) k
theorem wp_pop2 {v : zV} (hd : decode (zCb y) pc = .ok (.pop2, 1)) (hv : zcat v = 2) (k : WP d y (pc + 1) ls st n u x m n' u' Q) : WP d y pc ls (v :: st) n u x m n' u' Q :=
  wp_st (fun ad lsl _ _ _ => fun hx hb hk => lv_pop2_2 hx hb hd (by rw [zcat_eq]; exact hv) hk) (fun _ h => zOk_tl h) k
theorem wp_dup2 {v w : zV} (hd : decode (zCb y) pc = .ok (.dup2, 1)) (hv : zcat v = 1) (hw : zcat w = 1) (k : WP d y (pc + 1) ls (v :: w :: v :: w :: st) n u x m n' u' Q) : WP d y pc ls (v :: w :: st) n u x m n' u' Q :=
  wp_st (fun ad lsl _ _ _ => fun hx hb hk => lv_dup2_11 hx hb hd (by rw [zcat_eq]; exact hv) (by rw [zcat_eq]; exact hw) hk) (fun _ h => zOk_cons (zOk_hd h) (zOk_cons (zOk_hd (zOk_tl h)) h)) k
theorem wp_goto {off : Int} {tgt : Nat} (hd : decode (zCb y) pc = .ok (.goto off, 3)) (ht : (pc : Int) + off = (tgt : Int)) (k : WP d y tgt ls st n u x m n' u' Q) : WP d y pc ls st n u x m n' u' Q :=
  wp_st (fun ad lsl _ _ _ => fun hx hb hk => lv_goto hx hb hd ht hk) (fun _ h => h) k
-- branches
theorem wp_br {C : Prop} {p1 p2 : Nat} {st' : List zV} (hr : ∀ (ad : Nat → Nat) (lsl : Array Slot), (∀ v ∈ st, zOk n v) → ∀ {p : Program} {l : Launch} {e : Env} {R : Room} {s : State} {mi : MethodId} {args : Array Value} {below : List Frame} {meth : Method} {c : Code} {H : Heap} {locs : List Loc} {cells slots : Nat} {QQ : State → Prop}, p.tables.exec = Jvm.exec → c.code = zCb y →
      (C → W p l e R s mi args below meth c H locs cells slots QQ (F0 mi p1 lsl (st'.map (zc ad)))) → (¬ C → W p l e R s mi args below meth c H locs cells slots QQ (F0 mi p2 lsl (st'.map (zc ad)))) → W p l e R s mi args below meth c H locs cells slots QQ (F0 mi pc lsl (st.map (zc ad))))
    (ok : (∀ v ∈ st, zOk n v) → ∀ v ∈ st', zOk n v) (k1 : C → WP d y p1 ls st' n u x m n' u' Q) (k2 : ¬ C → WP d y p2 ls st' n u x m n' u' Q) : WP d y pc ls st n u x m n' u' Q := by
  intro p l e R s mi args below meth c QQ D A sc ro ad0 n0 E H locs ad lsl S
  obtain ⟨⟨hx, hb, -⟩, -⟩ := id E
  obtain ⟨s1, s2, s3, s4, s5, s6, s7, s8, s9⟩ := id S
  exact hr ad lsl s9 hx hb (fun h => k1 h p l e R s mi args below meth c QQ D A sc ro ad0 n0 E H locs ad lsl ⟨s1, s2, s3, s4, s5, s6, s7, s8, ok s9⟩) (fun h => k2 h p l e R s mi args below meth c QQ D A sc ro ad0 n0 E H locs ad lsl ⟨s1, s2, s3, s4, s5, s6, s7, s8, ok s9⟩)
/-- what a comparison says, and its denial -/
def zcmp (c : ClassFile.Cond) (a b : Int) : Prop := match c with
  | .eq => a = b
  | .ne => a ≠ b
  | .lt => a < b
  | .ge => b ≤ a
  | .gt => b < a
  | .le => a ≤ b
def zcmn (c : ClassFile.Cond) (a b : Int) : Prop := match c with
  | .eq => a ≠ b
  | .ne => a = b
  | .lt => b ≤ a
  | .ge => a < b
  | .gt => a ≤ b
  | .le => b < a
theorem zcmn_of {c : ClassFile.Cond} (h : ¬ zcmp c a b) : zcmn c a b := by
  cases c <;> simp only [zcmp, zcmn] at * <;> omega
theorem wp_icmp {c : ClassFile.Cond} {off : Int} {tgt : Nat} (hd : decode (zCb y) pc = .ok (.if_icmp c off, 3)) (ht : (pc : Int) + off = (tgt : Int)) (k1 : zcmp c a b → WP d y tgt ls st n u x m n' u' Q) (k2 : zcmn c a b → WP d y (pc + 3) ls st n u x m n' u' Q) : WP d y pc ls (zi b :: zi a :: st) n u x m n' u' Q := by
  refine wp_br (C := zcmp c a b) (fun ad lsl h => ?_) (fun h => zOk_tl (zOk_tl h)) k1 (fun h => k2 (zcmn_of h))
  intro p l e R s mi args below meth cc H locs cells slots QQ hx hb g1 g2
  have hb1 : zIn b := zOk_hd h
  have ha1 : zIn a := zOk_hd (zOk_tl h)
  cases c
  · exact lv_icmp_eq hx hb hd ht (fun q => g1 ((z32_inj ha1 hb1).mp q)) (fun q => g2 (fun r => q ((z32_inj ha1 hb1).mpr r)))
  · exact lv_icmp_ne hx hb hd ht (fun q => g1 (fun r => q ((z32_inj ha1 hb1).mpr r))) (fun q => g2 (fun r => r ((z32_inj ha1 hb1).mp q)))
  · exact lv_icmp_lt hx hb hd ht (fun q => g1 ((z32_lt ha1 hb1).mp q)) (fun q => g2 (fun r => q ((z32_lt ha1 hb1).mpr r)))
  · exact lv_icmp_ge hx hb hd ht (fun q => g1 ((z32_le hb1 ha1).mp q)) (fun q => g2 (fun r => q ((z32_le hb1 ha1).mpr r)))
  · exact lv_icmp_gt hx hb hd ht (fun q => g1 ((z32_lt hb1 ha1).mp q)) (fun q => g2 (fun r => q ((z32_lt hb1 ha1).mpr r)))
  · exact lv_icmp_le hx hb hd ht (fun q => g1 ((z32_le ha1 hb1).mp q)) (fun q => g2 (fun r => q ((z32_le ha1 hb1).mpr r)))
theorem wp_ifc {c : ClassFile.Cond} {off : Int} {tgt : Nat} (hd : decode (zCb y) pc = .ok (.ifCond c off, 3)) (ht : (pc : Int) + off = (tgt : Int)) (k1 : zcmp c a 0 → WP d y tgt ls st n u x m n' u' Q) (k2 : zcmn c a 0 → WP d y (pc + 3) ls st n u x m n' u' Q) : WP d y pc ls (zi a :: st) n u x m n' u' Q := by
  refine wp_br (C := zcmp c a 0) (fun ad lsl h => ?_) (fun h => zOk_tl h) k1 (fun h => k2 (zcmn_of h))
  intro p l e R s mi args below meth cc H locs cells slots QQ hx hb g1 g2
  have hb1 : zIn 0 := ⟨by omega, by omega⟩
  have ha1 : zIn a := zOk_hd h
  have e0 : (0 : Int32) = Int32.ofInt 0 := rfl
  cases c
  · exact lv_if_eq hx hb hd ht (fun q => g1 ((z32_inj ha1 hb1).mp q)) (fun q => g2 (fun r => q ((z32_inj ha1 hb1).mpr r)))
  · exact lv_if_ne hx hb hd ht (fun q => g1 (fun r => q ((z32_inj ha1 hb1).mpr r))) (fun q => g2 (fun r => r ((z32_inj ha1 hb1).mp q)))
  · exact lv_if_lt hx hb hd ht (fun q => g1 ((z32_lt ha1 hb1).mp q)) (fun q => g2 (fun r => q ((z32_lt ha1 hb1).mpr r)))
  · exact lv_if_ge hx hb hd ht (fun q => g1 ((z32_le hb1 ha1).mp q)) (fun q => g2 (fun r => q ((z32_le hb1 ha1).mpr r)))
  · exact lv_if_gt hx hb hd ht (fun q => g1 ((z32_lt hb1 ha1).mp q)) (fun q => g2 (fun r => q ((z32_lt hb1 ha1).mpr r)))
  · exact lv_if_le hx hb hd ht (fun q => g1 ((z32_le ha1 hb1).mp q)) (fun q => g2 (fun r => q ((z32_le ha1 hb1).mpr r)))
/-- the three-way comparison of longs -/
def zlc (a b : Int) : Int := if a < b then -1 else if a = b then 0 else 1
theorem zlc_in : zIn (zlc a b) := by unfold zlc zIn; split <;> (try split) <;> omega
theorem lg_cmp_of (ha : zLn a) (hb : zLn b) : lg_cmp (Int64.ofInt a) (Int64.ofInt b) = Int32.ofInt (zlc a b) := by
  unfold lg_cmp zlc
  simp only [z64_lt ha hb, z64_lt hb ha, z64_inj ha hb]
  by_cases h1 : a < b
  · have h2 : ¬ b < a := by omega
    have h3 : ¬ a = b := by omega
    simp [h1, h2, h3]
  · by_cases h2 : a = b
    · simp [h2]
    · simp [h1, h2]; try omega
theorem wp_lcmp (hd : decode (zCb y) pc = .ok (.lcmp, 1)) (k : WP d y (pc + 1) ls (zi (zlc a b) :: st) n u x m n' u' Q) : WP d y pc ls (zl b :: zl a :: st) n u x m n' u' Q :=
  wp_st (fun ad lsl _ _ h => fun hx hb hk => W.lcmp hx hb hd (by rw [lg_cmp_of (zOk_hd (zOk_tl h)) (zOk_hd h)]; exact hk)) (fun _ h => zOk_cons (v := zi _) zlc_in (zOk_tl (zOk_tl h))) k
theorem zlc_cmp {c : ClassFile.Cond} (h : zcmp c (zlc a b) 0) : zcmp c a b := by
  unfold zlc at h
  cases c <;> simp only [zcmp] at * <;> split at h <;> (try split at h) <;> omega
theorem zlc_cmn {c : ClassFile.Cond} (h : zcmn c (zlc a b) 0) : zcmn c a b := by
  unfold zlc at h
  cases c <;> simp only [zcmn] at * <;> split at h <;> (try split at h) <;> omega
end ZO
end
section
/-! the heap: fields and arrays -/
theorem zt_sh : ∀ k, k < 403 → (zSh k).1 = 0 → (zSh k).2.1 < 13 ∧ (zSh k).2.2.1 = (zCl (zSh k).2.1).2.2 := by decide +kernel
theorem zt_vw : ∀ c, c < 13 → vwCl[c]? = some (zCl c) := by
  intro c hc
  have : c = 0 ∨ c = 1 ∨ c = 2 ∨ c = 3 ∨ c = 4 ∨ c = 5 ∨ c = 6 ∨ c = 7 ∨ c = 8 ∨ c = 9 ∨ c = 10 ∨ c = 11 ∨ c = 12 := by omega
  rcases this with rfl | rfl | rfl | rfl | rfl | rfl | rfl | rfl | rfl | rfl | rfl | rfl | rfl <;> rfl
/-- the type of a slot -/
def zTf (ci j : Nat) : FieldType := match ci with
  | 0 => tyX0 j
  | 1 => tyX1 j
  | 2 => tyX2 j
  | 3 => tyX3 j
  | 4 => tyX4 j
  | 5 => tyX5 j
  | 6 => tyX6 j
  | 7 => tyX7 j
  | 8 => tyX8 j
  | 9 => tyX9 j
  | 10 => tyX10 j
  | 11 => tyX11 j
  | _ => tyX12 j
theorem zt_ty : ∀ ci, ci < 13 → ∀ k, k < (zCl ci).2.2 → parseFieldDescriptor ((zCl ci).2.1 k).2.2.1 = some (zTf ci k) := by decide +kernel
theorem zt_nm : ∀ ci, ci < 13 → ∀ a, a < (zCl ci).2.2 → ∀ b, b < (zCl ci).2.2 → a ≠ b → ((zCl ci).2.1 a).2.1 ≠ ((zCl ci).2.1 b).2.1 := by decide +kernel
theorem zt_in : ∀ ci, ci < 13 → ∀ w ∈ u_ws (zCl ci).1 (zCl ci).2.1 (zCl ci).2.2, w ∈ zgood := by decide +kernel
theorem zt_row3b : ∀ o, o < 403 → ((zSh o).1 ≠ 3 ∨ ∀ i, i < (zSh o).2.2.1 → (zSh ((zSh o).2.1 + i) = (5, o, i, (zSh o).2.2.2) ∧ (zSh o).2.1 + i < 403)) := by decide +kernel
theorem zt_row3 (o : Nat) (h : o < 403) (h2 : (zSh o).1 = 3) (i : Nat) (hi : i < (zSh o).2.2.1) : zSh ((zSh o).2.1 + i) = (5, o, i, (zSh o).2.2.2) ∧ (zSh o).2.1 + i < 403 := (zt_row3b o h).elim (fun q => absurd h2 q) (fun q => q i hi)
theorem zt_row4b : ∀ o, o < 403 → ((zSh o).1 ≠ 4 ∨ ∀ i, i < (zSh o).2.2.1 → (zSh ((zSh o).2.1 + i) = (6, o, i, (zSh o).2.2.2) ∧ (zSh o).2.1 + i < 403)) := by decide +kernel
theorem zt_row4 (o : Nat) (h : o < 403) (h2 : (zSh o).1 = 4) (i : Nat) (hi : i < (zSh o).2.2.1) : zSh ((zSh o).2.1 + i) = (6, o, i, (zSh o).2.2.2) ∧ (zSh o).2.1 + i < 403 := (zt_row4b o h).elim (fun q => absurd h2 q) (fun q => q i hi)
/-- kinds and types agree -/
def zTq (t : Nat) (ty : FieldType) : Bool := match t, ty with
  | 0, .int => true
  | 1, .long => true
  | 3, .boolean => true
  | 2, .object _ => true
  | 2, .array _ => true
  | _, _ => false
theorem zt_kd : ∀ ci, ci < 13 → ∀ j, j < (zCl ci).2.2 → zTq ((zTy ci).getD j 0) (zTf ci j) = true := by decide +kernel
theorem zt_len : ∀ k, k < 403 → (zSh k).1 = 5 ∨ (zSh k).1 = 6 → (zSh k).2.1 < 403 ∧ ((zSh k).1 = 5 → (zSh (zSh k).2.1).1 = 3) ∧ ((zSh k).1 = 6 → (zSh (zSh k).2.1).1 = 4) ∧ (zSh k).2.2.2 = (zSh (zSh k).2.1).2.2.2 ∧ k = (zSh (zSh k).2.1).2.1 + (zSh k).2.2.1 ∧ (zSh k).2.2.1 < (zSh (zSh k).2.1).2.2.1 := by decide +kernel
theorem zt_rf : ∀ k, k < 403 → ∀ j, j < (zSh k).2.2.1 → (zRf k).getD j 0 < 403 := by decide +kernel
theorem zt_out : ∀ o, o < 403 → (zSh o).1 = 3 ∨ (zSh o).1 = 4 → (zSh o).2.1 = o + 1 := by decide +kernel
theorem zt_le : ∀ k, k < 403 → (zSh k).1 ≤ 6 := by decide +kernel
end
section
/-! the heap: fields and arrays -/
theorem zE_obj {ca : Nat → ClassId} {ad : Nat → Nat} {u : List (Nat × Nat)} {μ : zM} {k ci nf c : Nat} (h : zSh k = (0, ci, nf, c)) : zE ca ad u μ k = .inr (ci, (List.range nf).map (zFv ad u μ k)) := by simp only [zE, h]
theorem zrd_upx {x m : zM} {k : Nat} (h : Nat.ble k 385 = true) (i v : Int) : zrd (zupd x k i v) m = zupd (zrd x m) k i v := by
  funext k' i'
  unfold zrd zupd
  by_cases e : k' = k
  · subst e
    simp [h]
  · by_cases h2 : Nat.ble k' 385 = true <;> simp [h2, e]
theorem zrd_upm {x m : zM} {k : Nat} (h : Nat.ble k 385 = false) (i v : Int) : zrd x (zupd m k i v) = zupd (zrd x m) k i v := by
  funext k' i'
  unfold zrd zupd
  by_cases e : k' = k
  · subst e
    simp [h]
  · by_cases h2 : Nat.ble k' 385 = true <;> simp [h2, e]
theorem zupd_ne {x : zM} {k k' : Nat} {i v : Int} (h : k' ≠ k) : zupd x k i v k' = x k' := by
  funext i'
  simp [zupd, h]
theorem zupd_eq {x : zM} {k : Nat} {i v : Int} (i' : Int) : zupd x k i v k i' = if i' = i then v else x k i' := by simp [zupd]
/-- a place's picture rests on one row of the memory: its own, or its outer's -/
def zHome (k : Nat) : Nat := match zSh k with
  | (5, o, _, _) => o
  | (6, o, _, _) => o
  | _ => k
theorem zFv_congr {ad : Nat → Nat} {u : List (Nat × Nat)} {μ μ' : zM} {k : Nat} (h : μ k = μ' k) : zFv ad u μ k = zFv ad u μ' k := by
  funext j
  simp only [zFv, h]
theorem zE_congr {ca : Nat → ClassId} {ad : Nat → Nat} {u : List (Nat × Nat)} {μ μ' : zM} {k : Nat} (h : μ (zHome k) = μ' (zHome k)) : zE ca ad u μ k = zE ca ad u μ' k := by
  unfold zHome at h
  unfold zE
  generalize zSh k = s at h ⊢
  obtain ⟨a, b, c, e⟩ := s
  match a, h with
  | 0, h => simp only at h ⊢; rw [zFv_congr h]
  | 1, h => simp only at h ⊢; rw [h]
  | 2, h => simp only at h ⊢; rw [h]
  | 5, h => simp only at h ⊢; rw [h]
  | 6, h => simp only at h ⊢; rw [h]
  | 3, h => rfl
  | 4, h => rfl
  | a + 7, h => rfl
section ZM
variable {d y pc n n' : Nat} {ls : List (Nat × zV)} {st : List zV} {u u' : List (Nat × Nat)} {x m : zM} {Q : Int → zM → zM → Prop} {a b z : Int}
/-- the context taken apart, for an instruction that reads the heap -/
theorem wp_hp {pc' : Nat} {st' : List zV} (hr : ∀ {p : Program} {l : Launch} {e : Env} {R : Room} {s : State} {mi : MethodId} {args : Array Value} {below : List Frame} {meth : Method} {c : Code} {H : Heap} {locs : List Loc} {cells slots : Nat} {QQ : State → Prop} {D : va_G} {A : Nat → Prop} {ad : Nat → Nat} {ca : Nat → ClassId} {tys : List (ClassId × FieldType)} {lsl : Array Slot}, p.tables.exec = Jvm.exec → c.code = zCb y → s.vm.findClass (zOw y) = some mi.cls → (∀ w ∈ zgood, w.before args s = true) →
      va_K D vwCl tys s → va_P D vwCl (zws ca ad n u (zrd x m)) H → (∀ k, k < n → (zSh k).1 ≠ 0 → ∃ t0 : Nat, tys[t0]? = some (ca k, zEt k)) → (∀ v ∈ st, zOk n v) →
      W p l e R s mi args below meth c H locs cells slots QQ (F0 mi pc' lsl (st'.map (zc ad))) → W p l e R s mi args below meth c H locs cells slots QQ (F0 mi pc lsl (st.map (zc ad))))
    (ok : zCls n u → (∀ k i, zRg k i (zrd x m k i)) → (∀ v ∈ st, zOk n v) → ∀ v ∈ st', zOk n v) (k : WP d y pc' ls st' n u x m n' u' Q) : WP d y pc ls st n u x m n' u' Q := by
  intro p l e R s mi args below meth c QQ D A sc ro ad0 n0 E H locs ad lsl S
  obtain ⟨⟨hx, hb, -, -, ho, ht, -⟩, -⟩ := id E
  obtain ⟨s1, s2, s3, s4, s5, s6, s7, s8, s9⟩ := id S
  obtain ⟨ca, tys, w1, w2, w3, w4, w5, w6⟩ := id s1
  exact hr (A := A) hx hb ho ht w1 w2 w4 s9 (k p l e R s mi args below meth c QQ D A sc ro ad0 n0 E H locs ad lsl ⟨s1, s2, s3, s4, s5, s6, s7, s8, ok w6 w5 s9⟩)
theorem wp_getfield {idx k ci nf c j : Nat} {v : zV} (hd : decode (zCb y) pc = .ok (.getfield idx, 3)) (hk : k < n) (hn : n ≤ 403) (hs : zSh k = (0, ci, nf, c)) (hj : j < nf) (hl : Cond.fieldLink (zOw y) idx ((zCl ci).2.1 j).1 ((zCl ci).2.1 j).2.1 ((zCl ci).2.1 j).2.2.1 ∈ zgood)
    (hv : ∀ ad, zFv ad u (zrd x m) k j = zc ad v) (ho : zCls n u → (∀ k i, zRg k i (zrd x m k i)) → zOk n v) (kk : WP d y (pc + 3) ls (v :: st) n u x m n' u' Q) : WP d y pc ls (zr k :: st) n u x m n' u' Q := by
  have hT := zt_sh k (by omega) (by rw [hs])
  rw [hs] at hT
  have hci : ci < 13 := hT.1
  have hnf : nf = (zCl ci).2.2 := hT.2
  refine wp_hp (fun {p l e R s mi args below meth cc H locs cells slots QQ D A ad ca tys lsl} hx hb how ht w1 w2 w4 s9 g => ?_) (fun hc h s9 => zOk_cons (ho hc h) (zOk_tl s9)) kk
  exact va_get (D := D) (ci := ci) (v := zFv ad u (zrd x m) k j) (C := (zCl ci).1) (T := (zCl ci).2.1) (N := (zCl ci).2.2) hx hb ht (zt_in ci hci) how w1 w2 k (by rw [zws_get hk, zE_obj hs]) (zt_vw ci hci) j (by omega) (ht _ hl) (fun _ h => h) (by rw [List.getElem?_map, List.getElem?_range hj]; rfl) hd (by rw [hv ad]; exact g)
theorem zFv_int {ad : Nat → Nat} {μ : zM} {k j ci : Nat} (hc : (zSh k).2.1 = ci) (h : (zTy ci).getD j 0 = 0 ∨ (zTy ci).getD j 0 = 3) : zFv ad u μ k j = zc ad (zi (μ k j)) := by
  unfold zFv
  rw [hc]
  rcases h with h | h <;> rw [h] <;> rfl
theorem zFv_long {ad : Nat → Nat} {μ : zM} {k j ci : Nat} (hc : (zSh k).2.1 = ci) (h : (zTy ci).getD j 0 = 1) : zFv ad u μ k j = zc ad (zl (μ k j)) := by
  unfold zFv
  rw [hc, h]
  rfl
theorem zFv_ref {ad : Nat → Nat} {μ : zM} {k j ci : Nat} (hc : (zSh k).2.1 = ci) (h : (zTy ci).getD j 0 = 2) (hu : (k, j) ∉ u) : zFv ad u μ k j = zc ad (zr ((zRf k).getD j 0)) := by
  unfold zFv
  rw [hc, h]
  simp only [if_neg hu]
  rfl
theorem zRg_int {μ : zM} {k ci nf c j : Nat} (hs : zSh k = (0, ci, nf, c)) (h : (zTy ci).getD j 0 ≠ 1) (hr : ∀ k i, zRg k i (μ k i)) : zIn (μ k j) := by
  have := hr k j
  unfold zRg zLg at this
  rw [hs] at this
  change (bif Nat.beq ((zTy ci).getD j 0) 1 then zLn _ else zIn _) at this
  have e : Nat.beq ((zTy ci).getD j 0) 1 = false := by
    cases hb : Nat.beq ((zTy ci).getD j 0) 1 with
    | false => rfl
    | true => exact absurd (Nat.eq_of_beq_eq_true hb) h
  rw [e] at this
  exact this
theorem zRg_long {μ : zM} {k ci nf c j : Nat} (hs : zSh k = (0, ci, nf, c)) (h : (zTy ci).getD j 0 = 1) (hr : ∀ k i, zRg k i (μ k i)) : zLn (μ k j) := by
  have := hr k j
  unfold zRg zLg at this
  rw [hs] at this
  change (bif Nat.beq ((zTy ci).getD j 0) 1 then zLn _ else zIn _) at this
  rw [h] at this
  exact this
/-- an instruction that writes: the rows' own words for what is written are turned into the memory's -/
theorem wp_wr {pc' : Nat} {st' : List zV} {x' m' : zM} {u2 : List (Nat × Nat)} {q0 : Nat} (hq : q0 < n) (e : (Nat → ClassId) → (Nat → Nat) → va_E) (hr : ∀ {p : Program} {l : Launch} {e9 : Env} {R : Room} {s : State} {mi : MethodId} {args : Array Value} {below : List Frame} {meth : Method} {c : Code} {H : Heap} {locs : List Loc} {cells slots : Nat} {QQ : State → Prop} {D : va_G} {A : Nat → Prop} {ad : Nat → Nat} {ca : Nat → ClassId} {tys : List (ClassId × FieldType)} {lsl : Array Slot}, p.tables.exec = Jvm.exec → c.code = zCb y → s.vm.findClass (zOw y) = some mi.cls → (∀ w ∈ zgood, w.before args s = true) → (zIs y = true → meth.name = "<init>") →
      va_K D vwCl tys s → va_P D vwCl (zws ca ad n u (zrd x m)) H → va_D A (zws ca ad n u (zrd x m)) → va_S A s.heap H locs → (∀ k, k < n → (zSh k).1 ≠ 0 → ∃ t0 : Nat, tys[t0]? = some (ca k, zEt k)) → (∀ v ∈ st, zOk n v) →
      (∀ (H1 : Heap) (locs1 : List Loc), va_P D vwCl ((zws ca ad n u (zrd x m)).set q0 (ad q0, e ca ad)) H1 → va_D A ((zws ca ad n u (zrd x m)).set q0 (ad q0, e ca ad)) → va_S A s.heap H1 locs1 → W p l e9 R s mi args below meth c H1 locs1 cells slots QQ (F0 mi pc' lsl (st'.map (zc ad)))) → W p l e9 R s mi args below meth c H locs cells slots QQ (F0 mi pc lsl (st.map (zc ad))))
    (he : ∀ ca ad, zEq (e ca ad) (zE ca ad u2 (zrd x' m') q0)) (ho : ∀ ca ad k, k < n → k ≠ q0 → zEq (zE ca ad u (zrd x m) k) (zE ca ad u2 (zrd x' m') k)) (hm : m' 2000 = m 2000)
    (hg : (∀ k i, zRg k i (zrd x m k i)) → (∀ v ∈ st, zOk n v) → ∀ k i, zRg k i (zrd x' m' k i)) (hc : zCls n u → (∀ v ∈ st, zOk n v) → zCls n u2) (ok : (∀ v ∈ st, zOk n v) → ∀ v ∈ st', zOk n v) (k : WP d y pc' ls st' n u2 x' m' n' u' Q) : WP d y pc ls st n u x m n' u' Q := by
  intro p l e9 R s mi args below meth c QQ D A sc ro ad0 n0 E H locs ad lsl S
  obtain ⟨⟨hx, hb, -, -, hown, ht, -, hin⟩, -⟩ := id E
  obtain ⟨s1, s2, s3, s4, s5, s6, s7, s8, s9⟩ := id S
  obtain ⟨ca, tys, w1, w2, w3, w4, w5, w6⟩ := id s1
  refine hr (A := A) hx hb hown ht hin w1 w2 w3 s2 w4 s9 (fun H1 locs1 hP hD hS => ?_)
  exact k p l e9 R s mi args below meth c QQ D A sc ro ad0 n0 E H1 locs1 ad lsl ⟨⟨ca, tys, w1, zP_set hq hP (he ca ad) (fun k hk hne => ho ca ad k hk hne), zD_ext w3, w4, hg w5 s9, hc w6 s9⟩, hS, hm.trans s3, s4, s5, s6, s7, s8, ok s9⟩
/-- the same, with the room -/
theorem wp_wr2 {pc' : Nat} {st' : List zV} {x' m' : zM} {u2 : List (Nat × Nat)} {q0 : Nat} (hq : q0 < n) (e : (Nat → ClassId) → (Nat → Nat) → va_E) (hr : ∀ {p : Program} {l : Launch} {e9 : Env} {R : Room} {s : State} {mi : MethodId} {args : Array Value} {below : List Frame} {meth : Method} {c : Code} {H : Heap} {locs : List Loc} {cells slots : Nat} {QQ : State → Prop} {D : va_G} {A : Nat → Prop} {ad : Nat → Nat} {ca : Nat → ClassId} {tys : List (ClassId × FieldType)} {lsl : Array Slot}, p.tables.exec = Jvm.exec → c.code = zCb y → s.vm.findClass (zOw y) = some mi.cls → (∀ w ∈ zgood, w.before args s = true) → (zIs y = true → meth.name = "<init>") → c.maxLocals = lsl.size → d ≤ R.frames → 64 * d ≤ R.locals →
      va_K D vwCl tys s → va_P D vwCl (zws ca ad n u (zrd x m)) H → va_D A (zws ca ad n u (zrd x m)) → va_S A s.heap H locs → (∀ k, k < n → (zSh k).1 ≠ 0 → ∃ t0 : Nat, tys[t0]? = some (ca k, zEt k)) → (∀ v ∈ st, zOk n v) →
      (∀ (H1 : Heap) (locs1 : List Loc), va_P D vwCl ((zws ca ad n u (zrd x m)).set q0 (ad q0, e ca ad)) H1 → va_D A ((zws ca ad n u (zrd x m)).set q0 (ad q0, e ca ad)) → va_S A s.heap H1 locs1 → W p l e9 R s mi args below meth c H1 locs1 cells slots QQ (F0 mi pc' lsl (st'.map (zc ad)))) → W p l e9 R s mi args below meth c H locs cells slots QQ (F0 mi pc lsl (st.map (zc ad))))
    (he : ∀ ca ad, zEq (e ca ad) (zE ca ad u2 (zrd x' m') q0)) (ho : ∀ ca ad k, k < n → k ≠ q0 → zEq (zE ca ad u (zrd x m) k) (zE ca ad u2 (zrd x' m') k)) (hm : m' 2000 = m 2000)
    (hg : (∀ k i, zRg k i (zrd x m k i)) → (∀ v ∈ st, zOk n v) → ∀ k i, zRg k i (zrd x' m' k i)) (hc : zCls n u → (∀ v ∈ st, zOk n v) → zCls n u2) (ok : (∀ v ∈ st, zOk n v) → ∀ v ∈ st', zOk n v) (k : WP d y pc' ls st' n u2 x' m' n' u' Q) : WP d y pc ls st n u x m n' u' Q := by
  intro p l e9 R s mi args below meth c QQ D A sc ro ad0 n0 E H locs ad lsl S
  obtain ⟨⟨hx, hb, -, hml, hown, ht, -, hin⟩, ⟨r1, r2, -⟩, -⟩ := id E
  obtain ⟨s1, s2, s3, s4, s5, s6, s7, s8, s9⟩ := id S
  obtain ⟨ca, tys, w1, w2, w3, w4, w5, w6⟩ := id s1
  refine hr (A := A) hx hb hown ht hin (hml.trans s7.1.symm) r1 r2 w1 w2 w3 s2 w4 s9 (fun H1 locs1 hP hD hS => ?_)
  exact k p l e9 R s mi args below meth c QQ D A sc ro ad0 n0 E H1 locs1 ad lsl ⟨⟨ca, tys, w1, zP_set hq hP (he ca ad) (fun k hk hne => ho ca ad k hk hne), zD_ext w3, w4, hg w5 s9, hc w6 s9⟩, hS, hm.trans s3, s4, s5, s6, s7, s8, ok s9⟩
/-- the two ways to write one number -/
theorem zwr_row {x m x' m' : zM} {k : Nat} {i v : Int} (h : (Nat.ble k 385 = true ∧ x' = zupd x k i v ∧ m' = m) ∨ (Nat.ble k 385 = false ∧ x' = x ∧ m' = zupd m k i v)) : zrd x' m' = zupd (zrd x m) k i v := by
  rcases h with ⟨h, rfl, rfl⟩ | ⟨h, rfl, rfl⟩
  · exact zrd_upx h i v
  · exact zrd_upm h i v
theorem zwr_2000 {x m x' m' : zM} {k : Nat} {i v : Int} (hk : k < 403) (h : (Nat.ble k 385 = true ∧ x' = zupd x k i v ∧ m' = m) ∨ (Nat.ble k 385 = false ∧ x' = x ∧ m' = zupd m k i v)) : m' 2000 = m 2000 := by
  rcases h with ⟨h, rfl, rfl⟩ | ⟨h, rfl, rfl⟩
  · rfl
  · exact zupd_ne (by omega)
theorem zwr_rg {μ μ' : zM} {k0 : Nat} {i0 v : Int} (e : μ' = zupd μ k0 i0 v) (hr : ∀ k i, zRg k i (μ k i)) (hv : zRg k0 i0 v) : ∀ k i, zRg k i (μ' k i) := by
  subst e
  intro k i
  by_cases h : k = k0 ∧ i = i0
  · obtain ⟨rfl, rfl⟩ := h
    simpa [zupd] using hv
  · simpa [zupd, h] using hr k i
theorem zHome_ne {k k0 : Nat} (h : zHome k ≠ k0) {ca : Nat → ClassId} {ad : Nat → Nat} {u : List (Nat × Nat)} {μ : zM} {i v : Int} : zE ca ad u μ k = zE ca ad u (zupd μ k0 i v) k := zE_congr (zupd_ne h).symm
theorem vpV_at (fs : List Value) (j : Nat) : vp_V fs j = (fs[j]?).getD .null := by simp [vp_V]
/-- putfield of a number -/
theorem wp_putfield {idx k ci nf c j : Nat} {v : zV} {z : Int} {x' m' : zM} (hd : decode (zCb y) pc = .ok (.putfield idx, 3)) (hk : k < n) (hn : n ≤ 403) (hs : zSh k = (0, ci, nf, c)) (hj : j < nf) (hl : Cond.fieldLink (zOw y) idx ((zCl ci).2.1 j).1 ((zCl ci).2.1 j).2.1 ((zCl ci).2.1 j).2.2.1 ∈ zgood)
    (hf : ((zCl ci).2.1 j).2.2.2 = false) (hv : (v = zi z ∧ ((zTy ci).getD j 0 = 0 ∨ ((zTy ci).getD j 0 = 3 ∧ (z = 0 ∨ z = 1)))) ∨ (v = zl z ∧ (zTy ci).getD j 0 = 1))
    (hw : (Nat.ble k 385 = true ∧ x' = zupd x k j z ∧ m' = m) ∨ (Nat.ble k 385 = false ∧ x' = x ∧ m' = zupd m k j z)) (kk : WP d y (pc + 3) ls st n u x' m' n' u' Q) : WP d y pc ls (v :: zr k :: st) n u x m n' u' Q := by
  have hT := zt_sh k (by omega) (by rw [hs])
  rw [hs] at hT
  have hci : ci < 13 := hT.1
  have hnf : nf = (zCl ci).2.2 := hT.2
  have hkd := zt_kd ci hci j (by omega)
  have eM := zwr_row hw
  have hfit : ∀ ad, narrow (zTf ci j) (zc ad v) = zc ad v ∧ fits (zTf ci j) (zc ad v) = true := by
    intro ad
    generalize hty : zTf ci j = ty at hkd
    rcases hv with ⟨rfl, h | ⟨h, rfl | rfl⟩⟩ | ⟨rfl, h⟩ <;> rw [h] at hkd <;> cases ty <;> first | exact ⟨rfl, rfl⟩ | cases hkd
  have hfv : ∀ ad, zFv ad u (zrd x' m') k j = zc ad v := by
    intro ad
    rcases hv with ⟨rfl, h⟩ | ⟨rfl, h⟩
    · rw [zFv_int (by rw [hs]) (h.imp id (fun q => q.1)), eM, zupd_eq, if_pos rfl]
    · rw [zFv_long (by rw [hs]) h, eM, zupd_eq, if_pos rfl]
  have hne : ∀ k', k' < n → k' ≠ k → zHome k' ≠ k := by
    intro k' hk' hne
    unfold zHome
    have h1 := zt_len k' (by omega)
    generalize hs' : zSh k' = s' at h1
    obtain ⟨a1, b1, c1, d1⟩ := s'
    split
    · rename_i o _ _ heq
      cases heq
      have h2 := (h1 (Or.inl rfl)).2.1 rfl
      intro e
      subst e
      rw [hs] at h2
      cases h2
    · rename_i o _ _ heq
      cases heq
      have h2 := (h1 (Or.inr rfl)).2.2.1 rfl
      intro e
      subst e
      rw [hs] at h2
      cases h2
    · exact hne
  refine wp_wr (q0 := k) (u2 := u) hk (fun ca ad => .inr (ci, ((List.range nf).map (zFv ad u (zrd x m) k)).set j (zc ad v))) (fun {p l e R s mi args below meth cc H locs cells slots QQ D A ad ca tys lsl} hx hb how ht hin w1 w2 w3 hS w4 s9 g => ?_) (fun ca ad => ?_) (fun ca ad k' hk' hne' => zEq.of ?_) (zwr_2000 (by omega) hw) (fun h5 h9 => zwr_rg eM h5 ?_) (fun h _ => h) (fun h => zOk_tl (zOk_tl h)) kk
  · exact va_put (D := D) (ci := ci) (v := zc ad v) (ty := zTf ci j) (C := (zCl ci).1) (T := (zCl ci).2.1) (N := (zCl ci).2.2) hx hb ht (zt_in ci hci) (zTf ci) (zt_ty ci hci) (zt_nm ci hci) how w1 w2 w3 hS k (by rw [zws_get hk, zE_obj hs]) (zt_vw ci hci) j (by omega) (ht _ hl) (fun _ h => h) hf (zt_ty ci hci j (by omega)) (hfit ad).1 (hfit ad).2 (by simpa using hj) hd g
  · rw [zE_obj hs]
    refine zEq.obj (fun i => ?_)
    rw [vpV_at, vpV_at, List.getElem?_set]
    by_cases hi : j = i
    · subst hi
      simp [hj, hfv ad]
    · simp only [if_neg hi, List.getElem?_map]
      by_cases h3 : i < nf
      · rw [List.getElem?_range h3]
        show zFv ad u (zrd x m) k i = zFv ad u (zrd x' m') k i
        rw [eM]
        have e2 : zupd (zrd x m) k (j : Int) z k (i : Int) = zrd x m k (i : Int) := by
          rw [zupd_eq, if_neg (fun q => hi (by omega))]
        unfold zFv
        rw [e2]
      · rw [List.getElem?_eq_none (by simp; omega)]
        rfl
  · rw [eM]
    exact zHome_ne (hne k' hk' hne')
  · have hz := zOk_hd h9
    unfold zRg zLg
    rw [hs]
    show (bif Nat.beq ((zTy ci).getD j 0) 1 then zLn z else zIn z)
    rcases hv with ⟨rfl, h | ⟨h, -⟩⟩ | ⟨rfl, h⟩ <;> rw [h] <;> exact hz
end ZM
end
section
/-! references set by constructors; arrays -/
section ZA
variable {d y pc n n' : Nat} {ls : List (Nat × zV)} {st : List zV} {u u' : List (Nat × Nat)} {x m : zM} {Q : Int → zM → zM → Prop} {a b z : Int}
/-- putfield of a reference, by a constructor -/
theorem wp_putref {idx k ci nf c j t : Nat} (hd : decode (zCb y) pc = .ok (.putfield idx, 3)) (hk : k < n) (hn : n ≤ 403) (hs : zSh k = (0, ci, nf, c)) (hj : j < nf) (hl : Cond.fieldLink (zOw y) idx ((zCl ci).2.1 j).1 ((zCl ci).2.1 j).2.1 ((zCl ci).2.1 j).2.2.1 ∈ zgood)
    (hf : ((zCl ci).2.1 j).2.2.2 = true) (hi : zIs y = true) (hdc : ((zCl ci).2.1 j).1 = zOw y) (hty : (zTy ci).getD j 0 = 2) (ht : (zRf k).getD j 0 = t) (kk : WP d y (pc + 3) ls st n (u.filter (fun q => !(q == (k, j)))) x m n' u' Q) : WP d y pc ls (zr t :: zr k :: st) n u x m n' u' Q := by
  have hT := zt_sh k (by omega) (by rw [hs])
  rw [hs] at hT
  have hci : ci < 13 := hT.1
  have hnf : nf = (zCl ci).2.2 := hT.2
  have hkd := zt_kd ci hci j (by omega)
  have hmem : ∀ q : Nat × Nat, q ∈ u.filter (fun q => !(q == (k, j))) ↔ q ∈ u ∧ q ≠ (k, j) := by
    intro q
    simp
  have hfit : ∀ ad : Nat → Nat, narrow (zTf ci j) (zc ad (zr t)) = zc ad (zr t) ∧ fits (zTf ci j) (zc ad (zr t)) = true := by
    intro ad
    generalize zTf ci j = ty at hkd
    rw [hty] at hkd
    cases ty <;> first | exact ⟨rfl, rfl⟩ | cases hkd
  have hoth : ∀ (ad : Nat → Nat) (k' i : Nat), (k', i) ≠ (k, j) → zFv ad u (zrd x m) k' i = zFv ad (u.filter (fun q => !(q == (k, j)))) (zrd x m) k' i := by
    intro ad k' i h
    unfold zFv
    split
    · rfl
    · by_cases h2 : (k', i) ∈ u
      · rw [if_pos h2, if_pos ((hmem _).mpr ⟨h2, h⟩)]
      · rw [if_neg h2, if_neg (fun q => h2 ((hmem _).mp q).1)]
    · rfl
  refine wp_wr (q0 := k) (u2 := u.filter (fun q => !(q == (k, j)))) (x' := x) (m' := m) hk (fun ca ad => .inr (ci, ((List.range nf).map (zFv ad u (zrd x m) k)).set j (zc ad (zr t)))) (fun {p l e R s mi args below meth cc H locs cells slots QQ D A ad ca tys lsl} hx hb how hts hin w1 w2 w3 hS w4 s9 g => ?_) (fun ca ad => ?_) (fun ca ad k' hk' hne' => zEq.of ?_) rfl (fun h5 h9 => h5) (fun hc h9 k' hk' => ⟨fun h0 j' hj' hm => ?_, (hc k' hk').2⟩) (fun h => zOk_tl (zOk_tl h)) kk
  · exact va_putF (D := D) (ci := ci) (v := zc ad (zr t)) (ty := zTf ci j) (C := (zCl ci).1) (T := (zCl ci).2.1) (N := (zCl ci).2.2) hx hb hts (zt_in ci hci) (zTf ci) (zt_ty ci hci) (zt_nm ci hci) how w1 w2 w3 hS k (by rw [zws_get hk, zE_obj hs]) (zt_vw ci hci) j (by omega) (hts _ hl) (fun _ h => h) hf (hin hi) hdc (zt_ty ci hci j (by omega)) (hfit ad).1 (hfit ad).2 (by simpa using hj) hd g
  · rw [zE_obj hs]
    refine zEq.obj (fun i => ?_)
    rw [vpV_at, vpV_at, List.getElem?_set]
    by_cases hi2 : j = i
    · subst hi2
      have e2 : zFv ad (u.filter (fun q => !(q == (k, j)))) (zrd x m) k j = zc ad (zr t) := by
        rw [zFv_ref (by rw [hs]) hty (fun q => ((hmem _).mp q).2 rfl), ht]
      simp [hj, e2]
    · simp only [if_neg hi2, List.getElem?_map]
      by_cases h3 : i < nf
      · rw [List.getElem?_range h3]
        show zFv ad u (zrd x m) k i = zFv ad _ (zrd x m) k i
        exact hoth ad k i (fun q => hi2 (by cases q; rfl))
      · rw [List.getElem?_eq_none (by simp; omega)]
        rfl
  · unfold zE
    split
    · refine congrArg _ (congrArg _ (List.map_congr_left (fun i _ => hoth ad k' i (fun q => hne' (by cases q; rfl)))))
    all_goals rfl
  · by_cases h : (k', j') = (k, j)
    · cases h
      rw [ht]
      rcases zOk_hd h9 with q | q
      · exact q
      · exfalso
        have := zt_rf k (by omega) j (by rw [hs]; exact hj)
        omega
    · exact (hc k' hk').1 h0 j' hj' (fun q => hm ((hmem _).mpr ⟨q, h⟩))
end ZA
/-- memories that differ at an array's own places alone -/
def zAt (kp : Nat) (off : Int) (len : Nat) (μ μ' : zM) : Prop := ∀ k i, ¬ (k = kp ∧ off ≤ i ∧ i < off + len) → μ' k i = μ k i
/-- where an array's components stand in the memory -/
def zAr (v : zV) (q0 kp : Nat) (off : Int) (len : Nat) (lg : Bool) : Prop :=
  (∀ ad, zc ad v = .ref (ad q0)) ∧ kp < 403 ∧ (zSh q0).1 ≠ 0 ∧ (∀ i, zLg kp i = lg) ∧ zEt q0 = (if lg then .long else .int) ∧
  (∀ (ca : Nat → ClassId) (ad : Nat → Nat) (u : List (Nat × Nat)) (μ : zM), zE ca ad u μ q0 = .inl (ca q0, len, if lg then .inr (.inl (fun j : Nat => Int64.ofInt (μ kp (off + j)))) else .inl (fun j : Nat => Int32.ofInt (μ kp (off + j))))) ∧
  (∀ q, q < 403 → q ≠ q0 → ∀ (ca : Nat → ClassId) (ad : Nat → Nat) (u : List (Nat × Nat)) (μ μ' : zM), zAt kp off len μ μ' → zEq (zE ca ad u μ q) (zE ca ad u μ' q))
theorem zAt_row {kp : Nat} {off : Int} {len : Nat} {μ μ' : zM} (h : zAt kp off len μ μ') {k : Nat} (hk : k ≠ kp) : μ k = μ' k := funext fun i => (h k i (fun q => hk q.1)).symm
theorem zAr_int {k len b c : Nat} (hk : k < 403) (hs : zSh k = (1, len, b, c)) : zAr (zr k) k k 0 len false := by
  refine ⟨fun _ => rfl, hk, fun q => by (rw [hs] at q; cases q), fun i => by (unfold zLg; rw [hs]; rfl), by unfold zEt; rw [hs]; rfl, fun ca ad u μ => ?_, fun q hq hne ca ad u μ μ' h => ?_⟩
  · unfold zE
    rw [hs]
    simp
  · by_cases h2 : zHome q = k
    · exfalso
      have h1 := zt_len q hq
      unfold zHome at h2
      generalize hs' : zSh q = s' at h1 h2
      obtain ⟨a1, b1, c1, d1⟩ := s'
      split at h2
      · rename_i o _ _ heq
        cases heq
        have h3 := (h1 (Or.inl rfl)).2.1 rfl
        subst h2
        rw [hs] at h3
        cases h3
      · rename_i o _ _ heq
        cases heq
        have h3 := (h1 (Or.inr rfl)).2.2.1 rfl
        subst h2
        rw [hs] at h3
        cases h3
      · exact hne h2
    · exact zEq.of (zE_congr (zAt_row h h2))
theorem zAr_long {k len b c : Nat} (hk : k < 403) (hs : zSh k = (2, len, b, c)) : zAr (zr k) k k 0 len true := by
  refine ⟨fun _ => rfl, hk, fun q => by (rw [hs] at q; cases q), fun i => by (unfold zLg; rw [hs]; rfl), by unfold zEt; rw [hs]; rfl, fun ca ad u μ => ?_, fun q hq hne ca ad u μ μ' h => ?_⟩
  · unfold zE
    rw [hs]
    simp
  · by_cases h2 : zHome q = k
    · exfalso
      have h1 := zt_len q hq
      unfold zHome at h2
      generalize hs' : zSh q = s' at h1 h2
      obtain ⟨a1, b1, c1, d1⟩ := s'
      split at h2
      · rename_i o _ _ heq
        cases heq
        have h3 := (h1 (Or.inl rfl)).2.1 rfl
        subst h2
        rw [hs] at h3
        cases h3
      · rename_i o _ _ heq
        cases heq
        have h3 := (h1 (Or.inr rfl)).2.2.1 rfl
        subst h2
        rw [hs] at h3
        cases h3
      · exact hne h2
    · exact zEq.of (zE_congr (zAt_row h h2))
theorem zrow_apart {i i' w j : Nat} (hne : i' ≠ i) (hj : j < w) : ¬ (((i : Int) * w ≤ (i' : Int) * w + j) ∧ ((i' : Int) * w + j < (i : Int) * w + w)) := by
  intro ⟨h1, h2⟩
  rcases Nat.lt_or_ge i' i with h | h
  · have : (i' + 1) * w ≤ i * w := Nat.mul_le_mul_right w h
    have h3 : ((i' : Int) + 1) * w ≤ (i : Int) * w := by exact_mod_cast this
    rw [Int.add_mul] at h3
    omega
  · have : (i + 1) * w ≤ i' * w := Nat.mul_le_mul_right w (by omega)
    have h3 : ((i : Int) + 1) * w ≤ (i' : Int) * w := by exact_mod_cast this
    rw [Int.add_mul] at h3
    omega
theorem zAr_rowi {o b nn w : Nat} {i : Int} (ho : o < 403) (hs : zSh o = (3, b, nn, w)) (hi : 0 ≤ i ∧ i < nn) : zAr (zw o i) (b + i.toNat) o (i * w) w false := by
  have hr := zt_row3 o ho (by rw [hs]) i.toNat (by rw [hs]; show _ < nn; omega)
  rw [hs] at hr
  obtain ⟨hr1, hr2⟩ := hr
  dsimp only at hr1 hr2
  have hii : ((i.toNat : Nat) : Int) = i := by omega
  refine ⟨fun ad => ?_, ho, fun q => by (rw [hr1] at q; cases q), fun i => by (unfold zLg; rw [hs]; rfl), by unfold zEt; rw [hr1]; rfl, fun ca ad u μ => ?_, fun q hq hne ca ad u μ μ' h => ?_⟩
  · show Value.ref (ad ((zSh o).2.1 + i.toNat)) = _
    rw [hs]
  · unfold zE
    rw [hr1]
    simp [hii]
  · by_cases h2 : zHome q = o
    · have h1 := zt_len q hq
      unfold zHome at h2
      generalize hs' : zSh q = s' at h1 h2
      obtain ⟨a1, b1, c1, d1⟩ := s'
      split at h2
      · rename_i o' c' d' heq
        cases heq
        subst h2
        obtain ⟨-, -, -, h5, h6, h7⟩ := h1 (Or.inl rfl)
        rw [hs] at h5 h6 h7
        dsimp only at h5 h6 h7
        subst h5
        unfold zE
        rw [hs']
        refine zEq.ints (fun j hj => congrArg _ ?_)
        refine (h _ _ (fun q => ?_)).symm
        have h8 := zrow_apart (i := i.toNat) (i' := c1) (w := d1) (j := j) (fun e => hne (by rw [h6, e])) hj
        rw [hii] at h8
        exact h8 ⟨q.2.1, q.2.2⟩
      · rename_i o' _ _ heq
        cases heq
        have h3 := (h1 (Or.inr rfl)).2.2.1 rfl
        subst h2
        rw [hs] at h3
        cases h3
      · subst h2
        unfold zE
        rw [hs]
        exact zEq.rf _
    · exact zEq.of (zE_congr (zAt_row h h2))
theorem zAr_rowl {o b nn w : Nat} {i : Int} (ho : o < 403) (hs : zSh o = (4, b, nn, w)) (hi : 0 ≤ i ∧ i < nn) : zAr (zw o i) (b + i.toNat) o (i * w) w true := by
  have hr := zt_row4 o ho (by rw [hs]) i.toNat (by rw [hs]; show _ < nn; omega)
  rw [hs] at hr
  obtain ⟨hr1, hr2⟩ := hr
  dsimp only at hr1 hr2
  have hii : ((i.toNat : Nat) : Int) = i := by omega
  refine ⟨fun ad => ?_, ho, fun q => by (rw [hr1] at q; cases q), fun i => by (unfold zLg; rw [hs]; rfl), by unfold zEt; rw [hr1]; rfl, fun ca ad u μ => ?_, fun q hq hne ca ad u μ μ' h => ?_⟩
  · show Value.ref (ad ((zSh o).2.1 + i.toNat)) = _
    rw [hs]
  · unfold zE
    rw [hr1]
    simp [hii]
  · by_cases h2 : zHome q = o
    · have h1 := zt_len q hq
      unfold zHome at h2
      generalize hs' : zSh q = s' at h1 h2
      obtain ⟨a1, b1, c1, d1⟩ := s'
      split at h2
      · rename_i o' _ _ heq
        cases heq
        have h3 := (h1 (Or.inl rfl)).2.1 rfl
        subst h2
        rw [hs] at h3
        cases h3
      · rename_i o' c' d' heq
        cases heq
        subst h2
        obtain ⟨-, -, -, h5, h6, h7⟩ := h1 (Or.inr rfl)
        rw [hs] at h5 h6 h7
        dsimp only at h5 h6 h7
        subst h5
        unfold zE
        rw [hs']
        refine zEq.longs (fun j hj => congrArg _ ?_)
        refine (h _ _ (fun q => ?_)).symm
        have h8 := zrow_apart (i := i.toNat) (i' := c1) (w := d1) (j := j) (fun e => hne (by rw [h6, e])) hj
        rw [hii] at h8
        exact h8 ⟨q.2.1, q.2.2⟩
      · subst h2
        unfold zE
        rw [hs]
        exact zEq.rf _
    · exact zEq.of (zE_congr (zAt_row h h2))
section ZB
variable {d y pc n n' : Nat} {ls : List (Nat × zV)} {st : List zV} {u u' : List (Nat × Nat)} {x m : zM} {Q : Int → zM → zM → Prop} {z i off : Int} {v : zV} {q0 kp len : Nat}
theorem zRg_i {μ : zM} {k : Nat} {i : Int} (h : zLg k i = false) (hr : ∀ k i, zRg k i (μ k i)) : zIn (μ k i) := by
  have := hr k i
  unfold zRg at this
  rw [h] at this
  exact this
theorem zRg_l {μ : zM} {k : Nat} {i : Int} (h : zLg k i = true) (hr : ∀ k i, zRg k i (μ k i)) : zLn (μ k i) := by
  have := hr k i
  unfold zRg at this
  rw [h] at this
  exact this
theorem wp_iald (hd : decode (zCb y) pc = .ok (.iaload, 1)) (hA : zAr v q0 kp off len false) (hq : q0 < n) (hi : 0 ≤ i ∧ i < len) (k : WP d y (pc + 1) ls (zi (zrd x m kp (off + i)) :: st) n u x m n' u' Q) : WP d y pc ls (zi i :: v :: st) n u x m n' u' Q := by
  obtain ⟨h1, h2, h3, h4, h5, h6, h7⟩ := hA
  refine wp_hp (fun {p l e R s mi args below meth cc H locs cells slots QQ D A ad ca tys lsl} hx hb how ht w1 w2 w4 s9 g => ?_) (fun _ h s9 => zOk_cons (v := zi _) (zRg_i (h4 _) h) (zOk_tl (zOk_tl s9))) k
  obtain ⟨t0, ht0⟩ := w4 q0 hq h3
  have hii : zIn i := zOk_hd s9
  rw [h5] at ht0
  show W _ _ _ _ _ _ _ _ _ _ _ _ _ _ _ (F0 mi pc lsl (.int (Int32.ofInt i) :: zc ad v :: st.map (zc ad)))
  rw [h1 ad]
  refine va_iald (n := len) (f := fun j : Nat => Int32.ofInt (zrd x m kp (off + j))) hx hb w1 w2 q0 t0 (by rw [zws_get hq, h6]; rfl) ht0 (zvp_in hii hi) hd ?_
  rw [z32_clamp hii hi.1]
  have e : ((i.toNat : Nat) : Int) = i := by omega
  simp only [e]
  exact g
theorem wp_lald (hd : decode (zCb y) pc = .ok (.laload, 1)) (hA : zAr v q0 kp off len true) (hq : q0 < n) (hi : 0 ≤ i ∧ i < len) (k : WP d y (pc + 1) ls (zl (zrd x m kp (off + i)) :: st) n u x m n' u' Q) : WP d y pc ls (zi i :: v :: st) n u x m n' u' Q := by
  obtain ⟨h1, h2, h3, h4, h5, h6, h7⟩ := hA
  refine wp_hp (fun {p l e R s mi args below meth cc H locs cells slots QQ D A ad ca tys lsl} hx hb how ht w1 w2 w4 s9 g => ?_) (fun _ h s9 => zOk_cons (v := zl _) (zRg_l (h4 _) h) (zOk_tl (zOk_tl s9))) k
  obtain ⟨t0, ht0⟩ := w4 q0 hq h3
  have hii : zIn i := zOk_hd s9
  rw [h5] at ht0
  show W _ _ _ _ _ _ _ _ _ _ _ _ _ _ _ (F0 mi pc lsl (.int (Int32.ofInt i) :: zc ad v :: st.map (zc ad)))
  rw [h1 ad]
  refine va_lald (n := len) (f := fun j : Nat => Int64.ofInt (zrd x m kp (off + j))) hx hb w1 w2 q0 t0 (by rw [zws_get hq, h6]; rfl) ht0 (zvp_in hii hi) hd ?_
  rw [z32_clamp hii hi.1]
  have e : ((i.toNat : Nat) : Int) = i := by omega
  simp only [e]
  exact g
theorem zAt_upd {μ : zM} (hi : 0 ≤ i ∧ i < len) : zAt kp off len μ (zupd μ kp (off + i) z) := by
  intro k j h
  unfold zupd
  rw [if_neg]
  intro ⟨h1, h2⟩
  exact h ⟨h1, by omega, by omega⟩
theorem wp_iast {x' m' : zM} (hd : decode (zCb y) pc = .ok (.iastore, 1)) (hA : zAr v q0 kp off len false) (hq : q0 < n) (hn : n ≤ 403) (hi : 0 ≤ i ∧ i < len) (hw : (Nat.ble kp 385 = true ∧ x' = zupd x kp (off + i) z ∧ m' = m) ∨ (Nat.ble kp 385 = false ∧ x' = x ∧ m' = zupd m kp (off + i) z))
    (k : WP d y (pc + 1) ls st n u x' m' n' u' Q) : WP d y pc ls (zi z :: zi i :: v :: st) n u x m n' u' Q := by
  obtain ⟨h1, h2, h3, h4, h5, h6, h7⟩ := hA
  have eM := zwr_row hw
  refine wp_wr (q0 := q0) (u2 := u) hq (fun ca ad => .inl (ca q0, len, .inl (upd (fun j : Nat => Int32.ofInt (zrd x m kp (off + j))) i.toNat (Int32.ofInt z)))) (fun {p l e R s mi args below meth cc H locs cells slots QQ D A ad ca tys lsl} hx hb how ht hin w1 w2 w3 hS w4 s9 g => ?_) (fun ca ad => ?_) (fun ca ad k' hk' hne' => by rw [eM]; exact h7 k' (by omega) hne' ca ad u _ _ (zAt_upd hi)) (zwr_2000 h2 hw) (fun h5 h9 => zwr_rg eM h5 (by unfold zRg; rw [h4]; exact zOk_hd h9)) (fun h _ => h) (fun h => zOk_tl (zOk_tl (zOk_tl h))) k
  · obtain ⟨t0, ht0⟩ := w4 q0 hq h3
    have hii : zIn i := zOk_hd (zOk_tl s9)
    rw [h5] at ht0
    show W _ _ _ _ _ _ _ _ _ _ _ _ _ _ _ (F0 mi pc lsl (.int (Int32.ofInt z) :: .int (Int32.ofInt i) :: zc ad v :: st.map (zc ad)))
    rw [h1 ad]
    refine va_iast (n := len) (f := fun j : Nat => Int32.ofInt (zrd x m kp (off + j))) hx hb w1 w2 w3 hS q0 t0 (by rw [zws_get hq, h6]; rfl) ht0 (zvp_in hii hi) hd ?_
    rw [z32_clamp hii hi.1]
    exact g
  · rw [h6, eM]
    refine zEq.ints (fun j hj => ?_)
    by_cases e : j = i.toNat
    · subst e
      have e2 : ((i.toNat : Nat) : Int) = i := by omega
      simp [upd, zupd, e2]
    · have e2 : (j : Int) ≠ i := by omega
      simp [upd, zupd, e, e2]
theorem wp_last {x' m' : zM} (hd : decode (zCb y) pc = .ok (.lastore, 1)) (hA : zAr v q0 kp off len true) (hq : q0 < n) (hn : n ≤ 403) (hi : 0 ≤ i ∧ i < len) (hw : (Nat.ble kp 385 = true ∧ x' = zupd x kp (off + i) z ∧ m' = m) ∨ (Nat.ble kp 385 = false ∧ x' = x ∧ m' = zupd m kp (off + i) z))
    (k : WP d y (pc + 1) ls st n u x' m' n' u' Q) : WP d y pc ls (zl z :: zi i :: v :: st) n u x m n' u' Q := by
  obtain ⟨h1, h2, h3, h4, h5, h6, h7⟩ := hA
  have eM := zwr_row hw
  refine wp_wr (q0 := q0) (u2 := u) hq (fun ca ad => .inl (ca q0, len, .inr (.inl (vp_updL (fun j : Nat => Int64.ofInt (zrd x m kp (off + j))) i.toNat (Int64.ofInt z))))) (fun {p l e R s mi args below meth cc H locs cells slots QQ D A ad ca tys lsl} hx hb how ht hin w1 w2 w3 hS w4 s9 g => ?_) (fun ca ad => ?_) (fun ca ad k' hk' hne' => by rw [eM]; exact h7 k' (by omega) hne' ca ad u _ _ (zAt_upd hi)) (zwr_2000 h2 hw) (fun h5 h9 => zwr_rg eM h5 (by unfold zRg; rw [h4]; exact zOk_hd h9)) (fun h _ => h) (fun h => zOk_tl (zOk_tl (zOk_tl h))) k
  · obtain ⟨t0, ht0⟩ := w4 q0 hq h3
    have hii : zIn i := zOk_hd (zOk_tl s9)
    rw [h5] at ht0
    show W _ _ _ _ _ _ _ _ _ _ _ _ _ _ _ (F0 mi pc lsl (.long (Int64.ofInt z) :: .int (Int32.ofInt i) :: zc ad v :: st.map (zc ad)))
    rw [h1 ad]
    refine va_last (n := len) (f := fun j : Nat => Int64.ofInt (zrd x m kp (off + j))) hx hb w1 w2 w3 hS q0 t0 (by rw [zws_get hq, h6]; rfl) ht0 (zvp_in hii hi) hd ?_
    rw [z32_clamp hii hi.1]
    exact g
  · rw [h6, eM]
    refine zEq.longs (fun j hj => ?_)
    by_cases e : j = i.toNat
    · subst e
      have e2 : ((i.toNat : Nat) : Int) = i := by omega
      simp [vp_updL, zupd, e2]
    · have e2 : (j : Int) ≠ i := by omega
      simp [vp_updL, zupd, e, e2]
end ZB
end
section
/-! rows of rows, what nobody writes, returns -/
section ZC
variable {d y pc n n' : Nat} {ls : List (Nat × zV)} {st : List zV} {u u' : List (Nat × Nat)} {x m : zM} {Q : Int → zM → zM → Prop} {z i off : Int} {v : zV} {q0 kp len : Nat}
theorem wp_aald {o b nn w : Nat} (hd : decode (zCb y) pc = .ok (.aaload, 1)) (ho : o < n) (hn : n ≤ 403) (hs : zSh o = (3, b, nn, w) ∨ zSh o = (4, b, nn, w)) (hi : 0 ≤ i ∧ i < nn) (k : WP d y (pc + 1) ls (zw o i :: st) n u x m n' u' Q) : WP d y pc ls (zi i :: zr o :: st) n u x m n' u' Q := by
  have hb2 : (zSh o).2.1 = b ∧ (zSh o).2.2.1 = nn := by rcases hs with hs | hs <;> rw [hs] <;> exact ⟨rfl, rfl⟩
  refine wp_hp (fun {p l e R s mi args below meth cc H locs cells slots QQ D A ad ca tys lsl} hx hb how ht w1 w2 w4 s9 g => ?_) (fun hc h s9 => zOk_cons (v := zw o i) (show 0 ≤ i ∧ i < ((zSh o).2.2.1 : Int) ∧ (zSh o).2.1 + i.toNat < n by
    have h9 := (hc o ho).2 (by rcases hs with hs | hs <;> rw [hs] <;> simp)
    rw [hb2.2, hb2.1] at h9 ⊢; exact ⟨hi.1, hi.2, by omega⟩) (zOk_tl (zOk_tl s9))) k
  obtain ⟨t0, ht0⟩ := w4 o ho (by rcases hs with hs | hs <;> rw [hs] <;> exact fun q => by cases q)
  have hii : zIn i := zOk_hd s9
  have hE : zE ca ad u (zrd x m) o = .inl (ca o, nn, .inr (.inr (.inr (.inr (fun i => if i < nn then some (ad (b + i)) else none))))) := by
    unfold zE
    rcases hs with hs | hs <;> simp only [hs]
  have hat := w2 o _ (zws_get ho)
  rw [hE] at hat
  have hlt : i.toNat < nn := by omega
  have hv : va_rf ((fun i => if i < nn then some (ad (b + i)) else none) (Int32.ofInt i).toNatClampNeg) = .ref (ad (b + i.toNat)) := by
    show va_rf (if _ then _ else none) = _
    rw [z32_clamp hii hi.1, if_pos hlt]
    rfl
  have hin : vp_in (Int32.ofInt i) nn := zvp_in hii hi
  have hg : W p l e R s mi args below meth cc H locs cells slots QQ (F0 mi (pc + 1) lsl (.ref (ad (b + i.toNat)) :: st.map (zc ad))) := by
    have g2 : W p l e R s mi args below meth cc H locs cells slots QQ (F0 mi (pc + 1) lsl (.ref (ad ((zSh o).2.1 + i.toNat)) :: st.map (zc ad))) := g
    rwa [hb2.1] at g2
  have hty : ∃ ty : FieldType, zEt o = ty ∧ ty.isReference = true := by
    unfold zEt
    rcases hs with hs | hs <;> rw [hs] <;> exact ⟨_, rfl, rfl⟩
  obtain ⟨ty, h1, h2⟩ := hty
  rw [h1] at ht0
  exact W.aald (v := .ref (ad (b + i.toNat))) (ty := ty) hx hb hat ((w1.2 t0 _ ht0).1 nn (fun j => va_rf (if j < nn then some (ad (b + j)) else none))) h2 (fun q => by cases q) (by show ¬ (_ ∨ (arrV _ _ _).slots.size ≤ _); rw [arrV_size]; exact hin) (by
    show (arrV _ _ _).slots[_]? = _
    rw [arrV_read _ _ (by rw [z32_clamp hii hi.1]; exact hlt)]
    exact congrArg some hv) rfl rfl hd hg
/-- the context taken apart, for what nobody writes -/
theorem wp_ro {pc' : Nat} {st' : List zV} (hr : ∀ {p : Program} {l : Launch} {e : Env} {R : Room} {s : State} {mi : MethodId} {args : Array Value} {below : List Frame} {meth : Method} {c : Code} {H : Heap} {locs : List Loc} {cells slots : Nat} {QQ : State → Prop} {A : Nat → Prop} {ad : Nat → Nat} {lsl : Array Slot}, p.tables.exec = Jvm.exec → c.code = zCb y → s.vm.findClass (zOw y) = some mi.cls → (∀ w ∈ zgood, w.before args s = true) →
      va_S A s.heap H locs → zRO s A ad (m 2000) → (∀ v ∈ st, zOk n v) → 
      W p l e R s mi args below meth c H locs cells slots QQ (F0 mi pc' lsl (st'.map (zc ad))) → W p l e R s mi args below meth c H locs cells slots QQ (F0 mi pc lsl (st.map (zc ad))))
    (ok : (∀ i, zIn (m 2000 i)) → (∀ v ∈ st, zOk n v) → ∀ v ∈ st', zOk n v) (k : WP d y pc' ls st' n u x m n' u' Q) : WP d y pc ls st n u x m n' u' Q := by
  intro p l e R s mi args below meth c QQ D A sc ro ad0 n0 E H locs ad lsl S
  obtain ⟨⟨hx, hb, -, -, ho, ht, -⟩, -, -, hro, -⟩ := id E
  obtain ⟨s1, s2, s3, s4, s5, s6, s7, s8, s9⟩ := id S
  have hro2 : zRO s A ad (m 2000) := by
    unfold zRO at hro ⊢
    rw [s3, s5 2000 (by omega), s5 2001 (by omega), s5 2002 (by omega), s5 2003 (by omega)]
    exact hro
  exact hr (A := A) hx hb ho ht s2 hro2 s9 (k p l e R s mi args below meth c QQ D A sc ro ad0 n0 E H locs ad lsl ⟨s1, s2, s3, s4, s5, s6, s7, s8, ok hro2.2.1 s9⟩)
theorem wp_sld (hd : decode (zCb y) pc = .ok (.iaload, 1)) (hi : 0 ≤ i ∧ i < m 2000 (-1)) (k : WP d y (pc + 1) ls (zi (m 2000 i) :: st) n u x m n' u' Q) : WP d y pc ls (zi i :: zr 2000 :: st) n u x m n' u' Q := by
  refine wp_ro (fun {p l e R s mi args below meth cc H locs cells slots QQ A ad lsl} hx hb how ht hS hro s9 g => ?_) (fun h s9 => zOk_cons (v := zi _) (h i) (zOk_tl (zOk_tl s9))) k
  obtain ⟨⟨L, h1, h2, hX, hl, hA⟩, -⟩ := hro
  have hii : zIn i := zOk_hd s9
  rw [h2] at hi
  refine va_sld (i := Int32.ofInt i) hx hb hX hl hA hS (zvp_in hii hi) hd ?_
  rw [z32_clamp hii hi.1]
  have e : ((i.toNat : Nat) : Int) = i := by omega
  simp only [e]
  exact g
theorem wp_slen (hd : decode (zCb y) pc = .ok (.arraylength, 1)) (k : WP d y (pc + 1) ls (zi (m 2000 (-1)) :: st) n u x m n' u' Q) : WP d y pc ls (zr 2000 :: st) n u x m n' u' Q := by
  refine wp_ro (fun {p l e R s mi args below meth cc H locs cells slots QQ A ad lsl} hx hb how ht hS hro s9 g => ?_) (fun h s9 => zOk_cons (v := zi _) (h _) (zOk_tl s9)) k
  obtain ⟨⟨L, h1, h2, hX, hl, hA⟩, -⟩ := hro
  refine va_slen hx hb hX hl hA hS hd ?_
  have e : Int32.ofNat L = Int32.ofInt (m 2000 (-1)) := by
    rw [h2]
    apply Int32.toInt_inj.mp
    rw [z32_to ⟨by omega, by omega⟩]
    exact Int32.toInt_ofNat_of_lt (by omega)
  rw [e]
  exact g
def zUi (i : Int) : Int := if i = 0 then -1 else if i = 4 then 3 else if i = 5 then 2 else 0
def zOi (i : Int) : Int := if i = 0 then 1 else if i = 1 then 5000 else if i = 2 then 10 else if i = 3 then 20 else if i = 4 then 50 else 0
theorem z6 {i : Int} (h : 0 ≤ i ∧ i < 6) : i = 0 ∨ i = 1 ∨ i = 2 ∨ i = 3 ∨ i = 4 ∨ i = 5 := by omega
theorem wp_uld (hd : decode (zCb y) pc = .ok (.iaload, 1)) (hi : 0 ≤ i ∧ i < 6) (k : WP d y (pc + 1) ls (zi (zUi i) :: st) n u x m n' u' Q) : WP d y pc ls (zi i :: zr 2001 :: st) n u x m n' u' Q := by
  refine wp_ro (fun {p l e R s mi args below meth cc H locs cells slots QQ A ad lsl} hx hb how ht hS hro s9 g => ?_) (fun h s9 => zOk_cons (v := zi _) (by rcases z6 hi with rfl | rfl | rfl | rfl | rfl | rfl <;> exact ⟨by decide, by decide⟩) (zOk_tl (zOk_tl s9))) k
  obtain ⟨-, -, ⟨hZ, hT⟩, -⟩ := hro
  have hii : zIn i := zOk_hd s9
  refine va_ti (i := Int32.ofInt i) hx hb hT hS (zvp_in hii hi) (v := .int (Int32.ofInt (zUi i))) ?_ hd g
  rw [z32_clamp hii hi.1]
  rcases z6 hi with rfl | rfl | rfl | rfl | rfl | rfl <;> rfl
theorem wp_old (hd : decode (zCb y) pc = .ok (.iaload, 1)) (hi : 0 ≤ i ∧ i < 6) (k : WP d y (pc + 1) ls (zi (zOi i) :: st) n u x m n' u' Q) : WP d y pc ls (zi i :: zr 2002 :: st) n u x m n' u' Q := by
  refine wp_ro (fun {p l e R s mi args below meth cc H locs cells slots QQ A ad lsl} hx hb how ht hS hro s9 g => ?_) (fun h s9 => zOk_cons (v := zi _) (by rcases z6 hi with rfl | rfl | rfl | rfl | rfl | rfl <;> exact ⟨by decide, by decide⟩) (zOk_tl (zOk_tl s9))) k
  obtain ⟨-, -, -, ⟨hZ, hT⟩, -⟩ := hro
  have hii : zIn i := zOk_hd s9
  refine va_ti (i := Int32.ofInt i) hx hb hT hS (zvp_in hii hi) (v := .int (Int32.ofInt (zOi i))) ?_ hd g
  rw [z32_clamp hii hi.1]
  rcases z6 hi with rfl | rfl | rfl | rfl | rfl | rfl <;> rfl
/-- a static array's name -/
def zSn (t : Nat) : String := if t = 2001 then "UNDER" else "OTHERWISE"
theorem wp_getstatic {idx t : Nat} (hd : decode (zCb y) pc = .ok (.getstatic idx, 3)) (ht : t = 2001 ∨ t = 2002) (hl : (zOw y, idx, zSn t) ∈ zNF) (k : WP d y (pc + 3) ls (zr t :: st) n u x m n' u' Q) : WP d y pc ls st n u x m n' u' Q := by
  refine wp_ro (fun {p l e R s mi args below meth cc H locs cells slots QQ A ad lsl} hx hb how hts hS hro s9 g => ?_) (fun h s9 => zOk_cons (v := zr t) (Or.inr (by omega)) s9) k
  obtain ⟨-, -, ⟨hZ, hT⟩, ⟨hZ2, hT2⟩, -, -, -, -, -, -, -, hN⟩ := hro
  have hl2 := (hN _ hl).use rfl (A := args)
  rcases ht with rfl | rfl
  · exact va_getsN hx hb hZ hS how hl2 (fun _ h => h) hd g
  · exact va_getsN hx hb hZ2 hS how hl2 (fun _ h => h) hd g
-- returns
theorem wp_ret {r : Int} (hd : decode (zCb y) pc = .ok (zRi y, 1)) (hst : ∀ ad : Nat → Nat, st.map (zc ad) = zRs y r) (hok : (∀ v ∈ st, zOk n v) → zRok y r) (hn : n = n') (hu : u = u') (hq : Q r x m) : WP d y pc ls st n u x m n' u' Q := by
  intro p l e R s mi args below meth c QQ D A sc ro ad0 n0 E H locs ad lsl S
  obtain ⟨-, -, -, -, hret⟩ := E
  obtain ⟨s1, s2, s3, s4, s5, s6, s7, s8, s9⟩ := id S
  subst hn; subst hu
  rw [hst ad]
  exact hret H locs ad x m lsl pc r hd s1 s2 s3 s4 s5 (hok s9) hq
theorem wp_weak {Q' : Int → zM → zM → Prop} (h : WP d y pc ls st n u x m n' u' Q) (hq : ∀ r x m, Q r x m → Q' r x m) : WP d y pc ls st n u x m n' u' Q' := by
  intro p l e R s mi args below meth c QQ D A sc ro ad0 n0 E H locs ad lsl S
  obtain ⟨e1, e2, e3, e4, hret⟩ := E
  exact h p l e R s mi args below meth c QQ D A sc ro ad0 n0 ⟨e1, e2, e3, e4, fun H locs ad x m lsl pc r g1 g2 g3 g4 g5 g6 g7 g8 => hret H locs ad x m lsl pc r g1 g2 g3 g4 g5 g6 g7 (hq _ _ _ g8)⟩ H locs ad lsl S
/-- fewer locals -/
theorem wp_drop {ls' : List (Nat × zV)} (hl : ∀ q ∈ ls', q ∈ ls) (k : WP d y pc ls' st n u x m n' u' Q) : WP d y pc ls st n u x m n' u' Q := by
  intro p l e R s mi args below meth c QQ D A sc ro ad0 n0 E H locs ad lsl S
  obtain ⟨s1, s2, s3, s4, s5, s6, ⟨h1, h2, h3⟩, s8, s9⟩ := id S
  refine k p l e R s mi args below meth c QQ D A sc ro ad0 n0 E H locs ad lsl ⟨s1, s2, s3, s4, s5, s6, ⟨h1, h2, fun q hq => ?_⟩, fun q hq => s8 q (hl q hq), s9⟩
  obtain ⟨q2, h4, rfl⟩ := List.mem_map.mp hq
  exact h3 _ (List.mem_map.mpr ⟨q2, hl q2 h4, rfl⟩)
end ZC
end
section
/-! calls -/
theorem zW.moved {u0 U : State} {A : Nat → Prop} {D : va_G} {n : Nat} {u : List (Nat × Nat)} {ad : Nat → Nat} {x m : zM} {H : Heap} (hvm : u0.vm.Alike U.vm) (h : zW u0 A D n u ad x m H) : zW U A D n u ad x m H := by
  obtain ⟨ca, tys, w1, w2, w3, w4, w5, w6⟩ := h
  exact ⟨ca, tys, va_K.moved hvm w1, w2, w3, w4, w5, w6⟩
theorem zW.weaken {U : State} {A B : Nat → Prop} {D : va_G} {n : Nat} {u : List (Nat × Nat)} {ad : Nat → Nat} {x m : zM} {H : Heap} (h : zW U A D n u ad x m H) (hAB : ∀ q, A q → B q) : zW U B D n u ad x m H := by
  obtain ⟨ca, tys, w1, w2, w3, w4, w5, w6⟩ := h
  exact ⟨ca, tys, w1, w2, w3.weaken (fun _ _ _ h => hAB _ h), w4, w5, w6⟩
theorem zW.own {U : State} {A : Nat → Prop} {D : va_G} {n : Nat} {u : List (Nat × Nat)} {ad : Nat → Nat} {x m : zM} {H : Heap} (h : zW U A D n u ad x m H) (sz : Nat) : zW U (zA ad n sz) D n u ad x m H := by
  obtain ⟨ca, tys, w1, w2, w3, w4, w5, w6⟩ := h
  refine ⟨ca, tys, w1, w2, ⟨w3.1, fun k q hq => ?_⟩, w4, w5, w6⟩
  obtain ⟨hk, rfl⟩ := zws_get_inv hq
  exact Or.inl ⟨k, hk, rfl⟩
theorem zW.inA {U : State} {A : Nat → Prop} {D : va_G} {n : Nat} {u : List (Nat × Nat)} {ad : Nat → Nat} {x m : zM} {H : Heap} (h : zW U A D n u ad x m H) {k : Nat} (hk : k < n) : A (ad k) := by
  obtain ⟨ca, tys, w1, w2, w3, w4, w5, w6⟩ := h
  exact w3.2 k _ (zws_get hk)
theorem zA_in {U : State} {A : Nat → Prop} {D : va_G} {n : Nat} {u : List (Nat × Nat)} {ad : Nat → Nat} {x m : zM} {H : Heap} {sz : Nat} (h : zW U A D n u ad x m H) (hA : ∀ q, sz ≤ q → A q) : ∀ q, zA ad n sz q → A q := by
  intro q hq
  rcases hq with ⟨k, hk, rfl⟩ | hq
  · exact h.inA hk
  · exact hA q hq
theorem va_Zq.go {C n d : String} {A B : Nat → Prop} {s U : State} {H : Heap} (h : va_Zq C n d A s s.heap) (hq : ∀ a : Nat, a < s.heap.size → ¬ A a → H[a]? = s.heap[a]?) (hW : s.vm.Alike U.vm) (hAB : ∀ q, B q → A q) : va_Zq C n d B U H := by
  rcases h with h | ⟨t, h⟩
  · exact Or.inl (va_Z.moved hW ((h.kept hq).narrow hAB))
  · exact Or.inr ⟨t, va_Z.moved hW ((h.kept hq).narrow hAB)⟩
theorem zRO.go0 {s U : State} {A B : Nat → Prop} {ro : Nat → Nat} {sc : Int → Int} {H : Heap} {locs : List Loc} (h : zRO s A ro sc) (hS : va_S A s.heap H locs) (hW : s.vm.Alike U.vm) (hR : ∀ a, vk_R "CommonBond$Reader" 97 zText a s → vk_R "CommonBond$Reader" 97 zText a U) (hN1 : ∀ q : String × Nat × MethodName, va_Nw (.methodLinkNest q.1 q.2.1 q.2.2 "CommonBond") s → va_Nw (.methodLinkNest q.1 q.2.1 q.2.2 "CommonBond") U) (hN2 : ∀ q : String × Nat × String, va_Nw (.fieldLinkNest q.1 q.2.1 "CommonBond" q.2.2 "[I" "CommonBond") s → va_Nw (.fieldLinkNest q.1 q.2.1 "CommonBond" q.2.2 "[I" "CommonBond") U) (hU : U.heap = H) (hAB : ∀ q, B q → A q) : zRO U B ro sc := by
  obtain ⟨⟨L, h1, h2, h3, h4, h5⟩, h6, ⟨h7, h8⟩, ⟨h9, h10⟩, g1, g2, g3, ⟨av, g4⟩, g5, g6, g7, g8⟩ := h
  subst hU
  have hq : ∀ a : Nat, a < s.heap.size → ¬ A a → U.heap[a]? = s.heap[a]? := fun a g1 g2 => hS.2.1 a g1 g2
  exact ⟨⟨L, h1, h2, va_X.moved hW (h3.kept (hq _ h4 h5)), Nat.lt_of_lt_of_le h4 hS.1, fun q => h5 (hAB _ q)⟩, h6, ⟨va_Z.moved hW ((h7.kept hq).narrow hAB), va_T.moved hW ((h8.kept hq).narrow hAB)⟩, ⟨va_Z.moved hW ((h9.kept hq).narrow hAB), va_T.moved hW ((h10.kept hq).narrow hAB)⟩, g1.moved hW, g2.moved hW, hR _ g3, ⟨av, vk_S.moved hW ((g4.kept hq).narrow hAB)⟩, va_Z.moved hW ((g5.kept hq).narrow hAB), g6.go hq hW hAB, fun q hq => hN1 q (g7 q hq), fun q hq => hN2 q (g8 q hq)⟩
theorem zRO.go {s U : State} {A B : Nat → Prop} {ro : Nat → Nat} {sc : Int → Int} {H : Heap} {locs : List Loc} (h : zRO s A ro sc) (hS : va_S A s.heap H locs) (hW : s.WarmedH U.vm) (hU : U.heap = H) (hAB : ∀ q, B q → A q) : zRO U B ro sc := h.go0 hS hW.alike (fun _ q => q.warm hW) (fun _ q => va_Nw.warmM hW q) (fun _ q => va_Nw.warmF hW q) hU hAB
theorem zRO.same {s U : State} {A : Nat → Prop} {ro : Nat → Nat} {sc : Int → Int} (h : zRO s A ro sc) (hv : U.vm = s.vm) (hU : U.heap = s.heap) : zRO U A ro sc := h.go0 (va_S.rf) (by rw [hv]; exact Vm.Alike.refl _) (fun _ q => vk_R.same hv q) (fun _ q => va_Nw.same rfl hv.symm q) (fun _ q => va_Nw.same rfl hv.symm q) hU (fun _ h => h)
/-- what comes back on the stack -/
def zPush (y : Nat) (r : Int) (st : List zV) : List zV := match zKd y with
  | 0 => st
  | 2 => zl r :: st
  | _ => zi r :: st
theorem zgoodIn : GoodIn lw_tbl zgood := fun w hw => ⟨(List.mem_filter.mp hw).1, good_of_word (List.mem_filter.mp hw).2⟩
theorem zgood_all {ws : List Cond} (h : ∀ w ∈ ws, w ∈ zgood) : GoodIn zgood ws := fun w hw => ⟨h w hw, good_of_word (List.mem_filter.mp (h w hw)).2⟩
theorem zPc_blind {as : List zV} {n : Nat} {u : List (Nat × Nat)} {x m : zM} {D : va_G} {ad : Nat → Nat} {sc : Int → Int} {sz : Nat} : FrameBlind (zPc as n u x m D ad sc sz) := by
  intro a U g mk q
  obtain ⟨q0, q1, qW, qR⟩ := q
  exact ⟨q0, q1, zW.moved (U := U.calling g mk a) (Vm.Alike.refl U.vm) qW, qR.same (U := U.calling g mk a) rfl rfl⟩
theorem zc_same {ad ad' : Nat → Nat} {n : Nat} (h1 : ∀ k, k < n → ad' k = ad k) (h2 : ∀ k, 2000 ≤ k → ad' k = ad k) {v : zV} (hv : zOk n v) : zc ad' v = zc ad v := by
  rcases v with a | a | a | ⟨o, i⟩
  · rfl
  · rfl
  · show Value.ref _ = Value.ref _
    rcases hv with h | h
    · rw [h1 a h]
    · rw [h2 a h]
  · show Value.ref _ = Value.ref _
    rw [h1 _ hv.2.2]
theorem zOk_mono {n n2 : Nat} (h : n ≤ n2) {v : zV} (hv : zOk n v) : zOk n2 v := by
  rcases v with a | a | a | ⟨o, i⟩
  · exact hv
  · exact hv
  · exact hv.imp (fun q => Nat.lt_of_lt_of_le q h) id
  · exact ⟨hv.1, hv.2.1, Nat.lt_of_lt_of_le hv.2.2 h⟩
theorem zSl_mono {a b : Nat} (h : a ≤ b) : zSl a ≤ zSl b := by
  induction b with
  | zero => rw [Nat.le_zero.mp h]; exact Nat.le_refl _
  | succ b ih =>
    rcases Nat.lt_or_ge b a with q | q
    · rw [show a = b + 1 by omega]; exact Nat.le_refl _
    · exact Nat.le_trans (ih q) (Nat.le_add_right _ _)
theorem zMap_same {ad ad' : Nat → Nat} {n : Nat} (h1 : ∀ k, k < n → ad' k = ad k) (h2 : ∀ k, 2000 ≤ k → ad' k = ad k) {ls : List (Nat × zV)} (hv : ∀ q ∈ ls, zOk n q.2) : zMap ad' ls = zMap ad ls := by
  apply List.map_congr_left
  intro q hq
  rw [zc_same h1 h2 (hv q hq)]
theorem zmap_same {ad ad' : Nat → Nat} {n : Nat} (h1 : ∀ k, k < n → ad' k = ad k) (h2 : ∀ k, 2000 ≤ k → ad' k = ad k) {st : List zV} (hv : ∀ q ∈ st, zOk n q) : st.map (zc ad') = st.map (zc ad) := by
  apply List.map_congr_left
  intro q hq
  rw [zc_same h1 h2 (hv q hq)]
section ZD
variable {d y pc n n' n2 : Nat} {ls : List (Nat × zV)} {st : List zV} {u u' u2 : List (Nat × Nat)} {x m : zM} {Q Q' : Int → zM → zM → Prop}
/-- behind a call's run -/
theorem zafter {y' : Nat} {p : Program} {l : Launch} {e : Env} {R : Room} {s : State} {mi : MethodId} {args : Array Value} {below : List Frame} {meth : Method} {c : Code} {QQ : State → Prop} {D : va_G} {A : Nat → Prop} {sc : Int → Int} {ro ad0 : Nat → Nat} {n0 : Nat} (E : zEnv d y n' u' Q p l e R s mi args below meth c QQ D A sc ro ad0 n0) {H : Heap} {locs : List Loc} {ad : Nat → Nat} {lsl : Array Slot} {rest : List zV}
    (S : zSt y n' s A D sc ro ad0 n0 n u ad x m H locs ls st lsl) (hrest : ∀ v ∈ rest, v ∈ st) (hn2 : n ≤ n2 ∧ n2 ≤ n') {st0 : List Value} {a : Array Value}
    (hr : va_Run p l e R s mi args below meth c H locs (n - n0) (zSl n - zSl n0) (n2 - n) (zSl n2 - zSl n) (F0 mi pc lsl st0) (rest.map (zc ad)) (zQc y' n n2 u2 Q' D ad sc H.size a) (zA ad n H.size))
    (kk : ∀ r x' m', zRok y' r → Q' r x' m' → WP d y (pc + 3) ls (zPush y' r rest) n2 u2 x' m' n' u' Q) : W p l e R s mi args below meth c H locs (n - n0) (zSl n - zSl n0) QQ (F0 mi pc lsl st0) := by
  obtain ⟨s1, s2, s3, s4, s5, ⟨s6, s6b, s6c⟩, s7, s8, s9⟩ := id S
  obtain ⟨-, -, hA, -⟩ := id E
  have hAA : ∀ q, zA ad n H.size q → A q := zA_in s1 (fun q hq => hA q (Nat.le_trans s2.1 hq))
  have e1 : n - n0 + (n2 - n) = n2 - n0 := by omega
  have e2 : zSl n - zSl n0 + (zSl n2 - zSl n) = zSl n2 - zSl n0 := by
    have h1 := zSl_mono s6
    have h2 := zSl_mono hn2.1
    omega
  have fin : ∀ (w : zS3) (t : State) (r : Int) (H1 : Heap) (locs1 : List Loc), t.heap = H1 → s.vm.Alike t.vm → zRok y' r → Q' r w.2.1 w.2.2 → zB D n n2 u2 ad sc H.size w t → va_S A s.heap H1 locs1 → (zRok y' r → ∀ v ∈ zPush y' r rest, zOk n2 v) →
      W p l e R s mi args below meth c H1 locs1 (n2 - n0) (zSl n2 - zSl n0) QQ (F0 mi (pc + 3) lsl ((zPush y' r rest).map (zc w.1))) := by
    intro w t r H1 locs1 ht hvm hr1 hq hB hS1 hok
    obtain ⟨b1, b2, b3, b4⟩ := hB
    rw [ht] at b1
    refine kk r w.2.1 w.2.2 hr1 hq p l e R s mi args below meth c QQ D A sc ro ad0 n0 E H1 locs1 w.1 lsl ⟨(b1.moved hvm.symm).weaken hAA, hS1, b2, fun k hk => (b3 k (Nat.lt_of_lt_of_le hk s6)).trans (s4 k hk), fun k hk => (b4 k hk).trans (s5 k hk), ⟨Nat.le_trans s6 hn2.1, hn2.2, s6c⟩, ?_, fun q hq => zOk_mono hn2.1 (s8 q hq), hok hr1⟩
    show lv_has lsl (zMl y) (zMap w.1 ls)
    rw [zMap_same b3 b4 s8]
    exact s7
  have hrs : ∀ v ∈ rest, zOk n v := fun v hv => s9 v (hrest v hv)
  unfold zQc at hr
  cases hkd : zKd y' with
  | zero =>
    rw [hkd] at hr
    refine va_callv hr s2 (fun q _ h => hAA q h) hAA (fun w t H1 locs1 ht hvm hq hB hz hk hS1 => ?_)
    rw [e1, e2]
    have g := fin w t 0 H1 locs1 ht hvm (by unfold zRok; rw [hkd]; trivial) hq hB hS1 (fun _ => by unfold zPush; rw [hkd]; exact fun v hv => zOk_mono hn2.1 (hrs v hv))
    have hzp0 : zPush y' 0 rest = rest := by (unfold zPush; rw [hkd]; rfl)
    rw [hzp0] at g
    rw [zmap_same hB.2.2.1 hB.2.2.2 hrs] at g
    exact g
  | succ j =>
    rw [hkd] at hr
    by_cases h2 : j = 1
    · subst h2
      refine va_calll hr s2 (fun q _ h => hAA q h) hAA (fun r w t H1 locs1 ht hvm hq hB hz hk hS1 => ?_)
      obtain ⟨z, rfl, hz1, hz2⟩ := hq
      rw [e1, e2]
      have g := fin w t z H1 locs1 ht hvm hz1 hz2 hB hS1 (fun hz1 => by unfold zPush; rw [hkd]; unfold zRok at hz1; rw [hkd] at hz1; exact zOk_cons (v := zl z) hz1 (fun v hv => zOk_mono hn2.1 (hrs v hv)))
      have hzp0 : zPush y' z rest = zl z :: rest := by (unfold zPush; rw [hkd]; rfl)
      rw [hzp0] at g
      rw [List.map_cons] at g
      rw [zmap_same hB.2.2.1 hB.2.2.2 hrs] at g
      exact g
    · have hj : ∀ {α : Type 1} (a b c : α), (match (j + 1 : Nat) with | 0 => a | 2 => b | _ => c) = c := by
        intro α a b c
        match j, h2 with
        | 0, _ => rfl
        | 1, h => exact absurd rfl h
        | j + 2, _ => rfl
      have hzp : ∀ z : Int, zPush y' z rest = zi z :: rest := by
        intro z
        unfold zPush
        rw [hkd]
        match j, h2 with
        | 0, _ => rfl
        | 1, h => exact absurd rfl h
        | j + 2, _ => rfl
      have hrk : ∀ z : Int, zRok y' z → zIn z := by
        intro z hz
        unfold zRok at hz
        rw [hkd] at hz
        match j, h2, hz with
        | 0, _, hz => exact hz
        | 1, h, _ => exact absurd rfl h
        | 2, _, hz => rcases hz with rfl | rfl <;> exact ⟨by decide, by decide⟩
        | j + 3, _, hz => exact hz
      have hr2 : va_Run p l e R s mi args below meth c H locs (n - n0) (zSl n - zSl n0) (n2 - n) (zSl n2 - zSl n) (F0 mi pc lsl st0) (rest.map (zc ad)) (va_Qi (fun r (w : zS3) => ∃ z, r = Int32.ofInt z ∧ zRok y' z ∧ Q' z w.2.1 w.2.2) (zB D n n2 u2 ad sc H.size) (zA ad n H.size) a) (zA ad n H.size) := by
        match j, h2, hr with
        | 0, _, hr => exact hr
        | 1, h, _ => exact absurd rfl h
        | j + 2, _, hr => exact hr
      refine va_calli hr2 s2 (fun q _ h => hAA q h) hAA (fun r w t H1 locs1 ht hvm hq hB hz hk hS1 => ?_)
      obtain ⟨z, rfl, hz1, hz2⟩ := hq
      rw [e1, e2]
      have g := fin w t z H1 locs1 ht hvm hz1 hz2 hB hS1 (fun hz1 => by rw [hzp]; exact zOk_cons (v := zi z) (hrk z hz1) (fun v hv => zOk_mono hn2.1 (hrs v hv)))
      rw [hzp] at g
      rw [List.map_cons] at g
      rw [zmap_same hB.2.2.1 hB.2.2.2 hrs] at g
      exact g
/-- what a call needs of the tables -/
def zCk (y y' np : Nat) : Prop := zNm y' = zNm y' ∧ (zNm y').cls ≠ "java/lang/invoke/MethodHandle" ∧ (zNm y').cls ≠ "java/lang/invoke/VarHandle" ∧ (parseMethodDescriptor (zNm y').desc).map (fun d => d.parameters.length) = some np ∧ zMl y' ≤ 40
theorem zRoomOf {dd d : Nat} {R : Room} {ml : Nat} (h : dd + 1 ≤ d) (h1 : d ≤ R.frames) (h2 : 64 * d ≤ R.locals) (h3 : ml ≤ 40) : dd + 1 ≤ R.frames ∧ 8 + (ml + 11) + 64 * dd ≤ R.locals := by omega
theorem zMap_size {lsl : Array Slot} {nL : Nat} {l : List (Nat × Value)} (h : lv_has lsl nL l) : lsl.size = nL := h.1
theorem wp_callV {dd idx y' b ci nf c np : Nat} {as rest : List zV} (hd : decode (zCb y) pc = .ok (.invokevirtual idx, 3)) (hk : zCk y y' np) (hb : b < n) (hn : n ≤ 403) (hs : zSh b = (0, ci, nf, c)) (hC : (zCl ci).1 = (zNm y').cls)
    (hw : ∀ w ∈ wsV (zOw y) idx (zNm y').cls (zNm y') (zWs y'), w ∈ zgood) (has : as.length = np) (hrm : (rest.map zcat).sum ≤ 8) (hdd : dd + 1 ≤ d) (hn2 : n ≤ n2 ∧ n2 ≤ n') (hn3 : n2 ≤ 403)
    (hc : WPc dd y' (zr b :: as) n u x m n2 u2 Q') (kk : ∀ r x' m', zRok y' r → Q' r x' m' → WP d y (pc + 3) ls (zPush y' r rest) n2 u2 x' m' n' u' Q) : WP d y pc ls (as.reverse ++ zr b :: rest) n u x m n' u' Q := by
  intro p l e R s mi args below meth cc QQ D A sc ro ad0 n0 E H locs ad lsl S
  obtain ⟨⟨hx, hb2, -, hml, hown, hts, -⟩, ⟨r1, r2, r3, r4⟩, hA, hro, -⟩ := id E
  obtain ⟨s1, s2, s3, s4, s5, ⟨s6, s6b, s6c⟩, s7, s8, s9⟩ := id S
  have hAA : ∀ q, zA ad n H.size q → A q := zA_in s1 (fun q hq => hA q (Nat.le_trans s2.1 hq))
  have hro2 : zRO s A ad sc := by
    unfold zRO at hro ⊢
    rw [s5 2000 (by omega), s5 2001 (by omega), s5 2002 (by omega), s5 2003 (by omega)]
    exact hro
  have hM := hc (fun v hv => by
    rcases List.mem_cons.mp hv with rfl | hv
    · exact Or.inl hb
    · exact s9 v (List.mem_append_left _ (List.mem_reverse.mpr hv))) hn2.1 hn3 l D ad H.size
  rw [s3] at hM
  have hT := zt_sh b (by omega) (by rw [hs])
  rw [hs] at hT
  have hci : ci < 13 := hT.1
  have hst : (as.reverse ++ zr b :: rest).map (zc ad) = (as.map (zc ad)).reverse ++ Value.ref (ad b) :: rest.map (zc ad) := by simp [zc]
  rw [hst]
  refine zafter (y' := y') (Q' := Q') (u2 := u2) E S (fun v hv => List.mem_append_right _ (List.mem_cons_of_mem _ hv)) hn2 (a := (Value.ref (ad b) :: as.map (zc ad)).toArray) ?_ kk
  obtain ⟨ca, tys, w1, w2, w3, w4, w5⟩ := id s1
  refine va_runV (As := as.map (zc ad)) (rest := rest.map (zc ad)) ⟨hx, hb2, hml, hown, hts⟩ hM (cwV np hts (zgood_all hw) rfl rfl rfl ⟨rfl, hk.2.1, hk.2.2.1, hk.2.2.2.1⟩ (zRoomOf hdd r1 r2 hk.2.2.2.2)) ⟨zPc_blind, ?_, fun U hU hW => ⟨rfl, by rw [hU], by rw [hU]; exact (s1.moved hW.alike).weaken (fun _ _ => trivial), hro2.go s2 hW hU hAA⟩⟩ rfl (by rw [List.length_map]; exact has) (zMap_size s7) rfl (lv_room (by rw [List.map_map]; exact Nat.le_trans (Nat.le_of_eq (congrArg List.sum (List.map_congr_left (fun v _ => zcat_eq ad v)))) hrm)) hd ?_
  · have := va_recv w1 w2 (ci := ci) (q0 := b) (zt_vw ci hci) (by rw [zws_get hb, zE_obj hs])
    rw [hC] at this
    exact this
  · have h1 := zSl_mono s6
    have h2 := zSl_mono hn2.1
    have h3 := zSl_mono hn2.2
    exact ⟨by omega, by omega⟩
theorem wp_callS {dd idx y' np : Nat} {as rest : List zV} (hd : decode (zCb y) pc = .ok (.invokestatic idx, 3)) (hk : zCk y y' np) (hn : n ≤ 403)
    (hw : ∀ w ∈ va_wsS (zOw y) idx (zNm y') (zWs y'), w ∈ zgood) (has : as.length = np) (hrm : (rest.map zcat).sum ≤ 8) (hdd : dd + 1 ≤ d) (hn2 : n ≤ n2 ∧ n2 ≤ n') (hn3 : n2 ≤ 403)
    (hc : WPc dd y' as n u x m n2 u2 Q') (kk : ∀ r x' m', zRok y' r → Q' r x' m' → WP d y (pc + 3) ls (zPush y' r rest) n2 u2 x' m' n' u' Q) : WP d y pc ls (as.reverse ++ rest) n u x m n' u' Q := by
  intro p l e R s mi args below meth cc QQ D A sc ro ad0 n0 E H locs ad lsl S
  obtain ⟨⟨hx, hb2, -, hml, hown, hts, -⟩, ⟨r1, r2, r3, r4⟩, hA, hro, -⟩ := id E
  obtain ⟨s1, s2, s3, s4, s5, ⟨s6, s6b, s6c⟩, s7, s8, s9⟩ := id S
  have hAA : ∀ q, zA ad n H.size q → A q := zA_in s1 (fun q hq => hA q (Nat.le_trans s2.1 hq))
  have hro2 : zRO s A ad sc := by
    unfold zRO at hro ⊢
    rw [s5 2000 (by omega), s5 2001 (by omega), s5 2002 (by omega), s5 2003 (by omega)]
    exact hro
  have hM := hc (fun v hv => s9 v (List.mem_append_left _ (List.mem_reverse.mpr hv))) hn2.1 hn3 l D ad H.size
  rw [s3] at hM
  have hst : (as.reverse ++ rest).map (zc ad) = (as.map (zc ad)).reverse ++ rest.map (zc ad) := by simp
  rw [hst]
  refine zafter (y' := y') (Q' := Q') (u2 := u2) E S (fun v hv => List.mem_append_right _ hv) hn2 (a := (as.map (zc ad)).toArray) ?_ kk
  refine va_runS (As := as.map (zc ad)) (rest := rest.map (zc ad)) ⟨hx, hb2, hml, hown, hts⟩ hM (va_cwS np hts (zgood_all hw) rfl rfl rfl ⟨hk.2.1, hk.2.2.1, hk.2.2.2.1⟩ (zRoomOf hdd r1 r2 hk.2.2.2.2)) ⟨zPc_blind, fun U hU hW => ⟨rfl, by rw [hU], by rw [hU]; exact (s1.moved hW.alike).weaken (fun _ _ => trivial), hro2.go s2 hW hU hAA⟩⟩ rfl (by rw [List.length_map]; exact has) (zMap_size s7) rfl (lv_room (by rw [List.map_map]; exact Nat.le_trans (Nat.le_of_eq (congrArg List.sum (List.map_congr_left (fun v _ => zcat_eq ad v)))) hrm)) hd ?_
  have h1 := zSl_mono s6
  have h2 := zSl_mono hn2.1
  have h3 := zSl_mono hn2.2
  exact ⟨by omega, by omega⟩
/-- the words of a constructor's call: its own class's, or a nest mate's -/
def zwI (y y' : Nat) : List Cond := Cond.instanceMethod (zNm y') :: Cond.initialized (zNm y').cls :: zWs y'
theorem wp_callI {nest : Bool} {dd idx y' b np : Nat} {as rest : List zV} (hd : decode (zCb y) pc = .ok (.invokespecial idx, 3)) (hk : zCk y y' np) (hb : b < n) (hn : n ≤ 403) (hi : (zNm y').name = "<init>") (hkd : zKd y' = 0)
    (hlk : if nest then (zOw y, idx, zNm y') ∈ zNM else Cond.methodLink (zOw y) idx (zNm y') ∈ zgood) (hw : ∀ w ∈ zwI y y', w ∈ zgood) (has : as.length = np) (hrm : (rest.map zcat).sum ≤ 8) (hdd : dd + 1 ≤ d) (hn2 : n ≤ n2 ∧ n2 ≤ n') (hn3 : n2 ≤ 403)
    (hc : WPc dd y' (zr b :: as) n u x m n2 u2 Q') (kk : ∀ r x' m', Q' r x' m' → WP d y (pc + 3) ls rest n2 u2 x' m' n' u' Q) : WP d y pc ls (as.reverse ++ zr b :: rest) n u x m n' u' Q := by
  intro p l e R s mi args below meth cc QQ D A sc ro ad0 n0 E H locs ad lsl S
  obtain ⟨⟨hx, hb2, -, hml, hown, hts, -⟩, ⟨r1, r2, r3, r4⟩, hA, hro, -⟩ := id E
  obtain ⟨s1, s2, s3, s4, s5, ⟨s6, s6b, s6c⟩, s7, s8, s9⟩ := id S
  have hAA : ∀ q, zA ad n H.size q → A q := zA_in s1 (fun q hq => hA q (Nat.le_trans s2.1 hq))
  have hro2 : zRO s A ad sc := by
    unfold zRO at hro ⊢
    rw [s5 2000 (by omega), s5 2001 (by omega), s5 2002 (by omega), s5 2003 (by omega)]
    exact hro
  have hM := hc (fun v hv => by
    rcases List.mem_cons.mp hv with rfl | hv
    · exact Or.inl hb
    · exact s9 v (List.mem_append_left _ (List.mem_reverse.mpr hv))) hn2.1 hn3 l D ad H.size
  rw [s3] at hM
  have hst : (as.reverse ++ zr b :: rest).map (zc ad) = (as.map (zc ad)).reverse ++ Value.ref (ad b) :: rest.map (zc ad) := by simp [zc]
  rw [hst]
  have hzp : ∀ r, zPush y' r rest = rest := fun r => by (unfold zPush; rw [hkd]; rfl)
  refine zafter (y' := y') (Q' := Q') (u2 := u2) E S (fun v hv => List.mem_append_right _ (List.mem_cons_of_mem _ hv)) hn2 (a := (Value.ref (ad b) :: as.map (zc ad)).toArray) ?_ (fun r x' m' _ hq => by rw [hzp]; exact kk r x' m' hq)
  have hret : zRt y' = none := by (unfold zRt; rw [hkd]; rfl)
  have hf : n - n0 + (n2 - n) ≤ R.cells ∧ zSl n - zSl n0 + (zSl n2 - zSl n) ≤ R.slots := by
    have h1 := zSl_mono s6
    have h2 := zSl_mono hn2.1
    have h3 := zSl_mono hn2.2
    exact ⟨by omega, by omega⟩
  have hwy : ∀ w ∈ zWs y', w ∈ zgood := fun w h => hw w (List.mem_cons_of_mem _ (List.mem_cons_of_mem _ h))
  have hini := hts _ (hw (Cond.initialized (zNm y').cls) (List.mem_cons_of_mem _ List.mem_cons_self))
  have hinst := hts _ (hw (Cond.instanceMethod (zNm y')) List.mem_cons_self)
  have hws : zWs y' = Cond.code (zNm y') (zCb y') (zMl y') none :: zgood := by unfold zWs; rw [hret]
  cases nest with
  | false =>
    have hl := hts _ (show Cond.methodLink (zOw y) idx (zNm y') ∈ zgood from hlk)
    exact va_runI (As := as.map (zc ad)) (rest := rest.map (zc ad)) ⟨hx, hb2, hml, hown, hts⟩ hM (cwI np hts (zgood_all hwy) hws rfl rfl hini hl hinst hi ⟨hk.2.1, hk.2.2.1, hk.2.2.2.1⟩ (zRoomOf hdd r1 r2 hk.2.2.2.2)) ⟨zPc_blind, fun U hU hW => ⟨rfl, by rw [hU], by rw [hU]; exact (s1.moved hW.alike).weaken (fun _ _ => trivial), hro2.go s2 hW hU hAA⟩⟩ rfl (by rw [List.length_map]; exact has) (zMap_size s7) rfl (lv_room (by rw [List.map_map]; exact Nat.le_trans (Nat.le_of_eq (congrArg List.sum (List.map_congr_left (fun v _ => zcat_eq ad v)))) hrm)) hd hf
  | true =>
    have hl : va_Nw (.methodLinkNest (zOw y) idx (zNm y') "CommonBond") s := hro.2.2.2.2.2.2.2.2.2.2.1 _ (show (zOw y, idx, zNm y') ∈ zNM from hlk)
    exact va_runIN (As := as.map (zc ad)) (rest := rest.map (zc ad)) ⟨hx, hb2, hml, hown, hts⟩ hM ⟨va_cnB np hts (zgood_all hwy) hws rfl rfl hl hini ⟨hk.2.1, hk.2.2.1, hk.2.2.2.1⟩ (zRoomOf hdd r1 r2 hk.2.2.2.2), hi, hinst⟩ ⟨zPc_blind, fun U hU hW => ⟨rfl, by rw [hU], by rw [hU]; exact (s1.moved hW.alike).weaken (fun _ _ => trivial), hro2.go s2 hW hU hAA⟩⟩ rfl (by rw [List.length_map]; exact has) (zMap_size s7) rfl (lv_room (by rw [List.map_map]; exact Nat.le_trans (Nat.le_of_eq (congrArg List.sum (List.map_congr_left (fun v _ => zcat_eq ad v)))) hrm)) hd hf
end ZD
end
section
/-! a method's contract out of its walk; the JDK's Math and System.arraycopy; what constructors make -/
def zLa : Nat → List zV → List (Nat × zV)
  | _, [] => []
  | i, v :: vs => (i, v) :: zLa (if Nat.beq (zcat v) 2 then i + 2 else i + 1) vs
theorem zLa_map (ad : Nat → Nat) (as : List zV) : ∀ i, zMap ad (zLa i as) = lv_args i (as.map (zc ad)) := by
  induction as with
  | nil => intro i; rfl
  | cons v vs ih =>
    intro i
    have e : (if Nat.beq (zcat v) 2 then i + 2 else i + 1) = (if (zc ad v).category = 2 then i + 2 else i + 1) := by
      rw [zcat_eq]
      by_cases h : zcat v = 2
      · rw [if_pos h, if_pos (Nat.beq_eq ▸ h)]
      · rw [if_neg h, if_neg (fun q => h (Nat.eq_of_beq_eq_true q))]
    show (i, zc ad v) :: zMap ad (zLa _ vs) = (i, zc ad v) :: lv_args _ (vs.map (zc ad))
    rw [ih, e]
theorem zLa_ok {n : Nat} {as : List zV} (h : ∀ v ∈ as, zOk n v) : ∀ i, ∀ q ∈ zLa i as, zOk n q.2 := by
  induction as with
  | nil => intro i q hq; cases hq
  | cons v vs ih =>
    intro i q hq
    rcases List.mem_cons.mp hq with rfl | hq
    · exact zOk_hd h
    · exact ih (zOk_tl h) _ q hq
theorem zsl_len (ad : Nat → Nat) (as : List zV) : (lg_sl (as.map (zc ad))).length = (as.map zcat).sum := by
  induction as with
  | nil => rfl
  | cons v vs ih =>
    have e : lg_sl ((v :: vs).map (zc ad)) = (if (zc ad v).category = 2 then [Slot.val (zc ad v), Slot.second] else [Slot.val (zc ad v)]) ++ lg_sl (vs.map (zc ad)) := rfl
    rw [e, List.length_append, ih, zcat_eq]
    rcases v with a | a | a | ⟨o, i⟩ <;> rfl
theorem WPc_of {d y n n' : Nat} {as : List zV} {u u' : List (Nat × Nat)} {x m : zM} {Q : Int → zM → zM → Prop} (hl : (as.map zcat).sum ≤ zMl y) (hy : plainName (zNm y).cls = true) (hc : (zNm y).cls = zOw y) (hin : zIs y = true → (zNm y).name = "<init>") (h : (∀ v ∈ as, zOk n v) → WP d y 0 (zLa 0 as) [] n u x m n' u' Q) : WPc d y as n u x m n' u' Q := by
  intro hok hnn hn3 l D ad sz
  refine Met.ofW (cc := zCb y) (maxL := zMl y) (ret := zRt y) hy rfl ?_
  intro p e s mi args below meth c s₁ B hml hv
  obtain ⟨rfl, hsz, hW, hRO⟩ := hv
  subst hsz
  have hts := atoms_spec (ws := zWs y) B.pre
  have hown : s.vm.findClass (zOw y) = some mi.cls := by rw [← hc]; exact findClass_of_methodNamed B.named
  have hctx : zCtx y p s mi (as.map (zc ad)).toArray meth c := ⟨B.exec, B.bytes, B.returns, hml, hown, fun w hw => hts w (List.mem_cons_of_mem _ hw), B.notSynchronized, fun hi => (name_of_methodNamed B.named B.method).1.trans (hin hi)⟩
  have E : zEnv d y n' u' Q p l e { frames := d, cells := n' - n, slots := zSl n' - zSl n, locals := 64 * d } s mi (as.map (zc ad)).toArray below meth c (MQ below (zQc y n n' u' Q D ad (m 2000) s.heap.size) (as.map (zc ad)).toArray s (n' - n) (zSl n' - zSl n) (zA ad n s.heap.size)) D (zA ad n s.heap.size) (m 2000) ad ad n := by
    refine ⟨hctx, ⟨Nat.le_refl _, Nat.le_refl _, Nat.le_refl _, Nat.le_refl _⟩, fun q hq => Or.inr hq, hRO, ?_⟩
    intro H locs ad' x' m' lsl pc r hd w1 w2 w3 w4 w5 w6 w7
    have hB : ∀ t : State, t.heap = H → s.WarmedH t.vm → zB D n n' u' ad (m 2000) s.heap.size (ad', x', m') t := by
      intro t ht hWm
      exact ⟨by rw [ht]; exact w1.moved hWm.alike, w3, w4, w5⟩
    have hF : ∀ t : State, t.heap = H → va_F (zA ad n s.heap.size) s t := fun t ht => w2.F ht
    have hr := B.returns
    cases hk : zKd y with
    | zero =>
      have e1 : zRi y = .return_ := by (unfold zRi; rw [hk]; rfl)
      have e2 : zRs y r = [] := by (unfold zRs; rw [hk]; rfl)
      have e3 : zRt y = none := by (unfold zRt; rw [hk]; rfl)
      rw [e1] at hd; rw [e2]; rw [e3] at hr
      refine W.vret B.exec B.bytes hr (fun t ht hWm => ?_) w2.2.2 hd
      have e4 : r = 0 := by
        unfold zRok at w6
        rw [hk] at w6
        exact w6
      subst e4
      have e5 : ∀ a s o t, zQc y n n' u' Q D ad (m 2000) s.heap.size a s o t = va_Qv (fun w : zS3 => Q 0 w.2.1 w.2.2) (zB D n n' u' ad (m 2000) s.heap.size) (zA ad n s.heap.size) a s o t := by
        intro a s o t
        unfold zQc
        rw [hk]
        rfl
      rw [e5]
      exact ⟨⟨(ad', x', m'), rfl, w7, hB t ht hWm⟩, hF t ht⟩
    | succ j =>
      by_cases h2 : j = 1
      · subst h2
        have e1 : zRi y = .lreturn := by (unfold zRi; rw [hk]; rfl)
        have e2 : zRs y r = [.long (Int64.ofInt r)] := by (unfold zRs; rw [hk]; rfl)
        have e3 : zRt y = some .long := by (unfold zRt; rw [hk]; rfl)
        rw [e1] at hd; rw [e2]; rw [e3] at hr
        refine W.lret B.exec B.bytes hr (fun t ht hWm => ?_) w2.2.2 hd
        have e5 : ∀ a s o t, zQc y n n' u' Q D ad (m 2000) s.heap.size a s o t = va_Ql (fun r (w : zS3) => ∃ z, r = Int64.ofInt z ∧ zRok y z ∧ Q z w.2.1 w.2.2) (zB D n n' u' ad (m 2000) s.heap.size) (zA ad n s.heap.size) a s o t := by
          intro a s o t
          unfold zQc
          rw [hk]
          rfl
        rw [e5]
        exact ⟨⟨_, (ad', x', m'), rfl, ⟨r, rfl, w6, w7⟩, hB t ht hWm⟩, hF t ht⟩
      · have e1 : zRi y = .ireturn := by
          unfold zRi
          rw [hk]
          match j, h2 with
          | 0, _ => rfl
          | 1, h => exact absurd rfl h
          | j + 2, _ => rfl
        have e2 : zRs y r = [.int (Int32.ofInt r)] := by
          unfold zRs
          rw [hk]
          match j, h2 with
          | 0, _ => rfl
          | 1, h => exact absurd rfl h
          | j + 2, _ => rfl
        have e5 : ∀ a s o t, zQc y n n' u' Q D ad (m 2000) s.heap.size a s o t = va_Qi (fun r (w : zS3) => ∃ z, r = Int32.ofInt z ∧ zRok y z ∧ Q z w.2.1 w.2.2) (zB D n n' u' ad (m 2000) s.heap.size) (zA ad n s.heap.size) a s o t := by
          intro a s o t
          unfold zQc
          rw [hk]
          match j, h2 with
          | 0, _ => rfl
          | 1, h => exact absurd rfl h
          | j + 2, _ => rfl
        have hz : ∀ t : State, t.heap = H → s.WarmedH t.vm → zQc y n n' u' Q D ad (m 2000) s.heap.size (as.map (zc ad)).toArray s (.returned (some (.int (Int32.ofInt r)))) t := by
          intro t ht hWm
          rw [e5]
          exact ⟨⟨_, (ad', x', m'), rfl, ⟨r, rfl, w6, w7⟩, hB t ht hWm⟩, hF t ht⟩
        rw [e1] at hd; rw [e2]
        by_cases h3 : j = 2
        · subst h3
          have e3 : zRt y = some .boolean := by (unfold zRt; rw [hk]; rfl)
          rw [e3] at hr
          have h01 : r = 0 ∨ r = 1 := by
            unfold zRok at w6
            rw [hk] at w6
            exact w6
          exact W.zret B.exec B.bytes hr (by rcases h01 with rfl | rfl <;> rfl) hz w2.2.2 hd
        · have e3 : zRt y = some .int := by
            unfold zRt
            rw [hk]
            match j, h2, h3 with
            | 0, _, _ => rfl
            | 1, h, _ => exact absurd rfl h
            | 2, _, h => exact absurd rfl h
            | j + 3, _, _ => rfl
          rw [e3] at hr
          exact W.iret B.exec B.bytes hr hz w2.2.2 hd
  have hlv := lv_entry (as.map (zc ad)) (n := zMl y) (by rw [zsl_len]; exact hl)
  rw [lg_entry_eq]
  generalize (lg_sl (as.map (zc ad)) ++ List.replicate (zMl y - (lg_sl (as.map (zc ad))).length) Slot.unset).toArray = ls at hlv ⊢
  have g := h hok p l e _ s mi _ below meth c _ D _ _ _ _ _ E s.heap [] ad ls ⟨hW.own _, va_S.rf, rfl, fun _ _ => rfl, fun _ _ => rfl, ⟨Nat.le_refl _, hnn, hn3⟩, by
    show lv_has ls (zMl y) (zMap ad (zLa 0 as))
    rw [zLa_map]
    exact hlv, zLa_ok hok 0, fun v hv => by cases hv⟩
  simp only [Nat.sub_self] at g
  exact g
end
section
/-! Math.max, Math.min, System.arraycopy; new cells -/
def zmx (a b : Int) : Int := if a < b then b else a
def zmn (a b : Int) : Int := if b < a then b else a
theorem zmx_in {a b : Int} (ha : zIn a) (hb : zIn b) : zIn (zmx a b) := by unfold zmx; split <;> assumption
theorem zmn_in {a b : Int} (ha : zIn a) (hb : zIn b) : zIn (zmn a b) := by unfold zmn; split <;> assumption
section ZE2
variable {d y pc n n' : Nat} {ls : List (Nat × zV)} {st : List zV} {u u' : List (Nat × Nat)} {x m : zM} {Q : Int → zM → zM → Prop} {a b z i off : Int} {v : zV}
def zwMax (y idx : Nat) : List Cond := [Cond.methodLink (zOw y) idx Lib.Math.max.name, Cond.static Lib.Math.max.name, Cond.initialized "java/lang/Math", Cond.code Lib.Math.max.name Lib.Math.max.code 2 (some .int)]
def zwMin (y idx : Nat) : List Cond := [Cond.methodLink (zOw y) idx Lib.Math.min.name, Cond.static Lib.Math.min.name, Cond.initialized "java/lang/Math", Cond.code Lib.Math.min.name Lib.Math.min.code 2 (some .int)]
def zwCpy (y idx : Nat) : List Cond := [Cond.methodLink (zOw y) idx arraycopyName, Cond.native arraycopyName, Cond.static arraycopyName, Cond.initialized "java/lang/System"]
/-- the context with its room -/
theorem wp_rm {pc' : Nat} {st' : List zV} (hr : ∀ {p : Program} {l : Launch} {e : Env} {R : Room} {s : State} {mi : MethodId} {args : Array Value} {below : List Frame} {meth : Method} {c : Code} {H : Heap} {locs : List Loc} {cells slots : Nat} {QQ : State → Prop} {ad : Nat → Nat} {lsl : Array Slot}, p.tables.exec = Jvm.exec → c.code = zCb y → c.maxLocals = lsl.size → s.vm.findClass (zOw y) = some mi.cls → (∀ w ∈ zgood, w.before args s = true) → d ≤ R.frames → 64 * d ≤ R.locals → cells ≤ R.cells → slots ≤ R.slots → (∀ v ∈ st, zOk n v) →
      W p l e R s mi args below meth c H locs cells slots QQ (F0 mi pc' lsl (st'.map (zc ad))) → W p l e R s mi args below meth c H locs cells slots QQ (F0 mi pc lsl (st.map (zc ad))))
    (ok : (∀ v ∈ st, zOk n v) → ∀ v ∈ st', zOk n v) (k : WP d y pc' ls st' n u x m n' u' Q) : WP d y pc ls st n u x m n' u' Q := by
  intro p l e R s mi args below meth c QQ D A sc ro ad0 n0 E H locs ad lsl S
  obtain ⟨⟨hx, hb, -, hml, ho, ht, -⟩, ⟨r1, r2, r3, r4⟩, -⟩ := id E
  obtain ⟨s1, s2, s3, s4, s5, ⟨s6, s6b, s6c⟩, s7, s8, s9⟩ := id S
  have h1 := zSl_mono s6b
  exact hr hx hb (hml.trans s7.1.symm) ho ht r1 r2 (by omega) (by omega) s9 (k p l e R s mi args below meth c QQ D A sc ro ad0 n0 E H locs ad lsl ⟨s1, s2, s3, s4, s5, ⟨s6, s6b, s6c⟩, s7, s8, ok s9⟩)
theorem zsum_le {ad : Nat → Nat} {st : List zV} (h : (st.map zcat).sum ≤ 8) : ((st.map (zc ad)).map fun v => v.category).sum ≤ 8 := by
  rw [List.map_map]
  exact Nat.le_trans (Nat.le_of_eq (congrArg List.sum (List.map_congr_left (fun v _ => zcat_eq ad v)))) h
theorem wp_max {idx : Nat} (hd : decode (zCb y) pc = .ok (.invokestatic idx, 3)) (hw : ∀ w ∈ zwMax y idx, w ∈ zgood) (hdd : 1 ≤ d) (hrm : (st.map zcat).sum ≤ 8) (k : WP d y (pc + 3) ls (zi (zmx a b) :: st) n u x m n' u' Q) : WP d y pc ls (zi b :: zi a :: st) n u x m n' u' Q := by
  refine wp_rm (fun {p l e R s mi args below meth cc H locs cells slots QQ ad lsl} hx hb hml how ht r1 r2 r3 r4 s9 g => ?_) (fun h => zOk_cons (v := zi _) (zmx_in (zOk_hd (zOk_tl h)) (zOk_hd h)) (zOk_tl (zOk_tl h))) k
  have hs := zsum_le (ad := ad) hrm
  refine va_mmax hx hb hml how (ht _ (hw _ (List.mem_of_getElem? (i := 0) rfl))) (ht _ (hw _ (List.mem_of_getElem? (i := 1) rfl))) (ht _ (hw _ (List.mem_of_getElem? (i := 2) rfl))) (ht _ (hw _ (List.mem_of_getElem? (i := 3) rfl))) (by omega) (by omega) r3 r4 hd ?_
  have e : (if Int32.ofInt a < Int32.ofInt b then Int32.ofInt b else Int32.ofInt a) = Int32.ofInt (zmx a b) := by
    unfold zmx
    have := z32_lt (a := a) (b := b) (zOk_hd (zOk_tl s9)) (zOk_hd s9)
    by_cases h : a < b
    · rw [if_pos h, if_pos (this.mpr h)]
    · rw [if_neg h, if_neg (fun q => h (this.mp q))]
  rw [e]
  exact g
theorem wp_min {idx : Nat} (hd : decode (zCb y) pc = .ok (.invokestatic idx, 3)) (hw : ∀ w ∈ zwMin y idx, w ∈ zgood) (hdd : 1 ≤ d) (hrm : (st.map zcat).sum ≤ 8) (k : WP d y (pc + 3) ls (zi (zmn a b) :: st) n u x m n' u' Q) : WP d y pc ls (zi b :: zi a :: st) n u x m n' u' Q := by
  refine wp_rm (fun {p l e R s mi args below meth cc H locs cells slots QQ ad lsl} hx hb hml how ht r1 r2 r3 r4 s9 g => ?_) (fun h => zOk_cons (v := zi _) (zmn_in (zOk_hd (zOk_tl h)) (zOk_hd h)) (zOk_tl (zOk_tl h))) k
  have hs := zsum_le (ad := ad) hrm
  refine va_mmin hx hb hml how (ht _ (hw _ (List.mem_of_getElem? (i := 0) rfl))) (ht _ (hw _ (List.mem_of_getElem? (i := 1) rfl))) (ht _ (hw _ (List.mem_of_getElem? (i := 2) rfl))) (ht _ (hw _ (List.mem_of_getElem? (i := 3) rfl))) (by omega) (by omega) r3 r4 hd ?_
  have e : (if Int32.ofInt b < Int32.ofInt a then Int32.ofInt b else Int32.ofInt a) = Int32.ofInt (zmn a b) := by
    unfold zmn
    have := z32_lt (a := b) (b := a) (zOk_hd s9) (zOk_hd (zOk_tl s9))
    by_cases h : b < a
    · rw [if_pos h, if_pos (this.mpr h)]
    · rw [if_neg h, if_neg (fun q => h (this.mp q))]
  rw [e]
  exact g
def zwObj (y idx : Nat) : List Cond := [Cond.methodLink (zOw y) idx Lib.objectInit, Cond.instanceMethod Lib.objectInit, Cond.code Lib.objectInit ⟨#[0xb1]⟩ 1 none]
theorem wp_objinit {idx k0 : Nat} (hd : decode (zCb y) pc = .ok (.invokespecial idx, 3)) (hw : ∀ w ∈ zwObj y idx, w ∈ zgood) (hdd : 1 ≤ d) (hrm : (st.map zcat).sum ≤ 8) (k : WP d y (pc + 3) ls st n u x m n' u' Q) : WP d y pc ls (zr k0 :: st) n u x m n' u' Q := by
  refine wp_rm (fun {p l e R s mi args below meth cc H locs cells slots QQ ad lsl} hx hb hml how ht r1 r2 r3 r4 s9 g => ?_) (fun h => zOk_tl h) k
  have hs := zsum_le (ad := ad) hrm
  exact W.objInit hx hb how (ht _ (hw _ (List.mem_of_getElem? (i := 0) rfl))) (ht _ (hw _ (List.mem_of_getElem? (i := 1) rfl))) (ht _ (hw _ (List.mem_of_getElem? (i := 2) rfl))) rfl hml.symm rfl hd (by omega) (by show 2 * 0 + _ + 12 ≤ _; omega) g
end ZE2
end
section
/-! copying of arrays; what constructors make -/
section ZF
variable {d y pc n n' : Nat} {ls : List (Nat × zV)} {st : List zV} {u u' : List (Nat × Nat)} {x m : zM} {Q : Int → zM → zM → Prop}
theorem zrd_cpy {x m : zM} {k1 k2 : Nat} {sp dp cnt : Int} (h1 : Nat.ble k1 385 = true) (h2 : Nat.ble k2 385 = true) : zrd (zcpy x k1 sp k2 dp cnt) m = zcpy (zrd x m) k1 sp k2 dp cnt := by
  funext k' i'
  unfold zrd zcpy
  by_cases e : k' = k2
  · subst e
    simp [h1, h2]
  · by_cases h3 : Nat.ble k' 385 = true <;> simp [h3, e]
theorem wp_cpy {idx q1 q2 k1 k2 len1 len2 : Nat} {v1 v2 : zV} {off1 off2 sp dp cnt : Int} {lg : Bool} (hd : decode (zCb y) pc = .ok (.invokestatic idx, 3)) (hw : ∀ w ∈ zwCpy y idx, w ∈ zgood) (hdd : 1 ≤ d) (hrm : (st.map zcat).sum ≤ 8)
    (hA1 : zAr v1 q1 k1 off1 len1 lg) (hA2 : zAr v2 q2 k2 off2 len2 lg) (hq1 : q1 < n) (hq2 : q2 < n) (hn : n ≤ 403) (hb1 : Nat.ble k1 385 = true) (hb2 : Nat.ble k2 385 = true)
    (hc : 0 ≤ sp ∧ 0 ≤ dp ∧ 0 ≤ cnt ∧ sp + cnt ≤ len1 ∧ dp + cnt ≤ len2) (k : WP d y (pc + 3) ls st n u (zcpy x k1 (off1 + sp) k2 (off2 + dp) cnt) m n' u' Q) : WP d y pc ls (zi cnt :: zi dp :: v2 :: zi sp :: v1 :: st) n u x m n' u' Q := by
  obtain ⟨a1, a2, a3, a4, a5, a6, a7⟩ := hA1
  obtain ⟨g1, g2, g3, g4, g5, g6, g7⟩ := hA2
  have eM := zrd_cpy (x := x) (m := m) (sp := off1 + sp) (dp := off2 + dp) (cnt := cnt) hb1 hb2
  have hat : zAt k2 off2 len2 (zrd x m) (zcpy (zrd x m) k1 (off1 + sp) k2 (off2 + dp) cnt) := by
    intro k i h
    unfold zcpy
    rw [if_neg]
    intro ⟨h1, h2, h3⟩
    exact h ⟨h1, by omega, by omega⟩
  have hrow : ∀ r1 r2 r3 : Prop, True := fun _ _ _ => trivial
  refine wp_wr2 (q0 := q2) (u2 := u) hq2 (fun ca ad => .inl (ca q2, len2, if lg then .inr (.inl (va_cpy (fun j : Nat => Int64.ofInt (zrd x m k1 (off1 + j))) (fun j : Nat => Int64.ofInt (zrd x m k2 (off2 + j))) sp.toNat dp.toNat cnt.toNat)) else .inl (va_cpy (fun j : Nat => Int32.ofInt (zrd x m k1 (off1 + j))) (fun j : Nat => Int32.ofInt (zrd x m k2 (off2 + j))) sp.toNat dp.toNat cnt.toNat))) (fun {p l e R s mi args below meth cc H locs cells slots QQ D A ad ca tys lsl} hx hb how ht hin hml r1 r2 w1 w2 w3 hS w4 s9 g => ?_) (fun ca ad => ?_) (fun ca ad k' hk' hne' => by rw [eM]; exact g7 k' (by omega) hne' ca ad u _ _ hat) rfl (fun h5 h9 => ?_) (fun h _ => h) (fun h => zOk_tl (zOk_tl (zOk_tl (zOk_tl (zOk_tl h))))) k
  · obtain ⟨t1, ht1⟩ := w4 q1 hq1 a3
    obtain ⟨t2, ht2⟩ := w4 q2 hq2 g3
    rw [a5] at ht1
    rw [g5] at ht2
    have i1 : zIn cnt := zOk_hd s9
    have i2 : zIn dp := zOk_hd (zOk_tl s9)
    have i3 : zIn sp := zOk_hd (zOk_tl (zOk_tl (zOk_tl s9)))
    have hs := zsum_le (ad := ad) hrm
    have nn : ∀ {z : Int}, zIn z → 0 ≤ z → ¬ Int32.ofInt z < 0 := fun hz h0 q => by
      have := (z32_lt hz (show zIn 0 from ⟨by decide, by decide⟩)).mp q
      omega
    have hnw : nativeFrameWords "java/lang/System" "arraycopy" 5 = 7 := by decide
    show W _ _ _ _ _ _ _ _ _ _ _ _ _ _ _ (F0 mi pc lsl (.int (Int32.ofInt cnt) :: .int (Int32.ofInt dp) :: zc ad v2 :: .int (Int32.ofInt sp) :: zc ad v1 :: st.map (zc ad)))
    rw [a1 ad, g1 ad]
    have c1 : (Int32.ofInt sp).toNatClampNeg + (Int32.ofInt cnt).toNatClampNeg ≤ len1 := by rw [z32_clamp i3 hc.1, z32_clamp i1 hc.2.2.1]; omega
    have c2 : (Int32.ofInt dp).toNatClampNeg + (Int32.ofInt cnt).toNatClampNeg ≤ len2 := by rw [z32_clamp i2 hc.2.1, z32_clamp i1 hc.2.2.1]; omega
    cases lg with
    | false =>
      refine va_copyi (ty := .int) hx hb hml how (ht _ (hw _ (List.mem_of_getElem? (i := 0) rfl))) (ht _ (hw _ (List.mem_of_getElem? (i := 1) rfl))) (ht _ (hw _ (List.mem_of_getElem? (i := 2) rfl))) (ht _ (hw _ (List.mem_of_getElem? (i := 3) rfl))) w1 w2 w3 hS q1 q2 t1 t2 (by rw [zws_get hq1, a6]; rfl) (by rw [zws_get hq2, g6]; rfl) ht1 ht2 rfl (nn i3 hc.1) (nn i2 hc.2.1) (nn i1 hc.2.2.1) c1 c2 (fun _ _ => rfl) (by omega) (by rw [hnw]; omega) hd ?_
      rw [z32_clamp i3 hc.1, z32_clamp i2 hc.2.1, z32_clamp i1 hc.2.2.1]
      exact g
    | true =>
      refine va_copyl (ty := .long) hx hb hml how (ht _ (hw _ (List.mem_of_getElem? (i := 0) rfl))) (ht _ (hw _ (List.mem_of_getElem? (i := 1) rfl))) (ht _ (hw _ (List.mem_of_getElem? (i := 2) rfl))) (ht _ (hw _ (List.mem_of_getElem? (i := 3) rfl))) w1 w2 w3 hS q1 q2 t1 t2 (by rw [zws_get hq1, a6]; rfl) (by rw [zws_get hq2, g6]; rfl) ht1 ht2 rfl (nn i3 hc.1) (nn i2 hc.2.1) (nn i1 hc.2.2.1) c1 c2 (fun _ _ => rfl) (by omega) (by rw [hnw]; omega) hd ?_
      rw [z32_clamp i3 hc.1, z32_clamp i2 hc.2.1, z32_clamp i1 hc.2.2.1]
      exact g
  · rw [g6, eM]
    have hj : ∀ j : Nat, j < len2 → (if dp.toNat ≤ j ∧ j < dp.toNat + cnt.toNat then zrd x m k1 (off1 + ((sp.toNat + (j - dp.toNat) : Nat) : Int)) else zrd x m k2 (off2 + j)) = zcpy (zrd x m) k1 (off1 + sp) k2 (off2 + dp) cnt k2 (off2 + (j : Int)) := by
      intro j hj
      unfold zcpy
      by_cases h : dp.toNat ≤ j ∧ j < dp.toNat + cnt.toNat
      · rw [if_pos h, if_pos ⟨rfl, by omega, by omega⟩]
        congr 1
        omega
      · rw [if_neg h, if_neg (fun q => h ⟨by omega, by omega⟩)]
    cases lg with
    | false =>
      refine zEq.ints (fun j hj2 => ?_)
      rw [← hj j hj2]
      unfold va_cpy
      split <;> rfl
    | true =>
      refine zEq.longs (fun j hj2 => ?_)
      rw [← hj j hj2]
      unfold va_cpy
      split <;> rfl
  · rw [eM]
    intro k i
    unfold zcpy
    split
    · rename_i h
      have := h5 k1 (off1 + sp + (i - (off2 + dp)))
      unfold zRg at this ⊢
      rw [a4] at this
      rw [h.1, g4]
      exact this
    · exact h5 k i
end ZF
end
section
/-! what constructors make: new cells behind those that stand -/
def zzr (x : zM) (n t : Nat) : zM := fun k i => if n ≤ k ∧ k < n + t then 0 else x k i
/-- the reference slots of a new object: none is set -/
def zun (n ci : Nat) : List (Nat × Nat) := ((List.range (zTy ci).length).filter (fun j => Nat.beq ((zTy ci).getD j 0) 2)).map (fun j => (n, j))
theorem zun_mem {n ci k j : Nat} : (k, j) ∈ zun n ci ↔ k = n ∧ (zTy ci).getD j 0 = 2 := by
  unfold zun
  rw [List.mem_map]
  constructor
  · rintro ⟨a, h, e⟩
    cases e
    exact ⟨rfl, Nat.eq_of_beq_eq_true (List.mem_filter.mp h).2⟩
  · rintro ⟨rfl, h⟩
    refine ⟨j, List.mem_filter.mpr ⟨List.mem_range.mpr ?_, by rw [h]; rfl⟩, rfl⟩
    rcases Nat.lt_or_ge j (zTy ci).length with q | q
    · exact q
    · rw [List.getD_eq_getElem?_getD, List.getElem?_eq_none q] at h
      cases h
theorem zHome_lt {k : Nat} (hk : k < 403) : zHome k ≤ k := by
  have h1 := zt_len k hk
  unfold zHome
  generalize hs : zSh k = s at h1
  obtain ⟨a1, b1, c1, d1⟩ := s
  split
  · rename_i o _ _ heq
    cases heq
    obtain ⟨h2, h3, -, -, h5, -⟩ := h1 (Or.inl rfl)
    have := zt_out _ h2 (Or.inl (h3 rfl))
    dsimp only at h5 this ⊢
    omega
  · rename_i o _ _ heq
    cases heq
    obtain ⟨h2, -, h3, -, h5, -⟩ := h1 (Or.inr rfl)
    have := zt_out _ h2 (Or.inr (h3 rfl))
    dsimp only at h5 this ⊢
    omega
  · exact Nat.le_refl _
theorem zE_old {ca ca' : Nat → ClassId} {ad ad' : Nat → Nat} {u u2 : List (Nat × Nat)} {μ μ' : zM} {n k : Nat} (hn : n ≤ 403) (hk : k < n) (hc : zCls n u) (hca : ca' k = ca k) (had : ∀ k, k < n → ad' k = ad k) (hu : ∀ j, (k, j) ∈ u2 ↔ (k, j) ∈ u) (hμ : ∀ k, k < n → μ' k = μ k) : zE ca ad u μ k = zE ca' ad' u2 μ' k := by
  have hh : μ' (zHome k) = μ (zHome k) := hμ _ (Nat.lt_of_le_of_lt (zHome_lt (by omega)) hk)
  rw [zE_congr hh.symm]
  have h1 := hc k hk
  have h7 := zt_le k (by omega)
  unfold zE
  rw [hca]
  generalize hs : zSh k = s at h1 h7 ⊢
  obtain ⟨a, b, c, e⟩ := s
  have hf : a = 0 → ∀ j, zFv ad u μ' k j = zFv ad' u2 μ' k j := by
    intro ha j
    subst ha
    unfold zFv
    rw [hs]
    dsimp only
    split
    · rfl
    · rename_i h2
      by_cases h3 : (k, j) ∈ u
      · rw [if_pos h3, if_pos ((hu j).mpr h3)]
      · rw [if_neg h3, if_neg (fun q => h3 ((hu j).mp q)), had _ (h1.1 rfl j h2 h3)]
    · rfl
  match a, hf, h1, h7 with
  | 0, hf, _, _ => simp only; rw [List.map_congr_left (fun j _ => hf rfl j)]
  | 1, _, _, _ => rfl
  | 2, _, _, _ => rfl
  | 3, _, h1, _ =>
    simp only
    have h2 := h1.2 (Or.inl rfl)
    dsimp only at h2
    have e9 : (fun i => if i < c then some (ad (b + i)) else none) = (fun i => if i < c then some (ad' (b + i)) else none) := by
      funext i
      by_cases h : i < c
      · rw [if_pos h, if_pos h, had _ (by omega)]
      · rw [if_neg h, if_neg h]
    rw [e9]
  | 4, _, h1, _ =>
    simp only
    have h2 := h1.2 (Or.inr rfl)
    dsimp only at h2
    have e9 : (fun i => if i < c then some (ad (b + i)) else none) = (fun i => if i < c then some (ad' (b + i)) else none) := by
      funext i
      by_cases h : i < c
      · rw [if_pos h, if_pos h, had _ (by omega)]
      · rw [if_neg h, if_neg h]
    rw [e9]
  | 5, _, _, _ => rfl
  | 6, _, _, _ => rfl
  | a + 7, _, _, h7 => exact absurd (show a + 7 ≤ 6 from h7) (by omega)
theorem zD_of {A : Nat → Prop} {ws : va_W} {ca : Nat → ClassId} {ad : Nat → Nat} {n : Nat} {u : List (Nat × Nat)} {μ : zM} (hD : va_D A ws) (hw : ∀ k, k < n → ∃ e, ws[k]? = some (ad k, e)) : va_D A (zws ca ad n u μ) := by
  refine ⟨fun i j p q hp hq hpq => ?_, fun k q hq => ?_⟩
  · obtain ⟨hi, rfl⟩ := zws_get_inv hp
    obtain ⟨hj, rfl⟩ := zws_get_inv hq
    obtain ⟨e1, h1⟩ := hw i hi
    obtain ⟨e2, h2⟩ := hw j hj
    exact hD.1 i j _ _ h1 h2 hpq
  · obtain ⟨hk, rfl⟩ := zws_get_inv hq
    obtain ⟨e1, h1⟩ := hw k hk
    exact hD.2 k (ad k, e1) h1
/-- the world, longer -/
theorem zW_ext {s : State} {A : Nat → Prop} {D : va_G} {n t : Nat} {u u2 : List (Nat × Nat)} {ad ad' : Nat → Nat} {x m x' m' : zM} {H1 : Heap} {ca ca' : Nat → ClassId} {tys tys' : List (ClassId × FieldType)} {new : va_W} (hn : n + t ≤ 403)
    (hK : va_K D vwCl (tys ++ tys') s) (hP : va_P D vwCl (zws ca ad n u (zrd x m) ++ new) H1) (hD : va_D A (zws ca ad n u (zrd x m) ++ new)) (hty : ∀ k, k < n → (zSh k).1 ≠ 0 → ∃ t0 : Nat, tys[t0]? = some (ca k, zEt k)) (hg : ∀ k i, zRg k i (zrd x m k i)) (hc : zCls n u)
    (hca : ∀ k, k < n → ca' k = ca k) (had : ∀ k, k < n → ad' k = ad k) (hu : ∀ k, k < n → ∀ j, (k, j) ∈ u2 ↔ (k, j) ∈ u) (hμ : ∀ k i, zrd x' m' k i = if n ≤ k ∧ k < n + t then 0 else zrd x m k i) (hc2 : ∀ k, n ≤ k → k < n + t → ((zSh k).1 = 0 → ∀ j, (zTy (zSh k).2.1).getD j 0 = 2 → (k, j) ∈ u2) ∧ ((zSh k).1 = 3 ∨ (zSh k).1 = 4 → (zSh k).2.1 + (zSh k).2.2.1 ≤ n + t))
    (hty2 : ∀ k, n ≤ k → k < n + t → (zSh k).1 ≠ 0 → ∃ t0 : Nat, (tys ++ tys')[t0]? = some (ca' k, zEt k)) (hnew : ∀ i, i < t → ∃ e, new[i]? = some (ad' (n + i), e) ∧ zEq e (zE ca' ad' u2 (zrd x' m') (n + i))) : zW s A D (n + t) u2 ad' x' m' H1 := by
  have hall : ∀ k, k < n + t → ∃ e, (zws ca ad n u (zrd x m) ++ new)[k]? = some (ad' k, e) ∧ zEq e (zE ca' ad' u2 (zrd x' m') k) := by
    intro k hk
    by_cases h : k < n
    · refine ⟨zE ca ad u (zrd x m) k, ?_, zEq.of (zE_old (by omega) h hc (hca k h) had (hu k h) (fun k' hk' => ?_))⟩
      · rw [List.getElem?_append_left (by rw [zws_len]; exact h), zws_get h, had k h]
      · funext i
        rw [hμ, if_neg (by omega)]
    · obtain ⟨e, h1, h2⟩ := hnew (k - n) (by omega)
      rw [show n + (k - n) = k by omega] at h1 h2
      refine ⟨e, ?_, h2⟩
      rw [List.getElem?_append_right (by rw [zws_len]; omega), zws_len]
      exact h1
  refine ⟨ca', tys ++ tys', hK, zP_ext (ca := ca) (ad := ad) (u := u) (μ := zrd x m) hP hall, zD_of hD (fun k hk => (hall k hk).imp (fun e h => h.1)), fun k hk h0 => ?_, fun k i => ?_, fun k hk => ⟨fun h0 j hj hm => ?_, fun h3 => ?_⟩⟩
  · by_cases h : k < n
    · obtain ⟨t0, ht⟩ := hty k h h0
      refine ⟨t0, ?_⟩
      rw [List.getElem?_append_left (List.getElem?_eq_some_iff.mp ht).1, ht, hca k h]
    · exact hty2 k (by omega) hk h0
  · rw [hμ]
    split
    · unfold zRg
      cases zLg k i
      · exact ⟨by decide, by decide⟩
      · exact ⟨by decide, by decide⟩
    · exact hg k i
  · by_cases h : k < n
    · exact Nat.lt_of_lt_of_le ((hc k h).1 h0 j hj (fun q => hm ((hu k h j).mpr q))) (Nat.le_add_right _ _)
    · exact absurd ((hc2 k (by omega) hk).1 h0 j hj) hm
  · by_cases h : k < n
    · exact Nat.le_trans ((hc k h).2 h3) (Nat.le_add_right _ _)
    · exact (hc2 k (by omega) hk).2 h3
theorem zrd_zr {x m x' m' : zM} {n t : Nat} (h : (Nat.ble (n + t) 386 = true ∧ x' = zzr x n t ∧ m' = m) ∨ (Nat.ble 386 n = true ∧ x' = x ∧ m' = zzr m n t)) (k : Nat) (i : Int) : zrd x' m' k i = if n ≤ k ∧ k < n + t then 0 else zrd x m k i := by
  unfold zrd
  rcases h with ⟨h, rfl, rfl⟩ | ⟨h, rfl, rfl⟩
  · have h1 := Nat.le_of_ble_eq_true h
    by_cases h2 : Nat.ble k 385 = true
    · rw [h2]
      rfl
    · have h3 : ¬ k ≤ 385 := fun q => h2 (Nat.ble_eq_true_of_le q)
      rw [Bool.not_eq_true] at h2
      rw [h2, if_neg (by omega)]
      rfl
  · have h1 := Nat.le_of_ble_eq_true h
    by_cases h2 : Nat.ble k 385 = true
    · have h3 := Nat.le_of_ble_eq_true h2
      rw [h2, if_neg (by omega)]
      rfl
    · rw [Bool.not_eq_true] at h2
      rw [h2]
      rfl
theorem zzr_2000 {x m x' m' : zM} {n t : Nat} (hn : n + t ≤ 403) (h : (Nat.ble (n + t) 386 = true ∧ x' = zzr x n t ∧ m' = m) ∨ (Nat.ble 386 n = true ∧ x' = x ∧ m' = zzr m n t)) : m' 2000 = m 2000 := by
  rcases h with ⟨h, rfl, rfl⟩ | ⟨h, rfl, rfl⟩
  · rfl
  · funext i
    unfold zzr
    rw [if_neg (by omega)]
section ZG
variable {d y pc n n' : Nat} {ls : List (Nat × zV)} {st : List zV} {u u' : List (Nat × Nat)} {x m : zM} {Q : Int → zM → zM → Prop}
def zwNew (y idx ci : Nat) : List Cond := [Cond.classLink (zOw y) idx (zCl ci).1, Cond.instantiable (zCl ci).1 (zCl ci).2.2, Cond.initialized (zCl ci).1]
theorem wp_new {idx ci nf c : Nat} {x' m' : zM} (hd : decode (zCb y) pc = .ok (.new idx, 3)) (hs : zSh n = (0, ci, nf, c)) (hn : n < n') (hw : ∀ w ∈ zwNew y idx ci, w ∈ zgood) (hz : (Nat.ble (n + 1) 386 = true ∧ x' = zzr x n 1 ∧ m' = m) ∨ (Nat.ble 386 n = true ∧ x' = x ∧ m' = zzr m n 1)) (hu0 : ∀ k j, (k, j) ∈ u → k < n)
    (k : WP d y (pc + 3) ls (zr n :: st) (n + 1) (zun n ci ++ u) x' m' n' u' Q) : WP d y pc ls st n u x m n' u' Q := by
  intro p l e R s mi args below meth c0 QQ D A sc ro ad0 n0 E H locs ad lsl S
  obtain ⟨⟨hx, hb, -, hml, ho, ht, -⟩, ⟨r1, r2, r3, r4⟩, hA, -⟩ := id E
  obtain ⟨s1, s2, s3, s4, s5, ⟨s6, s6b, s6c⟩, s7, s8, s9⟩ := id S
  obtain ⟨ca, tys, w1, w2, w3, w4, w5, w6⟩ := id s1
  have hT := zt_sh n (by omega) (by rw [hs])
  rw [hs] at hT
  have hci : ci < 13 := hT.1
  have hnf : nf = (zCl ci).2.2 := hT.2
  have hlen : zLen n = nf := by (unfold zLen; rw [hs]; rfl)
  have hsl : zSl (n + 1) = zSl n + nf := by show zSl n + zLen n = _; rw [hlen]
  have hsl2 := zSl_mono (a := n + 1) (b := n') hn
  have hsl0 := zSl_mono s6
  have hz9 := zrd_zr hz
  have hfv : ∀ (ad : Nat → Nat) (j : Nat), j < nf → zFv ad (zun n ci ++ u) (zrd x' m') n j = defaultValue (zTf ci j) := by
    intro ad j hj
    have hkd := zt_kd ci hci j (by omega)
    unfold zFv
    rw [hs]
    dsimp only
    rw [hz9, if_pos (by omega)]
    generalize zTf ci j = ty at hkd
    split
    · rename_i h
      rw [h] at hkd
      cases ty <;> first | rfl | cases hkd
    · rename_i h
      rw [if_pos (List.mem_append_left _ (zun_mem.mpr ⟨rfl, h⟩))]
      rw [h] at hkd
      cases ty <;> first | rfl | cases hkd
    · rename_i h1 h2
      generalize hq : (zTy ci).getD j 0 = q at hkd h1 h2
      match q, h1, h2 with
      | 0, _, _ => cases ty <;> first | rfl | cases hkd
      | 1, h1, _ => exact absurd rfl h1
      | 2, _, h2 => exact absurd rfl h2
      | 3, _, _ => cases ty <;> first | rfl | cases hkd
      | q + 4, _, _ => cases ty <;> cases hkd
  refine va_new (D := D) (ci := ci) (fs := (List.range nf).map (zFv ad (zun n ci ++ u) (zrd x' m') n)) (C := (zCl ci).1) (T := (zCl ci).2.1) (N := (zCl ci).2.2) hx hb ht (zt_in ci hci) (zTf ci) (zt_ty ci hci) ho (ht _ (hw _ (List.mem_of_getElem? (i := 0) rfl))) (ht _ (hw _ (List.mem_of_getElem? (i := 1) rfl))) (ht _ (hw _ (List.mem_of_getElem? (i := 2) rfl))) w1 w2 w3 s2 hA (zt_vw ci hci) (fun j hj => ?_) (by omega) (by omega) hd (fun q H1 hP hD hS => ?_)
  · rw [vpV_at, List.getElem?_map, List.getElem?_range (by omega)]
    exact (hfv ad j (by omega)).symm
  · have had : ∀ k, k < n → (fun k => if k = n then q else ad k) k = ad k := fun k hk => if_neg (by omega)
    have hh : ∀ k, 2000 ≤ k → (fun k => if k = n then q else ad k) k = ad k := fun k hk => if_neg (by omega)
    have hW : zW s A D (n + 1) (zun n ci ++ u) (fun k => if k = n then q else ad k) x' m' H1 := by
      refine zW_ext (tys' := []) (ca := ca) (ca' := ca) (u := u) (by omega) (by rw [List.append_nil]; exact w1) hP hD w4 w5 w6 (fun _ _ => rfl) had (fun k hk j => ?_) hz9 (fun k h1 h2 => ?_) (fun k h1 h2 h0 => ?_) (fun i hi => ?_)
      · rw [List.mem_append]
        exact ⟨fun h => h.elim (fun q => absurd (zun_mem.mp q).1 (by omega)) id, Or.inr⟩
      · have e : k = n := by omega
        subst e
        rw [hs]
        exact ⟨fun _ j hj => List.mem_append_left _ (zun_mem.mpr ⟨rfl, hj⟩), fun h => by rcases h with h | h <;> cases h⟩
      · have e : k = n := by omega
        subst e
        rw [hs] at h0
        exact absurd rfl h0
      · have e : i = 0 := by omega
        subst e
        refine ⟨_, by rw [Nat.add_zero, if_pos rfl]; rfl, ?_⟩
        rw [Nat.add_zero, zE_obj hs]
        refine zEq.obj (fun j => ?_)
        rw [vpV_at, vpV_at, List.getElem?_map, List.getElem?_map]
        by_cases hj : j < nf
        · rw [List.getElem?_range hj]
          simp only [Option.map_some, Option.getD_some]
          rw [hfv _ j hj, hfv _ j hj]
        · rw [List.getElem?_eq_none (by simp; omega)]
          rfl
    have g := k p l e R s mi args below meth c0 QQ D A sc ro ad0 n0 E H1 locs (fun k => if k = n then q else ad k) lsl ⟨hW, hS, (zzr_2000 (by omega) hz).trans s3, fun k hk => (had k (by omega)).trans (s4 k hk), fun k hk => (hh k hk).trans (s5 k hk), ⟨by omega, by omega, s6c⟩, by
      show lv_has lsl (zMl y) (zMap _ ls)
      rw [zMap_same (n := n) had hh s8]
      exact s7, fun q hq => zOk_mono (by omega) (s8 q hq), zOk_cons (v := zr n) (Or.inl (by omega)) (fun v hv => zOk_mono (by omega) (s9 v hv))⟩
    have e1 : n + 1 - n0 = n - n0 + 1 := by omega
    have e2 : zSl (n + 1) - zSl n0 = zSl n - zSl n0 + (zCl ci).2.2 := by omega
    rw [e1, e2] at g
    have e3 : (zr n :: st).map (zc (fun k => if k = n then q else ad k)) = .ref q :: st.map (zc ad) := by
      rw [List.map_cons, zmap_same (n := n) had hh s9]
      show Value.ref (if n = n then q else ad n) :: _ = _
      rw [if_pos rfl]
    rw [e3] at g
    exact g
theorem wp_newa {lg : Bool} {len b c : Nat} {i : Int} {x' m' : zM} {at9 : ArrayType} (hat : at9 = if lg then .long else .int) (hd : decode (zCb y) pc = .ok (.newarray at9, 2)) (hs : zSh n = (if lg then 2 else 1, len, b, c)) (hi : i = len) (hl : len ≤ 100000) (hn : n < n') (hw : Cond.arrayClass (if lg then .long else .int) ∈ zgood) (hz : (Nat.ble (n + 1) 386 = true ∧ x' = zzr x n 1 ∧ m' = m) ∨ (Nat.ble 386 n = true ∧ x' = x ∧ m' = zzr m n 1)) (hu0 : ∀ k j, (k, j) ∈ u → k < n)
    (k : WP d y (pc + 2) ls (zr n :: st) (n + 1) u x' m' n' u' Q) : WP d y pc ls (zi i :: st) n u x m n' u' Q := by
  intro p l e R s mi args below meth c0 QQ D A sc ro ad0 n0 E H locs ad lsl S
  obtain ⟨⟨hx, hb, -, hml, ho, ht, -⟩, ⟨r1, r2, r3, r4⟩, hA, -⟩ := id E
  obtain ⟨s1, s2, s3, s4, s5, ⟨s6, s6b, s6c⟩, s7, s8, s9⟩ := id S
  obtain ⟨ca, tys, w1, w2, w3, w4, w5, w6⟩ := id s1
  have hlen : zLen n = len := by
    unfold zLen
    rw [hs]
    cases lg <;> rfl
  have hsl : zSl (n + 1) = zSl n + len := by show zSl n + zLen n = _; rw [hlen]
  have hsl2 := zSl_mono (a := n + 1) (b := n') hn
  have hsl0 := zSl_mono s6
  have hz9 := zrd_zr hz
  have hii : zIn i := zOk_hd s9
  have hk0 : (zSh n).1 ≠ 0 := by rw [hs]; cases lg <;> exact fun q => by cases q
  have hty : zEt n = if lg then .long else .int := by
    unfold zEt
    rw [hs]
    cases lg <;> rfl
  have hEn : ∀ (ca : Nat → ClassId) (ad : Nat → Nat), zEq (.inl (ca n, len, if lg then .inr (.inl (fun _ => 0)) else .inl (fun _ => 0))) (zE ca ad u (zrd x' m') n) := by
    intro ca ad
    unfold zE
    rw [hs]
    cases lg
    · refine zEq.ints (fun j hj => ?_)
      rw [hz9, if_pos (by omega)]
      rfl
    · refine zEq.longs (fun j hj => ?_)
      rw [hz9, if_pos (by omega)]
      rfl
  have fin : ∀ (q : Nat) (cA : ClassId) (H1 : Heap), va_K D vwCl (tys ++ [(cA, if lg then .long else .int)]) s → va_P D vwCl (zws ca ad n u (zrd x m) ++ [(q, .inl (cA, (len, if lg then .inr (.inl (fun _ => 0)) else .inl (fun _ => 0))))]) H1 → va_D A (zws ca ad n u (zrd x m) ++ [(q, .inl (cA, (len, if lg then .inr (.inl (fun _ => 0)) else .inl (fun _ => 0))))]) → va_S A s.heap H1 locs →
      W p l e R s mi args below meth c0 H1 locs (n - n0 + 1) (zSl n - zSl n0 + len) QQ (F0 mi (pc + 2) lsl (.ref q :: st.map (zc ad))) := by
    intro q cA H1 hK hP hD hS
    have had : ∀ k, k < n → (fun k => if k = n then q else ad k) k = ad k := fun k hk => if_neg (by omega)
    have hh : ∀ k, 2000 ≤ k → (fun k => if k = n then q else ad k) k = ad k := fun k hk => if_neg (by omega)
    have hW : zW s A D (n + 1) u (fun k => if k = n then q else ad k) x' m' H1 := by
      refine zW_ext (tys' := [(cA, if lg then .long else .int)]) (ca := ca) (ca' := fun k => if k = n then cA else ca k) (u := u) (by omega) hK hP hD w4 w5 w6 (fun k hk => if_neg (by omega)) had (fun k hk j => Iff.rfl) hz9 (fun k h1 h2 => ?_) (fun k h1 h2 h0 => ?_) (fun i hi => ?_)
      · have e : k = n := by omega
        subst e
        exact ⟨fun h => absurd h hk0, fun h => by rw [hs] at h; cases lg <;> rcases h with h | h <;> cases h⟩
      · have e : k = n := by omega
        subst e
        exact ⟨tys.length, by rw [List.getElem?_append_right (Nat.le_refl _), Nat.sub_self, hty]; simp⟩
      · have e : i = 0 := by omega
        subst e
        refine ⟨_, by rw [Nat.add_zero, if_pos rfl]; rfl, ?_⟩
        rw [Nat.add_zero]
        have := hEn (fun k => if k = n then cA else ca k) (fun k => if k = n then q else ad k)
        rw [if_pos rfl] at this
        exact this
    have g := k p l e R s mi args below meth c0 QQ D A sc ro ad0 n0 E H1 locs (fun k => if k = n then q else ad k) lsl ⟨hW, hS, (zzr_2000 (by omega) hz).trans s3, fun k hk => (had k (by omega)).trans (s4 k hk), fun k hk => (hh k hk).trans (s5 k hk), ⟨by omega, by omega, s6c⟩, by
      show lv_has lsl (zMl y) (zMap _ ls)
      rw [zMap_same (n := n) had hh s8]
      exact s7, fun q hq => zOk_mono (by omega) (s8 q hq), zOk_cons (v := zr n) (Or.inl (by omega)) (fun v hv => zOk_mono (by omega) (zOk_tl s9 v hv))⟩
    have e1 : n + 1 - n0 = n - n0 + 1 := by omega
    have e2 : zSl (n + 1) - zSl n0 = zSl n - zSl n0 + len := by omega
    rw [e1, e2] at g
    have e3 : (zr n :: st).map (zc (fun k => if k = n then q else ad k)) = .ref q :: st.map (zc ad) := by
      rw [List.map_cons, zmap_same (n := n) had hh (zOk_tl s9)]
      show Value.ref (if n = n then q else ad n) :: _ = _
      rw [if_pos rfl]
    rw [e3] at g
    exact g
  have hnn : ¬ Int32.ofInt i < 0 := fun q => by
    have := (z32_lt hii (show zIn 0 from ⟨by decide, by decide⟩)).mp q
    omega
  have hcl : (Int32.ofInt i).toNatClampNeg = len := by rw [z32_clamp hii (by omega)]; omega
  subst hat
  cases lg with
  | false => exact va_newa (atype := .int) (ty := .int) (a0 := (len, .inl (fun _ => 0))) hx hb (ht _ hw) rfl w1 w2 w3 s2 hA (fun cA => rfl) hnn hcl (by show len * 4 ≤ _; omega) (by omega) (by omega) hd fin
  | true => exact va_newa (atype := .long) (ty := .long) (a0 := (len, .inr (.inl (fun _ => 0)))) hx hb (ht _ hw) rfl w1 w2 w3 s2 hA (fun cA => rfl) hnn hcl (by show len * 8 ≤ _; omega) (by omega) (by omega) hd fin
end ZG
end
section
/-! ===== BEGIN new T[n][m]: the outer array a place, the inner ones among the pooled ===== -/
/-- f, but v at every address of l -/
def vr_up {α : Type} (f : Nat → α) (l : List Nat) (v : α) : Nat → α := fun a => if a ∈ l then v else f a
theorem vr_up_in {α : Type} {f : Nat → α} {l : List Nat} {v : α} {a : Nat} (h : a ∈ l) : vr_up f l v a = v := if_pos h
theorem vr_up_ne {α : Type} {f : Nat → α} {l : List Nat} {v : α} {a : Nat} (h : a ∉ l) : vr_up f l v a = f a := if_neg h
theorem vr_rows {L l : List Nat} {f : Nat → va_E} {e : va_E} (h : ∀ a, a ∈ l → a ∉ L) : va_pl L f ++ l.map (fun a => (a, e)) = va_pl (L ++ l) (vr_up f l e) := by
  unfold va_pl
  rw [List.map_append]
  congr 1
  · apply List.map_congr_left
    intro a ha
    rw [vr_up_ne (fun q => h a q ha)]
  · apply List.map_congr_left
    intro a ha
    rw [vr_up_in ha]
theorem vr_lay {X rows : va_W} {x : Nat × va_E} {pl : va_W} {D : va_G} {cl : List vw_C} {H : Heap} (hP : va_P D cl (((X ++ pl) ++ [x]) ++ rows) H) : va_P D cl ((X ++ [x]) ++ (pl ++ rows)) H := by
  rw [List.append_assoc (X ++ pl)] at hP
  have h := va_P.swap hP
  rw [← List.append_assoc X] at h
  have h2 := va_P.swap h
  rw [List.append_assoc (X ++ [x])] at h2
  exact h2
theorem vr_layD {X rows : va_W} {x : Nat × va_E} {pl : va_W} {A : Nat → Prop} (hD : va_D A (((X ++ pl) ++ [x]) ++ rows)) : va_D A ((X ++ [x]) ++ (pl ++ rows)) := by
  rw [List.append_assoc (X ++ pl)] at hD
  have h := va_D.swap hD
  rw [← List.append_assoc X] at h
  have h2 := va_D.swap h
  rw [List.append_assoc (X ++ [x])] at h2
  exact h2
theorem vr_outer (c : ClassId) (N h0 : Nat) : ∀ i : Nat, Jvm.Free.Multi.outerC c N h0 i = arrV c N (fun j => va_rf (if j < i then some (h0 + 1 + j) else none))
  | 0 => by
    show ({ cls := c, slots := Array.replicate N .null, vm := .none } : Cell) = _
    rw [arrV_new]
    refine congrArg (arrV c N) (funext fun j => ?_)
    simp [va_rf]
  | i + 1 => by
    show (Jvm.Free.Multi.outerC c N h0 i).setSlot i (.ref (h0 + 1 + i)) = _
    rw [vr_outer c N h0 i, arrV_store]
    refine congrArg (arrV c N) (funext fun j => ?_)
    by_cases e : j = i
    · subst e
      simp [updV, va_rf]
    · by_cases h : j < i
      · simp [updV, e, h, Nat.lt_succ_of_lt h]
      · simp [updV, e, h, show ¬ j < i + 1 by omega]
section VGM
variable {p : Program} {l : Launch} {e : Env} {R : Room} {s : State} {m : MethodId} {args : Array Value} {below : List Frame} {meth : Method} {c : Code} {H : Heap} {locs : List Loc} {cells slots : Nat} {Q : State → Prop}
variable {cc : ByteArray} {pc : Nat} {ls : Array Slot} {rest : List Value} {D : va_G} {cl : List vw_C} {A : Nat → Prop} {a : Nat} {tys : List (ClassId × FieldType)} {ws : va_W} {H0 : Heap}
theorem va_mna {X : va_W} {L : List Nat} {f : Nat → va_E} {cc : ByteArray} (hexec : p.tables.exec = Jvm.exec) (hb : c.code = cc) {own : String} {index : Nat} {ty : FieldType} {cy : ClassId} (hown : s.vm.findClass own = some m.cls) (hclink : (Cond.classLink own index ("[" ++ (FieldType.array ty).toString)).before args s = true) (hover : (Cond.arrayOver (.array ty)).before args s = true) (harr : (Cond.arrayClass ty).before args s = true) (hcy : s.vm.findClass (FieldType.array ty).toString = some cy)
    (hK : va_K D cl tys s) (hP : va_P D cl (X ++ va_pl L f) H) (hD : va_D A (X ++ va_pl L f)) (hS : va_S A H0 H locs) (hA : ∀ q, H0.size ≤ q → A q) {n k : Int32} {N' K' : Nat} {z : vp_A} (hn : ¬ n < 0) (hk : ¬ k < 0) (hN : n.toNatClampNeg = N') (hM : k.toNatClampNeg = K')
    (hb1 : N' * 4 ≤ 536870912) (hb2 : K' * componentBytes ty ≤ 536870912) (hb3 : K' ≤ 536870912) (hdf : fits ty (defaultValue ty) = true) (hdd : (defaultValue ty).isDefault = true) (hcells : cells + (1 + N') ≤ R.cells) (hslots : slots + (N' + N' * K') ≤ R.slots) (hz : ∀ c : ClassId, Jvm.Free.Multi.innerC c K' (defaultValue ty) = vp_cell c z) (hdg : decode cc pc = .ok (.multianewarray index 2, 4))
    (kk : ∀ (q : Nat) (r : Nat → Nat) (cA : ClassId) (H1 : Heap), (∀ i j : Nat, i < N' → j < N' → r i = r j → i = j) → (∀ i : Nat, i < N' → r i ∉ L) → va_K D cl (tys ++ [(cA, .array ty)]) s →
      va_P D cl ((X ++ [(q, .inl (cA, N', .inr (.inr (.inr (.inr (fun i => if i < N' then some (r i) else none))))))]) ++ va_pl (L ++ (List.range N').map r) (vr_up f ((List.range N').map r) (.inl (cy, z)))) H1 → va_D A ((X ++ [(q, .inl (cA, N', .inr (.inr (.inr (.inr (fun i => if i < N' then some (r i) else none))))))]) ++ va_pl (L ++ (List.range N').map r) (vr_up f ((List.range N').map r) (.inl (cy, z)))) → va_S A H0 H1 locs →
      W p l e R s m args below meth c H1 locs (cells + 1 + N') (slots + N' + N' * K') Q (F0 m (pc + 4) ls (.ref q :: rest))) : W p l e R s m args below meth c H locs cells slots Q (F0 m pc ls (.int k :: .int n :: rest)) := by
  subst hN
  subst hM
  intro T hT Xs
  obtain ⟨vm₁, cA, comp, -, fA, fC, hO, -, X', step⟩ := Xs.multianewarray2F hexec hown hclink hover harr (g := F0 m pc ls (.int k :: .int n :: rest)) rfl (by rw [hb]; exact hdg) rfl hn hk hb1 hb2 hb3 hdf hdd hcells hslots
  have ec : some cy = some comp := hcy.symm.trans fC
  cases ec
  generalize hF : Jvm.Free.Multi.fill (T.setVm vm₁) cA cy n.toNatClampNeg k.toNatClampNeg (defaultValue ty) n.toNatClampNeg = F at X' step
  have hTh : (T.setVm vm₁).heap = H := hT
  obtain ⟨f1, f2, -, -⟩ := Jvm.Free.Multi.fill_facts (T.setVm vm₁) cA cy n.toNatClampNeg k.toNatClampNeg (defaultValue ty) n.toNatClampNeg
  rw [hF, hTh] at f1 f2
  have hold : ∀ x : Nat, x < H.size → F.heap[x]? = H[x]? := fun x hx => by
    have := Jvm.Free.Multi.fill_old (T.setVm vm₁) cA cy n.toNatClampNeg k.toNatClampNeg (defaultValue ty) (a := x) (by rw [hTh]; exact hx) n.toNatClampNeg
    rw [hF, hTh] at this
    exact this
  have hrow : ∀ j : Nat, j < n.toNatClampNeg → F.heap[H.size + 1 + j]? = some (vp_cell cy z) := fun j hj => by
    have := Jvm.Free.Multi.fill_inner (T.setVm vm₁) cA cy n.toNatClampNeg k.toNatClampNeg (defaultValue ty) n.toNatClampNeg j hj
    rw [hF, hTh, hz] at this
    exact this
  have hout : Jvm.Free.Multi.outerC cA n.toNatClampNeg H.size n.toNatClampNeg = vp_cell cA (n.toNatClampNeg, .inr (.inr (.inr (.inr (fun i => if i < n.toNatClampNeg then some (H.size + 1 + i) else none))))) := by
    rw [vp_cell_q]
    exact vr_outer cA n.toNatClampNeg H.size n.toNatClampNeg
  rw [hout] at f2
  have hlt : ∀ a, a ∈ L → a < H.size := fun a ha => by
    obtain ⟨k9, hk9⟩ := va_pl_get (X := X) (f := f) ha
    exact (hP k9 _ hk9).lt
  have hnl : ∀ i : Nat, i < n.toNatClampNeg → H.size + 1 + i ∉ L := fun i _ h => by
    have := hlt _ h
    omega
  have hnm : ∀ a, a ∈ (List.range n.toNatClampNeg).map (fun i => H.size + 1 + i) → a ∉ L := fun a ha h => by
    obtain ⟨i, -, rfl⟩ := List.mem_map.mp ha
    have := hlt _ h
    omega
  have hP0 : va_P D cl (X ++ va_pl L f) F.heap := hP.kept (fun k9 x hx => hold x.1 ((hP k9 x hx).lt))
  have hP1 : va_P D cl ((X ++ va_pl L f) ++ [(H.size, .inl (cA, n.toNatClampNeg, .inr (.inr (.inr (.inr (fun i => if i < n.toNatClampNeg then some (H.size + 1 + i) else none))))))]) F.heap := hP0.app (fun k9 x hx => by
    have h0 : k9 < 1 := (List.getElem?_eq_some_iff.mp hx).1
    rw [show k9 = 0 by omega] at hx
    cases hx
    exact f2)
  have hP2 : va_P D cl (((X ++ va_pl L f) ++ [(H.size, .inl (cA, n.toNatClampNeg, .inr (.inr (.inr (.inr (fun i => if i < n.toNatClampNeg then some (H.size + 1 + i) else none))))))]) ++ ((List.range n.toNatClampNeg).map (fun i => H.size + 1 + i)).map (fun a => (a, .inl (cy, z)))) F.heap := hP1.app (fun k9 x hx => by
    obtain ⟨a, ha, rfl⟩ := List.mem_map.mp (List.mem_of_getElem? hx)
    obtain ⟨i, hi, rfl⟩ := List.mem_map.mp ha
    exact hrow i (List.mem_range.mp hi))
  have hD2 : va_D A (((X ++ va_pl L f) ++ [(H.size, .inl (cA, n.toNatClampNeg, .inr (.inr (.inr (.inr (fun i => if i < n.toNatClampNeg then some (H.size + 1 + i) else none))))))]) ++ ((List.range n.toNatClampNeg).map (fun i => H.size + 1 + i)).map (fun a => (a, .inl (cy, z)))) := by
    have hD1 := hD.push (e := .inl (cA, n.toNatClampNeg, .inr (.inr (.inr (.inr (fun i => if i < n.toNatClampNeg then some (H.size + 1 + i) else none)))))) hP rfl (hA _ hS.1)
    generalize hW1 : (X ++ va_pl L f) ++ [(H.size, .inl (cA, n.toNatClampNeg, .inr (.inr (.inr (.inr (fun i => if i < n.toNatClampNeg then some (H.size + 1 + i) else none))))))] = W1 at hD1 hP1 ⊢
    have hle : ∀ (k9 : Nat) (x : Nat × va_E), W1[k9]? = some x → x.1 ≤ H.size := fun k9 x hx => by
      rw [← hW1] at hx
      by_cases hl : k9 < (X ++ va_pl L f).length
      · rw [List.getElem?_append_left hl] at hx
        exact Nat.le_of_lt ((hP k9 x hx).lt)
      · rw [List.getElem?_append_right (by omega)] at hx
        have h0 : k9 - (X ++ va_pl L f).length < 1 := (List.getElem?_eq_some_iff.mp hx).1
        rw [show k9 - (X ++ va_pl L f).length = 0 by omega] at hx
        cases hx
        exact Nat.le_refl _
    have hr : ∀ (k9 : Nat) (x : Nat × va_E), (((List.range n.toNatClampNeg).map (fun i => H.size + 1 + i)).map (fun a => ((a, .inl (cy, z)) : Nat × va_E)))[k9]? = some x → x.1 = H.size + 1 + k9 := fun k9 x hx => by
      rw [List.getElem?_map, List.getElem?_map] at hx
      by_cases h9 : k9 < n.toNatClampNeg
      · rw [List.getElem?_range h9] at hx
        cases hx
        rfl
      · have hn0 : (List.range n.toNatClampNeg)[k9]? = none := List.getElem?_eq_none (by rw [List.length_range]; omega)
        rw [hn0] at hx
        cases hx
    refine ⟨fun i j x y hi hj hxy => ?_, fun k9 x hx => ?_⟩
    · by_cases h1 : i < W1.length <;> by_cases h2 : j < W1.length
      · rw [List.getElem?_append_left h1] at hi
        rw [List.getElem?_append_left h2] at hj
        exact hD1.1 i j x y hi hj hxy
      · rw [List.getElem?_append_left h1] at hi
        rw [List.getElem?_append_right (by omega)] at hj
        have := hle _ _ hi
        have := hr _ _ hj
        omega
      · rw [List.getElem?_append_right (by omega)] at hi
        rw [List.getElem?_append_left h2] at hj
        have := hle _ _ hj
        have := hr _ _ hi
        omega
      · rw [List.getElem?_append_right (by omega)] at hi hj
        have := hr _ _ hi
        have := hr _ _ hj
        omega
    · by_cases h1 : k9 < W1.length
      · rw [List.getElem?_append_left h1] at hx
        exact hD1.2 k9 x hx
      · rw [List.getElem?_append_right (by omega)] at hx
        have := hr _ _ hx
        exact hA _ (by have := hS.1; omega)
  have hAr : ArrOfT s cA (.array ty) := fun N9 z9 => by
    obtain ⟨-, k9, hk9, cm9, hkk9⟩ := (hO 0 0 0).1
    exact ⟨(fun q hq => by cases hq), k9, hk9, cm9, hkk9⟩
  have hK2 : va_K D cl (tys ++ [(cA, .array ty)]) s := ⟨hK.1, fun k9 x hx => by
    by_cases hl : k9 < tys.length
    · rw [List.getElem?_append_left hl] at hx
      exact hK.2 k9 x hx
    · rw [List.getElem?_append_right (by omega)] at hx
      have h0 : k9 - tys.length < 1 := (List.getElem?_eq_some_iff.mp hx).1
      rw [show k9 - tys.length = 0 by omega] at hx
      cases hx
      exact ⟨hAr, fA⟩⟩
  obtain ⟨t, a1, b1⟩ := kk H.size (fun i => H.size + 1 + i) cA F.heap (fun i j _ _ h => by have h9 : H.size + 1 + i = H.size + 1 + j := h; omega) hnl hK2 (by rw [← vr_rows hnm]; exact vr_lay hP2) (by rw [← vr_rows hnm]; exact vr_layD hD2) ⟨by rw [f1]; have := hS.1; omega, fun x h1 h2 => (hold x (Nat.lt_of_lt_of_le h1 hS.1)).trans (hS.2.1 x h1 h2), hS.2.2⟩ F rfl X'
  refine ⟨t, step t ?_, b1⟩
  have e : T.heap.size = H.size := by rw [hT]
  rw [e]
  exact a1
end VGM
/-! ===== END ===== -/
theorem zt_mw : Cond.arrayClass .int ∈ zgood ∧ Cond.arrayClass .long ∈ zgood := by decide +kernel
section ZH
variable {d y pc n n' : Nat} {ls : List (Nat × zV)} {st : List zV} {u u' : List (Nat × Nat)} {x m : zM} {Q : Int → zM → zM → Prop}
theorem zArrOf {s : State} {args : Array Value} {ty : FieldType} (h : (Cond.arrayClass ty).before args s = true) (hp : ty = .int ∨ ty = .long) : ∃ cA : ClassId, s.vm.findClass ("[" ++ ty.toString) = some cA ∧ ArrOfT s cA ty ∧ va_RA s cA ty := by
  obtain ⟨c, k, comp, h1, h2, h3⟩ := Cond.arrayClass_spec h
  refine ⟨c, h1, fun n z => ⟨fun k h => (by cases h), k, h2, comp, h3⟩, ?_⟩
  rcases hp with rfl | rfl <;> exact h1
theorem zrange_pick {α : Type} (l : List α) : (List.range l.length).filterMap (fun i => l[i]?) = l := by
  induction l with
  | nil => rfl
  | cons a t ih =>
    rw [List.length_cons, List.range_succ_eq_map, List.filterMap_cons]
    show a :: _ = _
    rw [List.filterMap_map]
    congr 1
def zty (lg : Bool) : FieldType := if lg then .long else .int
theorem wp_mna {lg : Bool} {idx len w : Nat} {i j : Int} {x' m' : zM} (hd : decode (zCb y) pc = .ok (.multianewarray idx 2, 4)) (hs : zSh n = (if lg then 4 else 3, n + 1, len, w)) (hi : i = len) (hj : j = w) (hl : len ≤ 10000 ∧ w ≤ 10000) (hn : n + 1 + len ≤ n') (hw : Cond.classLink (zOw y) idx (if lg then "[[J" else "[[I") ∈ zgood) (hz : (Nat.ble (n + (1 + len)) 386 = true ∧ x' = zzr x n (1 + len) ∧ m' = m) ∨ (Nat.ble 386 n = true ∧ x' = x ∧ m' = zzr m n (1 + len))) (hu0 : ∀ k j, (k, j) ∈ u → k < n)
    (kk : WP d y (pc + 4) ls (zr n :: st) (n + (1 + len)) u x' m' n' u' Q) : WP d y pc ls (zi j :: zi i :: st) n u x m n' u' Q := by
  intro p l e R s mi args below meth c0 QQ D A sc ro ad0 n0 E H locs ad lsl S
  obtain ⟨⟨hx, hb, -, hml, ho, ht, -⟩, ⟨r1, r2, r3, r4⟩, hA, hro, -⟩ := id E
  obtain ⟨s1, s2, s3, s4, s5, ⟨s6, s6b, s6c⟩, s7, s8, s9⟩ := id S
  obtain ⟨ca, tys, w1, w2, w3, w4, w5, w6⟩ := id s1
  have hrow : ∀ q, q < len → zSh (n + 1 + q) = (if lg then 6 else 5, n, q, w) := by
    intro q hq
    cases lg with
    | false =>
      have := zt_row3 n (by omega) (by rw [hs]; rfl) q (by rw [hs]; exact hq)
      rw [hs] at this
      exact this.1
    | true =>
      have := zt_row4 n (by omega) (by rw [hs]; rfl) q (by rw [hs]; exact hq)
      rw [hs] at this
      exact this.1
  have hlen0 : zLen n = len := by
    unfold zLen
    rw [hs]
    cases lg <;> rfl
  have hlenr : ∀ q, q < len → zLen (n + 1 + q) = w := by
    intro q hq
    unfold zLen
    rw [hrow q hq]
    cases lg <;> rfl
  have hslr : ∀ t, t ≤ len → zSl (n + 1 + t) = zSl n + len + t * w := by
    intro t
    induction t with
    | zero => intro _; show zSl n + zLen n = _; rw [hlen0]; omega
    | succ t ih =>
      intro h
      have := ih (by omega)
      show zSl (n + 1 + t) + zLen (n + 1 + t) = _
      rw [this, hlenr t (by omega), Nat.succ_mul]
      omega
  have hsl := hslr len (Nat.le_refl _)
  have hsl2 := zSl_mono (a := n + 1 + len) (b := n') hn
  have hsl0 := zSl_mono s6
  have hz9 := zrd_zr hz
  have hii : zIn i := zOk_hd (zOk_tl s9)
  have hjj : zIn j := zOk_hd s9
  have hk0 : (zSh n).1 ≠ 0 := by rw [hs]; cases lg <;> exact fun q => by cases q
  have hmw := zt_mw
  have hro3 : va_AOA (zty lg) s := by
    cases lg
    · exact hro.2.2.2.2.1
    · exact hro.2.2.2.2.2.1
  obtain ⟨cy, hcy, hAr, hRA⟩ := zArrOf (ty := zty lg) (ht _ (show Cond.arrayClass (zty lg) ∈ zgood by cases lg; exact hmw.1; exact hmw.2)) (by cases lg; exact Or.inl rfl; exact Or.inr rfl)
  have fin : ∀ (q : Nat) (r : Nat → Nat) (cA : ClassId) (H1 : Heap), va_K D vwCl (tys ++ [(cA, FieldType.array (zty lg))]) s →
      va_P D vwCl ((zws ca ad n u (zrd x m) ++ [(q, .inl (cA, len, .inr (.inr (.inr (.inr (fun i => if i < len then some (r i) else none))))))]) ++ (List.range len).map (fun i => (r i, .inl (cy, (w, if lg then .inr (.inl (fun _ => 0)) else .inl (fun _ => 0)))))) H1 →
      va_D A ((zws ca ad n u (zrd x m) ++ [(q, .inl (cA, len, .inr (.inr (.inr (.inr (fun i => if i < len then some (r i) else none))))))]) ++ (List.range len).map (fun i => (r i, .inl (cy, (w, if lg then .inr (.inl (fun _ => 0)) else .inl (fun _ => 0)))))) → va_S A s.heap H1 locs →
      W p l e R s mi args below meth c0 H1 locs (n - n0 + 1 + len) (zSl n - zSl n0 + len + len * w) QQ (F0 mi (pc + 4) lsl (.ref q :: st.map (zc ad))) := by
    intro q r cA H1 hK hP hD hS
    rw [List.append_assoc] at hP hD
    have had : ∀ k, k < n → (fun k => if k < n then ad k else if k = n then q else if k < n + 1 + len then r (k - (n + 1)) else ad k) k = ad k := fun k hk => if_pos hk
    have hh : ∀ k, 2000 ≤ k → (fun k => if k < n then ad k else if k = n then q else if k < n + 1 + len then r (k - (n + 1)) else ad k) k = ad k := fun k hk => by
      show (if _ then _ else _) = _
      rw [if_neg (by omega), if_neg (by omega), if_neg (by omega)]
    have hqn : (fun k => if k < n then ad k else if k = n then q else if k < n + 1 + len then r (k - (n + 1)) else ad k) n = q := by
      show (if _ then _ else _) = _
      rw [if_neg (by omega), if_pos rfl]
    have hqr : ∀ t, t < len → (fun k => if k < n then ad k else if k = n then q else if k < n + 1 + len then r (k - (n + 1)) else ad k) (n + 1 + t) = r t := fun t htt => by
      show (if _ then _ else _) = _
      rw [if_neg (by omega), if_neg (by omega), if_pos (by omega), show n + 1 + t - (n + 1) = t by omega]
    generalize (fun k => if k < n then ad k else if k = n then q else if k < n + 1 + len then r (k - (n + 1)) else ad k) = ad' at had hh hqn hqr
    have hco : ∀ k, k < n → (fun k => if k < n then ca k else if k = n then cA else cy) k = ca k := fun k hk => if_pos hk
    have hcn : (fun k => if k < n then ca k else if k = n then cA else cy) n = cA := by
      show (if _ then _ else _) = _
      rw [if_neg (by omega), if_pos rfl]
    have hcr : ∀ k, n < k → (fun k => if k < n then ca k else if k = n then cA else cy) k = cy := fun k hk => by
      show (if _ then _ else _) = _
      rw [if_neg (by omega), if_neg (by omega)]
    generalize (fun k => if k < n then ca k else if k = n then cA else cy) = ca' at hco hcn hcr
    have hW : zW s A D (n + (1 + len)) u ad' x' m' H1 := by
      refine zW_ext (tys' := [(cA, FieldType.array (zty lg)), (cy, zty lg)]) (ca := ca) (ca' := ca') (u := u) (by omega) ?_ hP hD w4 w5 w6 hco had (fun k hk j => Iff.rfl) hz9 (fun k h1 h2 => ?_) (fun k h1 h2 h0 => ?_) (fun i9 hi9 => ?_)
      · refine (hK.app (t2 := [(cy, zty lg)]) ⟨w1.1, fun k q hq => ?_⟩).sub (tys' := _) (List.range (tys ++ ([(cA, FieldType.array (zty lg))] ++ [(cy, zty lg)])).length) ?_
        · have hz1 : k < 1 := (List.getElem?_eq_some_iff.mp hq).1
          rw [show k = 0 by omega] at hq
          cases hq
          exact ⟨hAr, hRA⟩
        · rw [List.append_assoc]
          exact zrange_pick _
      · by_cases e : k = n
        · subst e
          rw [hs]
          exact ⟨fun h => (by cases lg <;> cases h), fun _ => by show k + 1 + len ≤ _; omega⟩
        · have := hrow (k - (n + 1)) (by omega)
          rw [show n + 1 + (k - (n + 1)) = k by omega] at this
          rw [this]
          exact ⟨fun h => (by cases lg <;> cases h), fun h => (by cases lg <;> rcases h with h | h <;> cases h)⟩
      · by_cases e : k = n
        · subst e
          refine ⟨tys.length, ?_⟩
          rw [List.getElem?_append_right (Nat.le_refl _), Nat.sub_self, hcn]
          have : zEt k = .array (zty lg) := by
            unfold zEt
            rw [hs]
            cases lg <;> rfl
          rw [this]
          rfl
        · refine ⟨tys.length + 1, ?_⟩
          rw [List.getElem?_append_right (by omega), show tys.length + 1 - tys.length = 1 by omega, hcr k (by omega)]
          have : zEt k = (zty lg) := by
            have h5 := hrow (k - (n + 1)) (by omega)
            rw [show n + 1 + (k - (n + 1)) = k by omega] at h5
            unfold zEt
            rw [h5]
            cases lg <;> rfl
          rw [this]
          rfl
      · by_cases e : i9 = 0
        · subst e
          refine ⟨_, by rw [Nat.add_zero, hqn]; rfl, zEq.of ?_⟩
          rw [Nat.add_zero]
          unfold zE
          rw [hs]
          have e9 : (fun i => if i < len then some (r i) else none) = (fun i => if i < len then some (ad' (n + 1 + i)) else none) := by
            funext t
            by_cases h : t < len
            · rw [if_pos h, if_pos h, hqr t h]
            · rw [if_neg h, if_neg h]
          rw [e9, hcn]
          cases lg <;> rfl
        · obtain ⟨t, rfl⟩ : ∃ t, i9 = t + 1 := ⟨i9 - 1, by omega⟩
          have htl : t < len := by omega
          refine ⟨.inl (cy, (w, if lg then .inr (.inl (fun _ => 0)) else .inl (fun _ => 0))), ?_, ?_⟩
          · rw [show n + (t + 1) = n + 1 + t by omega, hqr t htl]
            show (List.map _ (List.range len))[t]? = _
            rw [List.getElem?_map, List.getElem?_range htl]
            rfl
          · rw [show n + (t + 1) = n + 1 + t by omega]
            unfold zE
            rw [hrow t htl, hcr (n + 1 + t) (by omega)]
            cases lg
            · refine zEq.ints (fun j hj => ?_)
              rw [hz9, if_pos (by omega)]
              rfl
            · refine zEq.longs (fun j hj => ?_)
              rw [hz9, if_pos (by omega)]
              rfl
    have g := kk p l e R s mi args below meth c0 QQ D A sc ro ad0 n0 E H1 locs ad' lsl ⟨hW, hS, (zzr_2000 (by omega) hz).trans s3, fun k hk => (had k (by omega)).trans (s4 k hk), fun k hk => (hh k hk).trans (s5 k hk), ⟨by omega, by omega, s6c⟩, by
      show lv_has lsl (zMl y) (zMap _ ls)
      rw [zMap_same (n := n) had hh s8]
      exact s7, fun q hq => zOk_mono (by omega) (s8 q hq), zOk_cons (v := zr n) (Or.inl (by omega)) (fun v hv => zOk_mono (by omega) (zOk_tl (zOk_tl s9) v hv))⟩
    have e1 : n + (1 + len) - n0 = n - n0 + 1 + len := by omega
    have e2 : zSl (n + (1 + len)) - zSl n0 = zSl n - zSl n0 + len + len * w := by
      rw [show n + (1 + len) = n + 1 + len by omega]
      omega
    rw [e1, e2] at g
    have e3 : (zr n :: st).map (zc ad') = .ref q :: st.map (zc ad) := by
      rw [List.map_cons, zmap_same (n := n) had hh (zOk_tl (zOk_tl s9))]
      show Value.ref (ad' n) :: _ = _
      rw [hqn]
    rw [e3] at g
    exact g
  have hnn : ∀ {z : Int}, zIn z → 0 ≤ z → ¬ Int32.ofInt z < 0 := fun hz h0 q => by
    have := (z32_lt hz (show zIn 0 from ⟨by decide, by decide⟩)).mp q
    omega
  have hcl : (Int32.ofInt i).toNatClampNeg = len := by rw [z32_clamp hii (by omega)]; omega
  have hcj : (Int32.ofInt j).toNatClampNeg = w := by rw [z32_clamp hjj (by omega)]; omega
  have hpl : ∀ (r : Nat → Nat) (f : Nat → va_E) (e9 : va_E), va_pl ([] ++ (List.range len).map r) (vr_up f ((List.range len).map r) e9) = (List.range len).map (fun i => (r i, e9)) := by
    intro r f e9
    unfold va_pl
    rw [List.nil_append, List.map_map]
    apply List.map_congr_left
    intro a ha
    show (r a, vr_up _ _ _ (r a)) = _
    rw [vr_up_in (List.mem_map.mpr ⟨a, ha, rfl⟩)]
  have hslots : zSl n - zSl n0 + (len + len * w) ≤ R.slots := by omega
  have hP0 : va_P D vwCl (zws ca ad n u (zrd x m) ++ va_pl [] (fun _ => .inr (0, []))) H := by
    rw [show va_pl [] (fun _ => (.inr (0, []) : va_E)) = [] from rfl, List.append_nil]; exact w2
  have hD0 : va_D A (zws ca ad n u (zrd x m) ++ va_pl [] (fun _ => .inr (0, []))) := by
    rw [show va_pl [] (fun _ => (.inr (0, []) : va_E)) = [] from rfl, List.append_nil]; exact w3
  cases lg with
  | false =>
    refine va_mna (ty := .int) (z := (w, .inl (fun _ => 0))) hx hb ho (ht _ hw) hro3.use (ht _ hmw.1) hcy w1 hP0 hD0 s2 hA (hnn hii (by omega)) (hnn hjj (by omega)) hcl hcj (by omega) (by show w * 4 ≤ _; omega) (by omega) rfl rfl (by omega) hslots (fun c => arrV_new c w _) hd (fun q r cA H1 _ _ hK hP hD hS => ?_)
    rw [hpl] at hP hD
    have g := fin q r cA H1 hK hP hD hS
    exact g
  | true =>
    refine va_mna (ty := .long) (z := (w, .inr (.inl (fun _ => 0)))) hx hb ho (ht _ hw) hro3.use (ht _ hmw.2) hcy w1 hP0 hD0 s2 hA (hnn hii (by omega)) (hnn hjj (by omega)) hcl hcj (by omega) (by show w * 8 ≤ _; omega) (by omega) rfl rfl (by omega) hslots (fun c => arrV_new c w _) hd (fun q r cA H1 _ _ hK hP hD hS => ?_)
    rw [hpl] at hP hD
    have g := fin q r cA H1 hK hP hD hS
    exact g
end ZH
end
section
/-! THE LINKS, by program (wip/whole/gen16.py): what the constant pool entries of the code lead to, with their words' places among the tables' -/
abbrev zQ : Type := Nat × Nat × Nat × Nat × Int × List Nat
def zLk_0 : List zQ := [(3, 5, 0, 0, 0, [1088, 1028, 1029]), (9, 0, 0, 0, 0, [1091]), (15, 0, 0, 1, 0, [1094]), (19, 0, 0, 2, 0, [1098]), (22, 0, 0, 3, 0, [1103]), (25, 0, 0, 4, 0, [1108]), (28, 0, 0, 5, 0, [1113]), (31, 0, 0, 6, 0, [1116]), (34, 0, 0, 7, 0, [1119]), (37, 13, 0, 0, 0, [1089]), (39, 0, 0, 8, 0, [1123]), (42, 0, 0, 9, 0, [1126]), (48, 8, 0, 0, 0, [6092, 5039, 5038, 1020])]
def zLk_1 : List zQ := [(3, 5, 0, 0, 0, [3024, 1028, 1029]), (9, 0, 1, 2, 0, [3027]), (15, 0, 1, 3, 0, [3028]), (18, 0, 1, 4, 0, [3029]), (21, 0, 1, 0, 0, [3025]), (25, 0, 1, 1, 0, [3026]), (29, 1, 49, 0, 0, [5083, 3176, 3177, 1005]), (35, 0, 4, 1, 0, [1161]), (39, 0, 4, 11, 0, [1186]), (41, 0, 4, 2, 0, [1164]), (44, 2, 10, 0, 0, [5084, 5085, 1012]), (48, 0, 4, 12, 0, [1190]), (51, 0, 0, 7, 0, [1120]), (56, 0, 0, 9, 0, [1127]), (60, 7, 0, 0, 0, [5087, 4070, 1015, 4071]), (66, 0, 0, 8, 0, [1124]), (69, 0, 4, 13, 0, [1193]), (72, 0, 4, 14, 0, [1196]), (75, 0, 2, 5, 0, [1049]), (80, 6, 0, 0, 0, [5088, 4073, 1015, 4074]), (83, 1, 25, 0, 0, [5089, 3159, 3160, 1003]), (87, 1, 12, 0, 0, [5072, 5074, 24, 1012]), (91, 0, 8, 1, 0, [2122]), (97, 0, 8, 11, 0, [2159]), (101, 0, 10, 6, 0, [2054]), (106, 0, 8, 7, 0, [2142]), (110, 0, 8, 0, 0, [2118]), (113, 0, 10, 0, 0, [2036]), (116, 1, 13, 0, 0, [5090, 5092, 25, 1012]), (119, 1, 18, 0, 0, [5119, 5121, 30, 1012]), (123, 0, 8, 9, 0, [2152]), (127, 0, 4, 0, 0, [1157]), (130, 0, 4, 10, 0, [1183]), (133, 1, 53, 0, 0, [5076, 5077, 5078, 1005]), (137, 0, 10, 7, 0, [2056]), (141, 0, 8, 8, 0, [2148]), (145, 2, 9, 0, 0, [5080, 5081, 1012]), (149, 0, 10, 1, 0, [2039]), (153, 0, 10, 4, 0, [2048]), (156, 8, 0, 0, 0, [5094, 5039, 5038, 1020]), (162, 0, 10, 5, 0, [2051]), (165, 1, 14, 0, 0, [5095, 5097, 26, 1012]), (169, 1, 15, 0, 0, [5099, 5101, 27, 1012]), (172, 0, 2, 8, 0, [1061]), (175, 2, 283, 0, 0, [5111, 5112, 1009]), (181, 0, 4, 4, 0, [1170]), (184, 0, 4, 7, 0, [1176]), (187, 0, 4, 9, 0, [1180]), (190, 0, 4, 15, 0, [1199]), (192, 1, 32, 0, 0, [5103, 3221, 3222, 1011]), (197, 1, 36, 0, 0, [5104, 3228, 3229, 1011]), (200, 2, 37, 0, 0, [5105, 4067, 1011]), (203, 10, 0, 0, 100, [5106]), (205, 0, 10, 2, 0, [2042]), (208, 1, 16, 0, 0, [5107, 5109, 28, 1012]), (212, 0, 10, 3, 0, [2045]), (215, 1, 17, 0, 0, [5114, 5116, 29, 1012]), (218, 10, 0, 0, (-1), [5118]), (220, 1, 113, 0, 0, [5123, 5124, 5125, 1007]), (224, 1, 29, 0, 0, [5149, 5140, 5141, 1003])]
def zLk_2 : List zQ := [(3, 5, 0, 0, 0, [1041, 1028, 1029]), (9, 0, 2, 0, 0, [1042]), (15, 0, 2, 1, 0, [1044]), (19, 0, 2, 2, 0, [1045]), (22, 0, 2, 3, 0, [1046]), (25, 0, 2, 4, 0, [1047]), (28, 0, 2, 5, 0, [1048]), (31, 0, 2, 6, 0, [1054]), (34, 0, 2, 7, 0, [1055]), (37, 0, 2, 8, 0, [1060]), (41, 1, 23, 0, 0, [3150, 3151, 3152, 1003]), (45, 2, 284, 0, 0, [5143, 2081, 1009]), (51, 6, 0, 0, 0, [5144, 4073, 1015, 4074]), (57, 8, 0, 0, 0, [6003, 5039, 5038, 1020])]
def zLk_3 : List zQ := [(3, 5, 0, 0, 0, [3011, 1028, 1029]), (9, 0, 3, 1, 0, [3013]), (15, 0, 3, 0, 0, [3012]), (19, 2, 284, 0, 0, [3224, 2081, 1009]), (25, 0, 8, 0, 0, [2116]), (31, 0, 8, 7, 0, [2141]), (35, 0, 2, 7, 0, [1056]), (40, 1, 32, 0, 0, [3220, 3221, 3222, 1011]), (43, 0, 8, 2, 0, [2126]), (46, 0, 8, 3, 0, [2129]), (49, 0, 2, 5, 0, [1051]), (52, 0, 8, 9, 0, [2151]), (56, 1, 56, 0, 0, [3225, 3201, 3202, 1005]), (62, 0, 8, 4, 0, [2133]), (65, 1, 54, 0, 0, [3226, 3205, 3206, 1005]), (69, 0, 8, 8, 0, [2147]), (73, 0, 0, 1, 0, [1096]), (78, 1, 33, 0, 0, [3216, 3217, 3218, 1011]), (82, 0, 0, 2, 0, [1100]), (85, 0, 0, 3, 0, [1105]), (88, 0, 8, 10, 0, [2156]), (92, 1, 96, 0, 0, [3231, 3232, 3233, 1006]), (101, 1, 97, 0, 0, [4004, 4005, 4006, 1006]), (105, 7, 0, 0, 0, [4069, 4070, 1015, 4071]), (110, 6, 0, 0, 0, [4072, 4073, 1015, 4074]), (113, 1, 34, 0, 0, [4052, 4053, 4054, 1011]), (116, 1, 36, 0, 0, [3227, 3228, 3229, 1011]), (119, 1, 39, 0, 0, [4056, 4058, 6, 1011]), (122, 2, 1, 0, 0, [4060, 3171, 1004]), (126, 1, 57, 0, 0, [4061, 3167, 3168, 1005]), (129, 2, 37, 0, 0, [4066, 4067, 1011]), (132, 0, 0, 4, 0, [1111]), (135, 0, 8, 5, 0, [2136]), (138, 1, 55, 0, 0, [4079, 4080, 4081, 1005]), (142, 1, 42, 0, 0, [4083, 4085, 7, 1011]), (145, 1, 5, 0, 0, [4087, 4045, 4046, 1004]), (148, 0, 0, 7, 0, [1122]), (151, 0, 0, 8, 0, [1125]), (155, 0, 0, 9, 0, [1128]), (158, 0, 0, 6, 0, [1118]), (161, 1, 40, 0, 0, [4096, 4063, 4064, 1011]), (164, 1, 48, 0, 0, [4097, 4098, 4099, 1005]), (168, 0, 8, 6, 0, [2139]), (171, 0, 8, 1, 0, [2124]), (174, 1, 44, 0, 0, [6069, 3213, 3214, 1011])]
def zLk_4 : List zQ := [(3, 5, 0, 0, 0, [1155, 1028, 1029]), (9, 0, 4, 0, 0, [1156]), (15, 0, 4, 1, 0, [1160]), (19, 0, 4, 2, 0, [1163]), (22, 0, 4, 3, 0, [1167]), (25, 0, 4, 4, 0, [1169]), (28, 0, 4, 5, 0, [1172]), (31, 0, 4, 6, 0, [1173]), (34, 0, 4, 7, 0, [1175]), (37, 0, 4, 8, 0, [1178]), (40, 0, 4, 9, 0, [1179]), (43, 0, 4, 10, 0, [1182]), (46, 0, 4, 11, 0, [1185]), (49, 0, 4, 12, 0, [1189]), (52, 0, 4, 13, 0, [1192]), (55, 0, 4, 14, 0, [1195]), (58, 0, 4, 15, 0, [1198]), (62, 0, 0, 1, 0, [1095]), (65, 0, 0, 2, 0, [1099]), (66, 0, 0, 3, 0, [1104]), (67, 0, 0, 4, 0, [1109]), (68, 2, 47, 0, 0, [4101, 4102, 1005]), (72, 1, 49, 0, 0, [3175, 3176, 3177, 1005]), (76, 1, 52, 0, 0, [3208, 3209, 3210, 1005]), (80, 2, 1, 0, 0, [3170, 3171, 1004]), (84, 1, 51, 0, 0, [5198, 4127, 4128, 1005]), (87, 8, 0, 0, 0, [6008, 5039, 5038, 1020])]
def zLk_5 : List zQ := [(3, 5, 0, 0, 0, [3046, 1028, 1029]), (9, 0, 5, 2, 0, [3054]), (15, 13, 0, 0, 0, [3047]), (17, 0, 5, 3, 0, [3055]), (20, 12, 2, 0, 0, [3048, 1037, 1003]), (22, 4, 22, 0, 0, [1039, 1003]), (23, 0, 5, 4, 0, [3056]), (27, 12, 4, 0, 0, [3050, 1151, 1005]), (29, 4, 46, 0, 0, [1153, 1005]), (30, 0, 5, 5, 0, [3057]), (34, 0, 5, 6, 0, [3058]), (38, 0, 5, 7, 0, [3060]), (41, 0, 5, 8, 0, [3062]), (44, 0, 5, 0, 0, [3052]), (48, 0, 5, 1, 0, [3053]), (52, 0, 8, 8, 0, [2146]), (58, 0, 0, 5, 0, [1114]), (63, 1, 41, 0, 0, [5189, 4076, 4077, 1011]), (69, 1, 68, 0, 0, [5190, 5192, 31, 1013]), (73, 1, 70, 0, 0, [5214, 5216, 35, 1013]), (77, 0, 0, 0, 0, [1092]), (80, 1, 63, 0, 0, [5185, 5186, 5187, 1013]), (83, 1, 66, 0, 0, [5205, 5207, 33, 1013]), (87, 2, 282, 0, 0, [5209, 5176, 1021]), (92, 1, 67, 0, 0, [5210, 5212, 34, 1013]), (95, 0, 0, 3, 0, [1106]), (98, 0, 8, 9, 0, [2154]), (101, 0, 8, 0, 0, [2119]), (104, 1, 60, 0, 0, [5194, 5195, 5196, 1005]), (107, 1, 40, 0, 0, [5199, 4063, 4064, 1011]), (110, 1, 69, 0, 0, [5200, 5202, 32, 1013]), (114, 0, 0, 4, 0, [1110]), (117, 0, 0, 2, 0, [1101]), (120, 2, 47, 0, 0, [5204, 4102, 1005]), (124, 0, 8, 7, 0, [2144]), (127, 0, 2, 7, 0, [1059]), (130, 0, 8, 13, 0, [2164]), (133, 0, 8, 14, 0, [2167]), (136, 1, 71, 0, 0, [5218, 5220, 36, 1013]), (140, 1, 30, 0, 0, [5239, 6000, 6001, 1003]), (144, 1, 61, 0, 0, [6004, 6005, 6006, 1005]), (147, 1, 73, 0, 0, [6009, 6011, 37, 1013]), (150, 1, 74, 0, 0, [6014, 6016, 38, 1013]), (154, 0, 4, 0, 0, [1158]), (155, 0, 4, 2, 0, [1165]), (158, 0, 4, 11, 0, [1187]), (160, 2, 9, 0, 0, [6013, 5081, 1012]), (166, 0, 8, 1, 0, [2123]), (169, 0, 2, 5, 0, [1053]), (172, 1, 57, 0, 0, [6018, 3167, 3168, 1005])]
def zLk_6 : List zQ := [(3, 5, 0, 0, 0, [2205, 1028, 1029]), (9, 0, 6, 0, 0, [2206]), (15, 0, 6, 1, 0, [2207]), (19, 0, 6, 2, 0, [2209]), (22, 0, 6, 3, 0, [2210]), (25, 0, 6, 4, 0, [2211]), (28, 0, 6, 5, 0, [2212]), (31, 0, 6, 6, 0, [2213]), (34, 0, 6, 7, 0, [2215]), (37, 0, 6, 8, 0, [2217]), (40, 0, 6, 9, 0, [2219]), (43, 0, 6, 10, 0, [2221]), (46, 1, 87, 0, 0, [4163, 4165, 9, 1010]), (49, 1, 86, 0, 0, [4237, 4239, 13, 1010]), (53, 1, 78, 0, 0, [5001, 5003, 14, 1010]), (57, 1, 79, 0, 0, [5005, 5007, 15, 1010]), (60, 1, 85, 0, 0, [5029, 5031, 21, 1010]), (63, 1, 80, 0, 0, [5009, 5011, 16, 1010]), (66, 1, 81, 0, 0, [5013, 5015, 17, 1010]), (69, 1, 82, 0, 0, [5017, 5019, 18, 1010]), (72, 1, 83, 0, 0, [5021, 5023, 19, 1010]), (75, 1, 84, 0, 0, [5025, 5027, 20, 1010]), (78, 2, 91, 0, 0, [4167, 4168, 1010]), (81, 1, 88, 0, 0, [4170, 4172, 10, 1010]), (84, 2, 92, 0, 0, [4174, 4175, 1010]), (87, 1, 89, 0, 0, [4177, 4179, 11, 1010]), (90, 2, 93, 0, 0, [4234, 4235, 1010]), (93, 1, 90, 0, 0, [4181, 4183, 12, 1010])]
def zLk_7 : List zQ := [(3, 5, 0, 0, 0, [1239, 1028, 1029]), (9, 0, 7, 0, 0, [2001]), (15, 0, 7, 1, 0, [2003]), (19, 0, 7, 2, 0, [2004]), (22, 0, 7, 3, 0, [2005]), (25, 0, 7, 4, 0, [2006]), (28, 0, 7, 5, 0, [2007]), (31, 13, 0, 0, 0, [2000]), (33, 0, 7, 6, 0, [2008]), (36, 0, 7, 7, 0, [2009]), (39, 0, 6, 8, 0, [2218]), (43, 0, 6, 9, 0, [2220]), (45, 0, 6, 7, 0, [2216]), (48, 0, 6, 6, 0, [2214]), (50, 8, 0, 0, 0, [5037, 5039, 5038, 1020]), (56, 1, 98, 0, 0, [3235, 3237, 4, 1006]), (60, 2, 99, 0, 0, [3239, 4000, 1006])]
def zLk_8 : List zQ := [(3, 5, 0, 0, 0, [1035, 1028, 1029]), (9, 0, 8, 0, 0, [2115]), (15, 0, 8, 1, 0, [2120]), (18, 0, 8, 2, 0, [2125]), (22, 0, 8, 3, 0, [2128]), (25, 0, 8, 4, 0, [2131]), (28, 0, 8, 5, 0, [2134]), (31, 0, 8, 6, 0, [2137]), (34, 12, 2, 0, 0, [1036, 1037, 1003]), (36, 4, 22, 0, 0, [1039, 1003]), (37, 0, 8, 7, 0, [2140]), (41, 12, 0, 0, 0, [1083, 1084, 1004]), (43, 4, 0, 0, 0, [1086, 1004]), (44, 0, 8, 8, 0, [2145]), (48, 12, 4, 0, 0, [1150, 1151, 1005]), (50, 4, 46, 0, 0, [1153, 1005]), (51, 0, 8, 9, 0, [2150]), (55, 12, 7, 0, 0, [1234, 1235, 1006]), (57, 4, 94, 0, 0, [1237, 1006]), (58, 0, 8, 10, 0, [2155]), (62, 12, 10, 0, 0, [2027, 2028, 1007]), (64, 4, 112, 0, 0, [2030, 1007]), (65, 0, 8, 11, 0, [2158]), (69, 12, 9, 0, 0, [2074, 2075, 1008]), (71, 3, 106, 0, 0, [2076, 2077, 1008]), (72, 0, 8, 12, 0, [2161]), (76, 0, 8, 13, 0, [2163]), (79, 13, 0, 0, 0, [2114]), (81, 0, 8, 14, 0, [2166]), (84, 1, 25, 0, 0, [3158, 3159, 3160, 1003]), (88, 0, 2, 7, 0, [1057]), (91, 0, 2, 5, 0, [1050]), (94, 1, 28, 0, 0, [4012, 4013, 4014, 1003]), (98, 8, 0, 0, 0, [6086, 5039, 5038, 1020]), (104, 1, 30, 0, 0, [6087, 6000, 6001, 1003]), (108, 1, 7, 0, 0, [6088, 6089, 6090, 1004]), (111, 1, 61, 0, 0, [6093, 6005, 6006, 1005]), (114, 1, 100, 0, 0, [6094, 6095, 6096, 1006]), (117, 1, 114, 0, 0, [6098, 6099, 6100, 1007]), (120, 1, 111, 0, 0, [6103, 6104, 6105, 1008])]
def zLk_9 : List zQ := [(3, 5, 0, 0, 0, [2079, 1028, 1029]), (9, 0, 9, 0, 0, [2083]), (15, 0, 9, 1, 0, [2085]), (19, 0, 9, 2, 0, [2087]), (22, 0, 9, 3, 0, [2088]), (25, 0, 9, 4, 0, [2089]), (28, 0, 9, 5, 0, [2091]), (31, 0, 9, 6, 0, [2093]), (34, 0, 9, 7, 0, [2095]), (37, 2, 284, 0, 0, [2080, 2081, 1009]), (43, 1, 110, 0, 0, [6040, 6042, 39, 1008]), (47, 8, 0, 0, 0, [6107, 5039, 5038, 1020])]
def zLk_10 : List zQ := [(3, 5, 0, 0, 0, [2032, 1028, 1029]), (9, 0, 10, 0, 0, [2035]), (15, 14, 0, 0, 0, [2033]), (17, 0, 10, 1, 0, [2038]), (20, 0, 10, 2, 0, [2041]), (23, 0, 10, 3, 0, [2044]), (26, 0, 10, 4, 0, [2047]), (29, 0, 10, 5, 0, [2050]), (32, 0, 10, 6, 0, [2053]), (36, 0, 10, 7, 0, [2055]), (40, 8, 0, 0, 0, [6102, 5039, 5038, 1020])]
def zLk_11 : List zQ := [(1, 5, 0, 0, 0, [1027, 1028, 1029]), (7, 12, 8, 0, 0, [1030, 1031, 1002]), (9, 4, 101, 0, 0, [1033, 1002]), (10, 0, 11, 0, 0, [3083]), (16, 0, 11, 1, 0, [3084]), (19, 0, 11, 2, 0, [3085]), (23, 12, 6, 0, 0, [2200, 2201, 1010]), (25, 4, 75, 0, 0, [2203, 1010]), (26, 0, 11, 3, 0, [3086]), (30, 0, 11, 7, 0, [3090]), (34, 0, 11, 8, 0, [3091]), (38, 0, 11, 9, 0, [3092]), (41, 12, 3, 0, 0, [3006, 3007, 1011]), (43, 3, 31, 0, 0, [3008, 3009, 1011]), (46, 0, 11, 4, 0, [3087]), (50, 12, 1, 0, 0, [3019, 3020, 1012]), (52, 3, 8, 0, 0, [3021, 3022, 1012]), (55, 0, 11, 5, 0, [3088]), (59, 12, 5, 0, 0, [3041, 3042, 1013]), (61, 3, 62, 0, 0, [3043, 3044, 1013]), (62, 0, 11, 6, 0, [3089]), (66, 2, 163, 0, 0, [3118, 3119, 1001]), (70, 1, 161, 0, 0, [3121, 3123, 0, 1001]), (74, 0, 8, 1, 0, [2121]), (77, 1, 102, 0, 0, [3125, 3126, 3127, 1002]), (81, 1, 164, 0, 0, [3133, 3135, 1, 1001]), (85, 1, 162, 0, 0, [3137, 3139, 2, 1001]), (88, 0, 8, 4, 0, [2132]), (91, 0, 8, 0, 0, [2117]), (94, 0, 8, 5, 0, [2135]), (97, 9, 0, 0, 99999, [3145]), (98, 0, 8, 7, 0, [2143]), (102, 1, 24, 0, 0, [3146, 3147, 3148, 1003]), (107, 0, 8, 6, 0, [2138]), (110, 1, 103, 0, 0, [3154, 3155, 3156, 1002]), (114, 0, 2, 5, 0, [1052]), (117, 0, 8, 9, 0, [2153]), (121, 1, 57, 0, 0, [3166, 3167, 3168, 1005]), (126, 0, 2, 7, 0, [1058]), (129, 9, 0, 0, (-99999), [3183]), (130, 1, 167, 0, 0, [3188, 3190, 3, 1001]), (133, 1, 26, 0, 0, [3192, 3193, 3194, 1003]), (136, 0, 8, 2, 0, [2127]), (139, 0, 8, 3, 0, [2130]), (142, 1, 56, 0, 0, [3200, 3201, 3202, 1005]), (145, 1, 54, 0, 0, [3204, 3205, 3206, 1005]), (148, 1, 44, 0, 0, [3212, 3213, 3214, 1011]), (151, 1, 104, 0, 0, [4008, 4009, 4010, 1002]), (154, 0, 8, 8, 0, [2149]), (158, 0, 0, 0, 0, [1093]), (163, 1, 2, 0, 0, [4020, 4021, 4022, 1004]), (167, 1, 165, 0, 0, [4028, 4030, 5, 1001]), (170, 0, 0, 1, 0, [1097]), (173, 1, 4, 0, 0, [4032, 4033, 4034, 1004]), (177, 0, 0, 5, 0, [1115]), (180, 0, 0, 7, 0, [1121]), (183, 1, 3, 0, 0, [4036, 4037, 4038, 1004]), (186, 0, 0, 2, 0, [1102]), (189, 0, 0, 3, 0, [1107]), (192, 0, 0, 4, 0, [1112]), (195, 1, 5, 0, 0, [4044, 4045, 4046, 1004]), (198, 1, 38, 0, 0, [4048, 4049, 4050, 1011]), (201, 1, 40, 0, 0, [4062, 4063, 4064, 1011]), (204, 1, 41, 0, 0, [4075, 4076, 4077, 1011]), (207, 0, 0, 6, 0, [1117]), (210, 1, 43, 0, 0, [4092, 4093, 4094, 1011]), (214, 1, 166, 0, 0, [4108, 4110, 8, 1001]), (217, 0, 4, 11, 0, [1188]), (220, 1, 49, 0, 0, [4112, 3176, 3177, 1005]), (223, 0, 4, 2, 0, [1166]), (224, 1, 50, 0, 0, [4113, 4114, 4115, 1005]), (227, 0, 4, 1, 0, [1162]), (230, 0, 4, 6, 0, [1174]), (233, 0, 4, 7, 0, [1177]), (236, 0, 4, 9, 0, [1181]), (239, 1, 52, 0, 0, [4121, 3209, 3210, 1005]), (242, 0, 4, 10, 0, [1184]), (245, 0, 4, 12, 0, [1191]), (248, 0, 4, 13, 0, [1194]), (251, 0, 4, 14, 0, [1197]), (254, 1, 51, 0, 0, [4126, 4127, 4128, 1005]), (257, 0, 4, 3, 0, [1168]), (258, 2, 1, 0, 0, [4134, 3171, 1004]), (261, 0, 4, 4, 0, [1171]), (262, 1, 6, 0, 0, [4139, 4140, 4141, 1004]), (265, 0, 6, 1, 0, [2208]), (266, 1, 76, 0, 0, [4147, 4148, 4149, 1010]), (269, 0, 8, 10, 0, [2157]), (273, 0, 7, 0, 0, [2002]), (276, 1, 77, 0, 0, [4159, 4160, 4161, 1010]), (280, 0, 6, 10, 0, [2222]), (283, 1, 95, 0, 0, [5033, 5034, 5035, 1006]), (286, 1, 168, 0, 0, [5045, 5047, 22, 1001]), (289, 1, 169, 0, 0, [5049, 5051, 23, 1001]), (292, 1, 36, 0, 0, [5055, 3228, 3229, 1011]), (295, 1, 35, 0, 0, [5060, 5061, 5062, 1011]), (298, 1, 11, 0, 0, [5068, 5069, 5070, 1012]), (302, 0, 2, 8, 0, [1062]), (306, 0, 8, 11, 0, [2160]), (310, 0, 10, 0, 0, [2037]), (315, 0, 10, 1, 0, [2040]), (319, 0, 10, 2, 0, [2043]), (322, 0, 10, 3, 0, [2046]), (325, 0, 10, 4, 0, [2049]), (328, 0, 10, 5, 0, [2052]), (331, 1, 29, 0, 0, [5139, 5140, 5141, 1003]), (335, 1, 19, 0, 0, [5145, 5146, 5147, 1012]), (338, 1, 20, 0, 0, [5154, 5155, 5156, 1012]), (341, 1, 21, 0, 0, [5158, 5159, 5160, 1012]), (344, 0, 8, 14, 0, [2168]), (348, 0, 8, 13, 0, [2165]), (350, 2, 284, 0, 0, [5170, 2081, 1009]), (356, 2, 282, 0, 0, [5175, 5176, 1021]), (361, 1, 65, 0, 0, [5181, 5182, 5183, 1013]), (364, 1, 63, 0, 0, [5226, 5186, 5187, 1013]), (367, 1, 64, 0, 0, [5227, 5228, 5229, 1013]), (370, 1, 72, 0, 0, [5235, 5236, 5237, 1013]), (373, 0, 5, 6, 0, [3059]), (376, 0, 5, 7, 0, [3061]), (379, 0, 5, 8, 0, [3063]), (382, 0, 8, 12, 0, [2162]), (386, 0, 9, 0, 0, [2084]), (391, 9, 0, 0, 9999999, [6027]), (392, 0, 9, 1, 0, [2086]), (395, 1, 107, 0, 0, [6028, 6029, 6030, 1008]), (398, 1, 109, 0, 0, [6036, 6037, 6038, 1008]), (401, 9, 0, 0, (-9999999), [6048]), (402, 0, 9, 4, 0, [2090]), (405, 1, 108, 0, 0, [6049, 6050, 6051, 1008]), (408, 0, 9, 5, 0, [2092]), (411, 0, 9, 6, 0, [2094]), (414, 0, 9, 7, 0, [2096]), (417, 0, 2, 0, 0, [1043]), (418, 0, 4, 0, 0, [1159]), (419, 1, 58, 0, 0, [6061, 6062, 6063, 1005]), (422, 1, 45, 0, 0, [6065, 6066, 6067, 1011]), (425, 1, 27, 0, 0, [6070, 6071, 6072, 1003]), (428, 1, 59, 0, 0, [6074, 6075, 6076, 1005]), (431, 1, 105, 0, 0, [6082, 6083, 6084, 1002]), (434, 8, 0, 0, 0, [6132, 5039, 5038, 1020]), (440, 1, 34, 0, 0, [5053, 4053, 4054, 1011]), (443, 1, 33, 0, 0, [5054, 3217, 3218, 1011])]
def zLk_12 : List zQ := [(1, 5, 0, 0, 0, [6142, 1028, 1029]), (7, 0, 12, 0, 0, [6163]), (13, 0, 12, 1, 0, [6164]), (16, 0, 12, 2, 0, [6165]), (19, 0, 12, 3, 0, [6166]), (23, 0, 12, 4, 0, [6167]), (26, 0, 12, 5, 0, [6168]), (29, 0, 12, 7, 0, [6170]), (32, 0, 12, 8, 0, [6171]), (35, 0, 12, 10, 0, [6173]), (39, 0, 12, 11, 0, [6174]), (42, 10, 0, 0, 1651469924, [6143]), (44, 10, 0, 0, 465625246068, [6144]), (46, 10, 0, 0, 1918989413, [6145]), (48, 10, 0, 0, 32199693642659429, [6146]), (50, 10, 0, 0, 6580598, [6147]), (52, 10, 0, 0, 28270034923122292, [6148]), (54, 10, 0, 0, 2003792491, [6149]), (56, 10, 0, 0, 126943972648308, [6150]), (58, 10, 0, 0, 495556388196, [6151]), (60, 10, 0, 0, 1870095716, [6152]), (62, 10, 0, 0, 117026742756708, [6153]), (64, 10, 0, 0, 1818326117, [6154]), (66, 10, 0, 0, 1802071652, [6155]), (68, 10, 0, 0, 7566701, [6156]), (70, 10, 0, 0, 2003133803, [6157]), (72, 10, 0, 0, 1667330920, [6158]), (74, 10, 0, 0, 26982, [6159]), (76, 10, 0, 0, 28530, [6160]), (78, 10, 0, 0, 6385252, [6161]), (80, 10, 0, 0, 7237492, [6162]), (82, 0, 12, 20, 0, [6183]), (85, 0, 12, 21, 0, [6184]), (88, 0, 12, 22, 0, [6185]), (91, 0, 12, 24, 0, [6187]), (94, 0, 12, 25, 0, [6188]), (97, 0, 12, 26, 0, [6189]), (100, 0, 12, 27, 0, [6190]), (103, 1, 172, 0, 0, [7015, 7017, 40, 1014]), (107, 2, 171, 0, 0, [7012, 7013, 1014]), (111, 1, 177, 0, 0, [7040, 7042, 44, 1014]), (115, 1, 180, 0, 0, [7052, 7054, 47, 1014]), (119, 1, 174, 0, 0, [7023, 7025, 41, 1014]), (123, 1, 173, 0, 0, [7027, 7029, 42, 1014]), (126, 9, 0, 0, 99999, [7035]), (127, 1, 179, 0, 0, [7036, 7038, 43, 1014]), (131, 1, 178, 0, 0, [7044, 7046, 45, 1014]), (135, 1, 181, 0, 0, [7048, 7050, 46, 1014]), (138, 1, 193, 0, 0, [7060, 7062, 48, 1014]), (141, 9, 0, 0, (-99999), [7079]), (142, 1, 191, 0, 0, [7064, 7066, 49, 1014]), (145, 1, 190, 0, 0, [7071, 7073, 50, 1014]), (148, 2, 188, 0, 0, [7068, 7069, 1014]), (151, 1, 194, 0, 0, [7108, 7110, 56, 1014]), (154, 1, 195, 0, 0, [7104, 7106, 55, 1014]), (157, 1, 196, 0, 0, [7100, 7102, 54, 1014]), (160, 1, 197, 0, 0, [7096, 7098, 53, 1014]), (163, 1, 235, 0, 0, [7116, 7118, 58, 1014]), (166, 0, 12, 23, 0, [6186]), (169, 1, 192, 0, 0, [7088, 7090, 51, 1014]), (172, 1, 198, 0, 0, [7092, 7094, 52, 1014]), (175, 1, 199, 0, 0, [7112, 7114, 57, 1014]), (178, 1, 200, 0, 0, [7131, 7133, 61, 1014]), (181, 1, 175, 0, 0, [7143, 7145, 62, 1014]), (184, 1, 204, 0, 0, [7151, 7153, 63, 1014]), (187, 1, 205, 0, 0, [7155, 7157, 64, 1014]), (190, 1, 207, 0, 0, [7167, 7169, 67, 1014]), (193, 2, 189, 0, 0, [7171, 7172, 1014]), (196, 1, 208, 0, 0, [7174, 7176, 68, 1014]), (199, 1, 206, 0, 0, [7159, 7161, 65, 1014]), (202, 1, 209, 0, 0, [7163, 7165, 66, 1014]), (205, 1, 176, 0, 0, [7186, 7188, 69, 1014]), (208, 2, 215, 0, 0, [7202, 7203, 1014]), (211, 0, 12, 9, 0, [6172]), (214, 0, 12, 12, 0, [6175]), (217, 0, 12, 14, 0, [6177]), (220, 0, 12, 15, 0, [6178]), (223, 0, 12, 13, 0, [6176]), (226, 1, 220, 0, 0, [7225, 7227, 71, 1014]), (229, 0, 12, 18, 0, [6181]), (232, 0, 12, 17, 0, [6180]), (235, 0, 12, 16, 0, [6179]), (238, 0, 12, 19, 0, [6182]), (242, 1, 221, 0, 0, [7221, 7223, 70, 1014]), (245, 1, 225, 0, 0, [7233, 7235, 73, 1014]), (248, 1, 222, 0, 0, [8005, 8007, 76, 1014]), (252, 1, 226, 0, 0, [7237, 7239, 74, 1014]), (255, 1, 223, 0, 0, [8001, 8003, 75, 1014]), (259, 1, 227, 0, 0, [8009, 8011, 77, 1014]), (262, 1, 228, 0, 0, [8013, 8015, 78, 1014]), (265, 1, 229, 0, 0, [8017, 8019, 79, 1014]), (268, 1, 224, 0, 0, [7229, 7231, 72, 1014]), (271, 1, 230, 0, 0, [8021, 8023, 80, 1014]), (274, 2, 232, 0, 0, [7128, 7129, 1014]), (277, 1, 234, 0, 0, [7120, 7122, 59, 1014]), (279, 1, 233, 0, 0, [7124, 7126, 60, 1014]), (282, 1, 236, 0, 0, [8029, 8031, 81, 1014]), (285, 1, 239, 0, 0, [8053, 8055, 85, 1014]), (288, 1, 240, 0, 0, [8049, 8051, 84, 1014]), (291, 2, 243, 0, 0, [8061, 8062, 1014]), (294, 10, 0, 0, 100, [8064]), (296, 1, 245, 0, 0, [8065, 8067, 87, 1014]), (300, 1, 242, 0, 0, [8069, 8071, 88, 1014]), (304, 1, 241, 0, 0, [8045, 8047, 83, 1014]), (308, 1, 244, 0, 0, [8057, 8059, 86, 1014]), (311, 1, 246, 0, 0, [8041, 8043, 82, 1014]), (314, 1, 249, 0, 0, [8081, 8083, 89, 1014]), (317, 1, 251, 0, 0, [8089, 8091, 90, 1014]), (321, 1, 258, 0, 0, [8132, 8134, 96, 1014]), (325, 2, 260, 0, 0, [8109, 8110, 1014]), (328, 1, 261, 0, 0, [8124, 8126, 94, 1014]), (332, 1, 256, 0, 0, [8112, 8114, 91, 1014]), (335, 1, 257, 0, 0, [8116, 8118, 92, 1014]), (338, 1, 262, 0, 0, [8120, 8122, 93, 1014]), (341, 1, 259, 0, 0, [8128, 8130, 95, 1014]), (344, 1, 265, 0, 0, [8144, 8146, 97, 1014]), (347, 9, 0, 0, 9999999, [8156]), (348, 9, 0, 0, (-9999999), [8165]), (349, 0, 12, 6, 0, [6169])]
def zLk_13 : List zQ := [(7, 12, 11, 0, 0, [1022, 1023, 1001]), (9, 3, 115, 0, 0, [1024, 1025, 1001]), (10, 12, 12, 0, 0, [6137, 6138, 1014]), (12, 3, 170, 0, 0, [6139, 6140, 1014]), (13, 1, 116, 0, 0, [3114, 3115, 3116, 1001]), (17, 1, 182, 0, 0, [7008, 7009, 7010, 1014]), (18, 1, 117, 0, 0, [3129, 3130, 3131, 1001]), (21, 1, 183, 0, 0, [7019, 7020, 7021, 1014]), (22, 1, 118, 0, 0, [3141, 3142, 3143, 1001]), (25, 1, 184, 0, 0, [7031, 7032, 7033, 1014]), (26, 1, 119, 0, 0, [3162, 3163, 3164, 1001]), (29, 1, 185, 0, 0, [7056, 7057, 7058, 1014]), (30, 1, 120, 0, 0, [3179, 3180, 3181, 1001]), (34, 1, 186, 0, 0, [7075, 7076, 7077, 1014]), (35, 1, 121, 0, 0, [3184, 3185, 3186, 1001]), (38, 1, 187, 0, 0, [7080, 7081, 7082, 1014]), (39, 1, 122, 0, 0, [3196, 3197, 3198, 1001]), (42, 1, 201, 0, 0, [7084, 7085, 7086, 1014]), (43, 1, 123, 0, 0, [4016, 4017, 4018, 1001]), (46, 1, 202, 0, 0, [7135, 7136, 7137, 1014]), (47, 1, 124, 0, 0, [4024, 4025, 4026, 1001]), (50, 1, 203, 0, 0, [7139, 7140, 7141, 1014]), (51, 1, 125, 0, 0, [4040, 4041, 4042, 1001]), (54, 1, 210, 0, 0, [7147, 7148, 7149, 1014]), (55, 1, 126, 0, 0, [4088, 4089, 4090, 1001]), (59, 1, 211, 0, 0, [7178, 7179, 7180, 1014]), (60, 1, 127, 0, 0, [4104, 4105, 4106, 1001]), (63, 1, 212, 0, 0, [7182, 7183, 7184, 1014]), (64, 1, 128, 0, 0, [4117, 4118, 4119, 1001]), (67, 1, 213, 0, 0, [7190, 7191, 7192, 1014]), (68, 1, 129, 0, 0, [4122, 4123, 4124, 1001]), (71, 1, 214, 0, 0, [7194, 7195, 7196, 1014]), (72, 1, 130, 0, 0, [4130, 4131, 4132, 1001]), (75, 1, 216, 0, 0, [7198, 7199, 7200, 1014]), (76, 1, 131, 0, 0, [4135, 4136, 4137, 1001]), (79, 1, 217, 0, 0, [7205, 7206, 7207, 1014]), (80, 1, 132, 0, 0, [4143, 4144, 4145, 1001]), (83, 1, 218, 0, 0, [7209, 7210, 7211, 1014]), (84, 1, 133, 0, 0, [4151, 4152, 4153, 1001]), (88, 1, 219, 0, 0, [7213, 7214, 7215, 1014]), (89, 1, 134, 0, 0, [4155, 4156, 4157, 1001]), (92, 1, 231, 0, 0, [7217, 7218, 7219, 1014]), (93, 1, 135, 0, 0, [5041, 5042, 5043, 1001]), (96, 1, 237, 0, 0, [8025, 8026, 8027, 1014]), (97, 1, 136, 0, 0, [5056, 5057, 5058, 1001]), (100, 1, 238, 0, 0, [8033, 8034, 8035, 1014]), (101, 1, 137, 0, 0, [5064, 5065, 5066, 1001]), (104, 1, 247, 0, 0, [8037, 8038, 8039, 1014]), (105, 1, 138, 0, 0, [5127, 5128, 5129, 1001]), (108, 1, 248, 0, 0, [8073, 8074, 8075, 1014]), (109, 1, 139, 0, 0, [5131, 5132, 5133, 1001]), (113, 1, 250, 0, 0, [8077, 8078, 8079, 1014]), (114, 1, 140, 0, 0, [5135, 5136, 5137, 1001]), (118, 1, 252, 0, 0, [8085, 8086, 8087, 1014]), (119, 1, 141, 0, 0, [5150, 5151, 5152, 1001]), (122, 1, 253, 0, 0, [8093, 8094, 8095, 1014]), (123, 1, 142, 0, 0, [5162, 5163, 5164, 1001]), (126, 1, 254, 0, 0, [8097, 8098, 8099, 1014]), (127, 1, 143, 0, 0, [5166, 5167, 5168, 1001]), (130, 1, 255, 0, 0, [8101, 8102, 8103, 1014]), (131, 1, 144, 0, 0, [5171, 5172, 5173, 1001]), (134, 1, 263, 0, 0, [8105, 8106, 8107, 1014]), (135, 1, 145, 0, 0, [5222, 5223, 5224, 1001]), (138, 1, 264, 0, 0, [8136, 8137, 8138, 1014]), (139, 1, 146, 0, 0, [5231, 5232, 5233, 1001]), (142, 1, 266, 0, 0, [8140, 8141, 8142, 1014]), (143, 1, 147, 0, 0, [6019, 6020, 6021, 1001]), (146, 1, 267, 0, 0, [8148, 8149, 8150, 1014]), (147, 1, 148, 0, 0, [6023, 6024, 6025, 1001]), (150, 1, 268, 0, 0, [8152, 8153, 8154, 1014]), (151, 1, 149, 0, 0, [6032, 6033, 6034, 1001]), (154, 1, 269, 0, 0, [8157, 8158, 8159, 1014]), (155, 1, 150, 0, 0, [6044, 6045, 6046, 1001]), (158, 1, 270, 0, 0, [8161, 8162, 8163, 1014]), (159, 1, 151, 0, 0, [6053, 6054, 6055, 1001]), (162, 1, 271, 0, 0, [8166, 8167, 8168, 1014]), (163, 1, 152, 0, 0, [6057, 6058, 6059, 1001]), (166, 1, 272, 0, 0, [8170, 8171, 8172, 1014]), (167, 1, 153, 0, 0, [6078, 6079, 6080, 1001]), (170, 1, 273, 0, 0, [8174, 8175, 8176, 1014]), (171, 1, 154, 0, 0, [6108, 6109, 6110, 1001]), (174, 1, 274, 0, 0, [8178, 8179, 8180, 1014]), (175, 1, 155, 0, 0, [6112, 6113, 6114, 1001]), (178, 1, 275, 0, 0, [8182, 8183, 8184, 1014]), (179, 1, 156, 0, 0, [6116, 6117, 6118, 1001]), (182, 1, 276, 0, 0, [8186, 8187, 8188, 1014]), (183, 1, 157, 0, 0, [6120, 6121, 6122, 1001]), (186, 1, 277, 0, 0, [8190, 8191, 8192, 1014]), (187, 1, 158, 0, 0, [6124, 6125, 6126, 1001]), (190, 1, 278, 0, 0, [8194, 8195, 8196, 1014]), (191, 1, 159, 0, 0, [6128, 6129, 6130, 1001]), (194, 1, 279, 0, 0, [8198, 8199, 8200, 1014]), (195, 1, 160, 0, 0, [6133, 6134, 6135, 1001]), (198, 1, 280, 0, 0, [8202, 8203, 8204, 1014])]
def zLk_14 : List zQ := [(265, 9, 0, 0, 1431655765, [5178]), (266, 9, 0, 0, 858993459, [5179]), (267, 9, 0, 0, 252645135, [5180])]
def zLk_15 : List zQ := []
def zLk (k : Nat) : List zQ := (bif Nat.ble k 7 then (bif Nat.ble k 3 then (bif Nat.ble k 1 then (bif Nat.ble k 0 then zLk_0 else zLk_1) else (bif Nat.ble k 2 then zLk_2 else zLk_3)) else (bif Nat.ble k 5 then (bif Nat.ble k 4 then zLk_4 else zLk_5) else (bif Nat.ble k 6 then zLk_6 else zLk_7))) else (bif Nat.ble k 11 then (bif Nat.ble k 9 then (bif Nat.ble k 8 then zLk_8 else zLk_9) else (bif Nat.ble k 10 then zLk_10 else zLk_11)) else (bif Nat.ble k 13 then (bif Nat.ble k 12 then zLk_12 else zLk_13) else (bif Nat.ble k 14 then zLk_14 else zLk_15))))
/-- the words of a link -/
def zWd (own : String) : zQ → List Cond
  | (idx, 0, a, b, _, _) => [Cond.fieldLink own idx ((zCl a).2.1 b).1 ((zCl a).2.1 b).2.1 ((zCl a).2.1 b).2.2.1]
  | (idx, 1, a, _, _, _) => [Cond.methodLink own idx (zNm a), Cond.instanceMethod (zNm a), Cond.selects (zNm a).cls (zNm a) (zNm a), Cond.initialized (zNm a).cls]
  | (idx, 2, a, _, _, _) => [Cond.methodLink own idx (zNm a), Cond.static (zNm a), Cond.initialized (zNm a).cls]
  | (idx, 3, a, _, _, _) => [Cond.methodLink own idx (zNm a), Cond.instanceMethod (zNm a), Cond.initialized (zNm a).cls]
  | (_, 4, a, _, _, _) => [Cond.instanceMethod (zNm a), Cond.initialized (zNm a).cls]
  | (idx, 5, _, _, _, _) => [Cond.methodLink own idx Lib.objectInit, Cond.instanceMethod Lib.objectInit, Cond.code Lib.objectInit ⟨#[0xb1]⟩ 1 none]
  | (idx, 6, _, _, _, _) => [Cond.methodLink own idx Lib.Math.max.name, Cond.static Lib.Math.max.name, Cond.initialized "java/lang/Math", Cond.code Lib.Math.max.name Lib.Math.max.code 2 (some .int)]
  | (idx, 7, _, _, _, _) => [Cond.methodLink own idx Lib.Math.min.name, Cond.static Lib.Math.min.name, Cond.initialized "java/lang/Math", Cond.code Lib.Math.min.name Lib.Math.min.code 2 (some .int)]
  | (idx, 8, _, _, _, _) => [Cond.methodLink own idx arraycopyName, Cond.native arraycopyName, Cond.static arraycopyName, Cond.initialized "java/lang/System"]
  | (idx, 9, _, _, z, _) => [Cond.constant own idx (Int32.ofInt z)]
  | (idx, 10, _, _, z, _) => [Cond.constantLong own idx (Int64.ofInt z)]
  | (idx, 12, a, _, _, _) => [Cond.classLink own idx (zCl a).1, Cond.instantiable (zCl a).1 (zCl a).2.2, Cond.initialized (zCl a).1]
  | (idx, 13, _, _, _, _) => [Cond.classLink own idx "[[I"]
  | (idx, 14, _, _, _, _) => [Cond.classLink own idx "[[J"]
  | _ => []
def zChunk (k : Nat) : List Cond := match k with
  | 0 => k2_sels lw_privs
  | 1 => tables_1_1
  | 2 => tables_1_2
  | 3 => tables_1_3
  | 4 => tables_1_4
  | 5 => tables_1_5
  | 6 => tables_1_6
  | 7 => tables_1_7
  | _ => tables_1_8
def zmemAt : List Cond → Nat → Cond → Bool
  | [], _, _ => false
  | a :: _, 0, w => decide (a = w)
  | _ :: t, n + 1, w => zmemAt t n w
theorem zmemAt_in : ∀ (l : List Cond) (n : Nat) (w : Cond), zmemAt l n w = true → w ∈ l
  | [], _, _, h => by cases h
  | a :: t, 0, w, h => by
    have : a = w := of_decide_eq_true h
    rw [this]
    exact List.mem_cons_self
  | a :: t, n + 1, w, h => List.mem_cons_of_mem _ (zmemAt_in t n w h)
theorem zChunk_in (k : Nat) : ∀ w ∈ zChunk k, w ∈ lw_tbl := by
  intro w hw
  unfold lw_tbl tables_1
  unfold zChunk at hw
  split at hw <;> simp only [List.mem_append] <;> simp [hw]
def zHas : List Cond → List Nat → Bool
  | [], [] => true
  | w :: ws, h :: hs => zmemAt (zChunk (h / 1000)) (h % 1000) w && (goodWord w && zHas ws hs)
  | _, _ => false
theorem zHas_in : ∀ (ws : List Cond) (hs : List Nat), zHas ws hs = true → ∀ w ∈ ws, w ∈ zgood
  | [], _, _, w, hw => by cases hw
  | w0 :: ws, [], h, _, _ => by cases h
  | w0 :: ws, h0 :: hs, h, w, hw => by
    simp only [zHas, Bool.and_eq_true, decide_eq_true_eq] at h
    rcases List.mem_cons.mp hw with rfl | hw
    · exact List.mem_filter.mpr ⟨zChunk_in _ _ (zmemAt_in _ _ _ h.1), h.2.1⟩
    · exact zHas_in ws hs h.2.2 w hw
/-- what else a link must keep -/
def zSd : zQ → Bool
  | (_, 0, a, b, _, _) => decide (a < 13) && decide (b < (zCl a).2.2)
  | (_, 9, _, _, z, _) => decide (-2147483648 ≤ z) && decide (z < 2147483648)
  | (_, 10, _, _, z, _) => decide (-9223372036854775808 ≤ z) && decide (z < 9223372036854775808)
  | (_, 12, a, _, _, _) => decide (a < 13)
  | _ => true
theorem zLk_ok_0 : (zLk_0).all (fun q => zHas (zWd (zOn 0) q) q.2.2.2.2.2 && zSd q) = true := by decide +kernel
theorem zLk_ok_1 : (zLk_1).all (fun q => zHas (zWd (zOn 1) q) q.2.2.2.2.2 && zSd q) = true := by decide +kernel
theorem zLk_ok_2 : (zLk_2).all (fun q => zHas (zWd (zOn 2) q) q.2.2.2.2.2 && zSd q) = true := by decide +kernel
theorem zLk_ok_3 : (zLk_3).all (fun q => zHas (zWd (zOn 3) q) q.2.2.2.2.2 && zSd q) = true := by decide +kernel
theorem zLk_ok_4 : (zLk_4).all (fun q => zHas (zWd (zOn 4) q) q.2.2.2.2.2 && zSd q) = true := by decide +kernel
theorem zLk_ok_5 : (zLk_5).all (fun q => zHas (zWd (zOn 5) q) q.2.2.2.2.2 && zSd q) = true := by decide +kernel
theorem zLk_ok_6 : (zLk_6).all (fun q => zHas (zWd (zOn 6) q) q.2.2.2.2.2 && zSd q) = true := by decide +kernel
theorem zLk_ok_7 : (zLk_7).all (fun q => zHas (zWd (zOn 7) q) q.2.2.2.2.2 && zSd q) = true := by decide +kernel
theorem zLk_ok_8 : (zLk_8).all (fun q => zHas (zWd (zOn 8) q) q.2.2.2.2.2 && zSd q) = true := by decide +kernel
theorem zLk_ok_9 : (zLk_9).all (fun q => zHas (zWd (zOn 9) q) q.2.2.2.2.2 && zSd q) = true := by decide +kernel
theorem zLk_ok_10 : (zLk_10).all (fun q => zHas (zWd (zOn 10) q) q.2.2.2.2.2 && zSd q) = true := by decide +kernel
theorem zLk_ok_11 : (zLk_11).all (fun q => zHas (zWd (zOn 11) q) q.2.2.2.2.2 && zSd q) = true := by decide +kernel
theorem zLk_ok_12 : (zLk_12).all (fun q => zHas (zWd (zOn 12) q) q.2.2.2.2.2 && zSd q) = true := by decide +kernel
theorem zLk_ok_13 : (zLk_13).all (fun q => zHas (zWd (zOn 13) q) q.2.2.2.2.2 && zSd q) = true := by decide +kernel
theorem zLk_ok_14 : (zLk_14).all (fun q => zHas (zWd (zOn 14) q) q.2.2.2.2.2 && zSd q) = true := by decide +kernel
theorem zLk_ok_15 : (zLk_15).all (fun q => zHas (zWd (zOn 15) q) q.2.2.2.2.2 && zSd q) = true := by decide +kernel
theorem zLk_ok : ∀ o, o < 16 → (zLk o).all (fun q => zHas (zWd (zOn o) q) q.2.2.2.2.2 && zSd q) = true := by
  intro o ho
  have h : o = 0 ∨ o = 1 ∨ o = 2 ∨ o = 3 ∨ o = 4 ∨ o = 5 ∨ o = 6 ∨ o = 7 ∨ o = 8 ∨ o = 9 ∨ o = 10 ∨ o = 11 ∨ o = 12 ∨ o = 13 ∨ o = 14 ∨ o = 15 := by omega
  rcases h with rfl | rfl | rfl | rfl | rfl | rfl | rfl | rfl | rfl | rfl | rfl | rfl | rfl | rfl | rfl | rfl
  · exact zLk_ok_0
  · exact zLk_ok_1
  · exact zLk_ok_2
  · exact zLk_ok_3
  · exact zLk_ok_4
  · exact zLk_ok_5
  · exact zLk_ok_6
  · exact zLk_ok_7
  · exact zLk_ok_8
  · exact zLk_ok_9
  · exact zLk_ok_10
  · exact zLk_ok_11
  · exact zLk_ok_12
  · exact zLk_ok_13
  · exact zLk_ok_14
  · exact zLk_ok_15
theorem zcw_0 : Cond.code (zNm 0) (zCb 0) (zMl 0) (zRt 0) ∈ lw_tbl := zChunk_in 1 _ (List.mem_of_getElem? (i := 87) rfl)
theorem zcw_1 : Cond.code (zNm 1) (zCb 1) (zMl 1) (zRt 1) ∈ lw_tbl := zChunk_in 3 _ (List.mem_of_getElem? (i := 172) rfl)
theorem zcw_2 : Cond.code (zNm 2) (zCb 2) (zMl 2) (zRt 2) ∈ lw_tbl := zChunk_in 4 _ (List.mem_of_getElem? (i := 23) rfl)
theorem zcw_3 : Cond.code (zNm 3) (zCb 3) (zMl 3) (zRt 3) ∈ lw_tbl := zChunk_in 4 _ (List.mem_of_getElem? (i := 39) rfl)
theorem zcw_4 : Cond.code (zNm 4) (zCb 4) (zMl 4) (zRt 4) ∈ lw_tbl := zChunk_in 4 _ (List.mem_of_getElem? (i := 35) rfl)
theorem zcw_5 : Cond.code (zNm 5) (zCb 5) (zMl 5) (zRt 5) ∈ lw_tbl := zChunk_in 4 _ (List.mem_of_getElem? (i := 47) rfl)
theorem zcw_6 : Cond.code (zNm 6) (zCb 6) (zMl 6) (zRt 6) ∈ lw_tbl := zChunk_in 4 _ (List.mem_of_getElem? (i := 142) rfl)
theorem zcw_7 : Cond.code (zNm 7) (zCb 7) (zMl 7) (zRt 7) ∈ lw_tbl := zChunk_in 6 _ (List.mem_of_getElem? (i := 91) rfl)
theorem zcw_8 : Cond.code (zNm 8) (zCb 8) (zMl 8) (zRt 8) ∈ lw_tbl := zChunk_in 3 _ (List.mem_of_getElem? (i := 23) rfl)
theorem zcw_9 : Cond.code (zNm 9) (zCb 9) (zMl 9) (zRt 9) ∈ lw_tbl := zChunk_in 5 _ (List.mem_of_getElem? (i := 82) rfl)
theorem zcw_10 : Cond.code (zNm 10) (zCb 10) (zMl 10) (zRt 10) ∈ lw_tbl := zChunk_in 5 _ (List.mem_of_getElem? (i := 86) rfl)
theorem zcw_11 : Cond.code (zNm 11) (zCb 11) (zMl 11) (zRt 11) ∈ lw_tbl := zChunk_in 5 _ (List.mem_of_getElem? (i := 71) rfl)
theorem zcw_12 : Cond.code (zNm 12) (zCb 12) (zMl 12) (zRt 12) ∈ lw_tbl := zChunk_in 5 _ (List.mem_of_getElem? (i := 75) rfl)
theorem zcw_13 : Cond.code (zNm 13) (zCb 13) (zMl 13) (zRt 13) ∈ lw_tbl := zChunk_in 5 _ (List.mem_of_getElem? (i := 93) rfl)
theorem zcw_14 : Cond.code (zNm 14) (zCb 14) (zMl 14) (zRt 14) ∈ lw_tbl := zChunk_in 5 _ (List.mem_of_getElem? (i := 98) rfl)
theorem zcw_15 : Cond.code (zNm 15) (zCb 15) (zMl 15) (zRt 15) ∈ lw_tbl := zChunk_in 5 _ (List.mem_of_getElem? (i := 102) rfl)
theorem zcw_16 : Cond.code (zNm 16) (zCb 16) (zMl 16) (zRt 16) ∈ lw_tbl := zChunk_in 5 _ (List.mem_of_getElem? (i := 110) rfl)
theorem zcw_17 : Cond.code (zNm 17) (zCb 17) (zMl 17) (zRt 17) ∈ lw_tbl := zChunk_in 5 _ (List.mem_of_getElem? (i := 117) rfl)
theorem zcw_18 : Cond.code (zNm 18) (zCb 18) (zMl 18) (zRt 18) ∈ lw_tbl := zChunk_in 5 _ (List.mem_of_getElem? (i := 122) rfl)
theorem zcw_19 : Cond.code (zNm 19) (zCb 19) (zMl 19) (zRt 19) ∈ lw_tbl := zChunk_in 5 _ (List.mem_of_getElem? (i := 148) rfl)
theorem zcw_20 : Cond.code (zNm 20) (zCb 20) (zMl 20) (zRt 20) ∈ lw_tbl := zChunk_in 5 _ (List.mem_of_getElem? (i := 157) rfl)
theorem zcw_21 : Cond.code (zNm 21) (zCb 21) (zMl 21) (zRt 21) ∈ lw_tbl := zChunk_in 5 _ (List.mem_of_getElem? (i := 161) rfl)
theorem zcw_22 : Cond.code (zNm 22) (zCb 22) (zMl 22) (zRt 22) ∈ lw_tbl := zChunk_in 1 _ (List.mem_of_getElem? (i := 40) rfl)
theorem zcw_23 : Cond.code (zNm 23) (zCb 23) (zMl 23) (zRt 23) ∈ lw_tbl := zChunk_in 3 _ (List.mem_of_getElem? (i := 153) rfl)
theorem zcw_24 : Cond.code (zNm 24) (zCb 24) (zMl 24) (zRt 24) ∈ lw_tbl := zChunk_in 3 _ (List.mem_of_getElem? (i := 149) rfl)
theorem zcw_25 : Cond.code (zNm 25) (zCb 25) (zMl 25) (zRt 25) ∈ lw_tbl := zChunk_in 3 _ (List.mem_of_getElem? (i := 161) rfl)
theorem zcw_26 : Cond.code (zNm 26) (zCb 26) (zMl 26) (zRt 26) ∈ lw_tbl := zChunk_in 3 _ (List.mem_of_getElem? (i := 195) rfl)
theorem zcw_27 : Cond.code (zNm 27) (zCb 27) (zMl 27) (zRt 27) ∈ lw_tbl := zChunk_in 6 _ (List.mem_of_getElem? (i := 73) rfl)
theorem zcw_28 : Cond.code (zNm 28) (zCb 28) (zMl 28) (zRt 28) ∈ lw_tbl := zChunk_in 4 _ (List.mem_of_getElem? (i := 15) rfl)
theorem zcw_29 : Cond.code (zNm 29) (zCb 29) (zMl 29) (zRt 29) ∈ lw_tbl := zChunk_in 5 _ (List.mem_of_getElem? (i := 142) rfl)
theorem zcw_30 : Cond.code (zNm 30) (zCb 30) (zMl 30) (zRt 30) ∈ lw_tbl := zChunk_in 6 _ (List.mem_of_getElem? (i := 2) rfl)
theorem zcw_31 : Cond.code (zNm 31) (zCb 31) (zMl 31) (zRt 31) ∈ lw_tbl := zChunk_in 3 _ (List.mem_of_getElem? (i := 10) rfl)
theorem zcw_32 : Cond.code (zNm 32) (zCb 32) (zMl 32) (zRt 32) ∈ lw_tbl := zChunk_in 3 _ (List.mem_of_getElem? (i := 223) rfl)
theorem zcw_33 : Cond.code (zNm 33) (zCb 33) (zMl 33) (zRt 33) ∈ lw_tbl := zChunk_in 3 _ (List.mem_of_getElem? (i := 219) rfl)
theorem zcw_34 : Cond.code (zNm 34) (zCb 34) (zMl 34) (zRt 34) ∈ lw_tbl := zChunk_in 4 _ (List.mem_of_getElem? (i := 55) rfl)
theorem zcw_35 : Cond.code (zNm 35) (zCb 35) (zMl 35) (zRt 35) ∈ lw_tbl := zChunk_in 5 _ (List.mem_of_getElem? (i := 63) rfl)
theorem zcw_36 : Cond.code (zNm 36) (zCb 36) (zMl 36) (zRt 36) ∈ lw_tbl := zChunk_in 3 _ (List.mem_of_getElem? (i := 230) rfl)
theorem zcw_37 : Cond.code (zNm 37) (zCb 37) (zMl 37) (zRt 37) ∈ lw_tbl := zChunk_in 4 _ (List.mem_of_getElem? (i := 68) rfl)
theorem zcw_38 : Cond.code (zNm 38) (zCb 38) (zMl 38) (zRt 38) ∈ lw_tbl := zChunk_in 4 _ (List.mem_of_getElem? (i := 51) rfl)
theorem zcw_39 : Cond.code (zNm 39) (zCb 39) (zMl 39) (zRt 39) ∈ lw_tbl := zChunk_in 4 _ (List.mem_of_getElem? (i := 59) rfl)
theorem zcw_40 : Cond.code (zNm 40) (zCb 40) (zMl 40) (zRt 40) ∈ lw_tbl := zChunk_in 4 _ (List.mem_of_getElem? (i := 65) rfl)
theorem zcw_41 : Cond.code (zNm 41) (zCb 41) (zMl 41) (zRt 41) ∈ lw_tbl := zChunk_in 4 _ (List.mem_of_getElem? (i := 78) rfl)
theorem zcw_42 : Cond.code (zNm 42) (zCb 42) (zMl 42) (zRt 42) ∈ lw_tbl := zChunk_in 4 _ (List.mem_of_getElem? (i := 86) rfl)
theorem zcw_43 : Cond.code (zNm 43) (zCb 43) (zMl 43) (zRt 43) ∈ lw_tbl := zChunk_in 4 _ (List.mem_of_getElem? (i := 95) rfl)
theorem zcw_44 : Cond.code (zNm 44) (zCb 44) (zMl 44) (zRt 44) ∈ lw_tbl := zChunk_in 3 _ (List.mem_of_getElem? (i := 215) rfl)
theorem zcw_45 : Cond.code (zNm 45) (zCb 45) (zMl 45) (zRt 45) ∈ lw_tbl := zChunk_in 6 _ (List.mem_of_getElem? (i := 68) rfl)
theorem zcw_46 : Cond.code (zNm 46) (zCb 46) (zMl 46) (zRt 46) ∈ lw_tbl := zChunk_in 1 _ (List.mem_of_getElem? (i := 154) rfl)
theorem zcw_47 : Cond.code (zNm 47) (zCb 47) (zMl 47) (zRt 47) ∈ lw_tbl := zChunk_in 4 _ (List.mem_of_getElem? (i := 103) rfl)
theorem zcw_48 : Cond.code (zNm 48) (zCb 48) (zMl 48) (zRt 48) ∈ lw_tbl := zChunk_in 4 _ (List.mem_of_getElem? (i := 100) rfl)
theorem zcw_49 : Cond.code (zNm 49) (zCb 49) (zMl 49) (zRt 49) ∈ lw_tbl := zChunk_in 3 _ (List.mem_of_getElem? (i := 178) rfl)
theorem zcw_50 : Cond.code (zNm 50) (zCb 50) (zMl 50) (zRt 50) ∈ lw_tbl := zChunk_in 4 _ (List.mem_of_getElem? (i := 116) rfl)
theorem zcw_51 : Cond.code (zNm 51) (zCb 51) (zMl 51) (zRt 51) ∈ lw_tbl := zChunk_in 4 _ (List.mem_of_getElem? (i := 129) rfl)
theorem zcw_52 : Cond.code (zNm 52) (zCb 52) (zMl 52) (zRt 52) ∈ lw_tbl := zChunk_in 3 _ (List.mem_of_getElem? (i := 211) rfl)
theorem zcw_53 : Cond.code (zNm 53) (zCb 53) (zMl 53) (zRt 53) ∈ lw_tbl := zChunk_in 5 _ (List.mem_of_getElem? (i := 79) rfl)
theorem zcw_54 : Cond.code (zNm 54) (zCb 54) (zMl 54) (zRt 54) ∈ lw_tbl := zChunk_in 3 _ (List.mem_of_getElem? (i := 207) rfl)
theorem zcw_55 : Cond.code (zNm 55) (zCb 55) (zMl 55) (zRt 55) ∈ lw_tbl := zChunk_in 4 _ (List.mem_of_getElem? (i := 82) rfl)
theorem zcw_56 : Cond.code (zNm 56) (zCb 56) (zMl 56) (zRt 56) ∈ lw_tbl := zChunk_in 3 _ (List.mem_of_getElem? (i := 203) rfl)
theorem zcw_57 : Cond.code (zNm 57) (zCb 57) (zMl 57) (zRt 57) ∈ lw_tbl := zChunk_in 3 _ (List.mem_of_getElem? (i := 169) rfl)
theorem zcw_58 : Cond.code (zNm 58) (zCb 58) (zMl 58) (zRt 58) ∈ lw_tbl := zChunk_in 6 _ (List.mem_of_getElem? (i := 64) rfl)
theorem zcw_59 : Cond.code (zNm 59) (zCb 59) (zMl 59) (zRt 59) ∈ lw_tbl := zChunk_in 6 _ (List.mem_of_getElem? (i := 77) rfl)
theorem zcw_60 : Cond.code (zNm 60) (zCb 60) (zMl 60) (zRt 60) ∈ lw_tbl := zChunk_in 5 _ (List.mem_of_getElem? (i := 197) rfl)
theorem zcw_61 : Cond.code (zNm 61) (zCb 61) (zMl 61) (zRt 61) ∈ lw_tbl := zChunk_in 6 _ (List.mem_of_getElem? (i := 7) rfl)
theorem zcw_62 : Cond.code (zNm 62) (zCb 62) (zMl 62) (zRt 62) ∈ lw_tbl := zChunk_in 3 _ (List.mem_of_getElem? (i := 45) rfl)
theorem zcw_63 : Cond.code (zNm 63) (zCb 63) (zMl 63) (zRt 63) ∈ lw_tbl := zChunk_in 5 _ (List.mem_of_getElem? (i := 188) rfl)
theorem zcw_64 : Cond.code (zNm 64) (zCb 64) (zMl 64) (zRt 64) ∈ lw_tbl := zChunk_in 5 _ (List.mem_of_getElem? (i := 230) rfl)
theorem zcw_65 : Cond.code (zNm 65) (zCb 65) (zMl 65) (zRt 65) ∈ lw_tbl := zChunk_in 5 _ (List.mem_of_getElem? (i := 184) rfl)
theorem zcw_66 : Cond.code (zNm 66) (zCb 66) (zMl 66) (zRt 66) ∈ lw_tbl := zChunk_in 5 _ (List.mem_of_getElem? (i := 208) rfl)
theorem zcw_67 : Cond.code (zNm 67) (zCb 67) (zMl 67) (zRt 67) ∈ lw_tbl := zChunk_in 5 _ (List.mem_of_getElem? (i := 213) rfl)
theorem zcw_68 : Cond.code (zNm 68) (zCb 68) (zMl 68) (zRt 68) ∈ lw_tbl := zChunk_in 5 _ (List.mem_of_getElem? (i := 193) rfl)
theorem zcw_69 : Cond.code (zNm 69) (zCb 69) (zMl 69) (zRt 69) ∈ lw_tbl := zChunk_in 5 _ (List.mem_of_getElem? (i := 203) rfl)
theorem zcw_70 : Cond.code (zNm 70) (zCb 70) (zMl 70) (zRt 70) ∈ lw_tbl := zChunk_in 5 _ (List.mem_of_getElem? (i := 217) rfl)
theorem zcw_71 : Cond.code (zNm 71) (zCb 71) (zMl 71) (zRt 71) ∈ lw_tbl := zChunk_in 5 _ (List.mem_of_getElem? (i := 221) rfl)
theorem zcw_72 : Cond.code (zNm 72) (zCb 72) (zMl 72) (zRt 72) ∈ lw_tbl := zChunk_in 5 _ (List.mem_of_getElem? (i := 238) rfl)
theorem zcw_73 : Cond.code (zNm 73) (zCb 73) (zMl 73) (zRt 73) ∈ lw_tbl := zChunk_in 6 _ (List.mem_of_getElem? (i := 12) rfl)
theorem zcw_74 : Cond.code (zNm 74) (zCb 74) (zMl 74) (zRt 74) ∈ lw_tbl := zChunk_in 6 _ (List.mem_of_getElem? (i := 17) rfl)
theorem zcw_75 : Cond.code (zNm 75) (zCb 75) (zMl 75) (zRt 75) ∈ lw_tbl := zChunk_in 2 _ (List.mem_of_getElem? (i := 204) rfl)
theorem zcw_76 : Cond.code (zNm 76) (zCb 76) (zMl 76) (zRt 76) ∈ lw_tbl := zChunk_in 4 _ (List.mem_of_getElem? (i := 150) rfl)
theorem zcw_77 : Cond.code (zNm 77) (zCb 77) (zMl 77) (zRt 77) ∈ lw_tbl := zChunk_in 4 _ (List.mem_of_getElem? (i := 162) rfl)
theorem zcw_78 : Cond.code (zNm 78) (zCb 78) (zMl 78) (zRt 78) ∈ lw_tbl := zChunk_in 5 _ (List.mem_of_getElem? (i := 4) rfl)
theorem zcw_79 : Cond.code (zNm 79) (zCb 79) (zMl 79) (zRt 79) ∈ lw_tbl := zChunk_in 5 _ (List.mem_of_getElem? (i := 8) rfl)
theorem zcw_80 : Cond.code (zNm 80) (zCb 80) (zMl 80) (zRt 80) ∈ lw_tbl := zChunk_in 5 _ (List.mem_of_getElem? (i := 12) rfl)
theorem zcw_81 : Cond.code (zNm 81) (zCb 81) (zMl 81) (zRt 81) ∈ lw_tbl := zChunk_in 5 _ (List.mem_of_getElem? (i := 16) rfl)
theorem zcw_82 : Cond.code (zNm 82) (zCb 82) (zMl 82) (zRt 82) ∈ lw_tbl := zChunk_in 5 _ (List.mem_of_getElem? (i := 20) rfl)
theorem zcw_83 : Cond.code (zNm 83) (zCb 83) (zMl 83) (zRt 83) ∈ lw_tbl := zChunk_in 5 _ (List.mem_of_getElem? (i := 24) rfl)
theorem zcw_84 : Cond.code (zNm 84) (zCb 84) (zMl 84) (zRt 84) ∈ lw_tbl := zChunk_in 5 _ (List.mem_of_getElem? (i := 28) rfl)
theorem zcw_85 : Cond.code (zNm 85) (zCb 85) (zMl 85) (zRt 85) ∈ lw_tbl := zChunk_in 5 _ (List.mem_of_getElem? (i := 32) rfl)
theorem zcw_86 : Cond.code (zNm 86) (zCb 86) (zMl 86) (zRt 86) ∈ lw_tbl := zChunk_in 5 _ (List.mem_of_getElem? (i := 0) rfl)
theorem zcw_87 : Cond.code (zNm 87) (zCb 87) (zMl 87) (zRt 87) ∈ lw_tbl := zChunk_in 4 _ (List.mem_of_getElem? (i := 166) rfl)
theorem zcw_88 : Cond.code (zNm 88) (zCb 88) (zMl 88) (zRt 88) ∈ lw_tbl := zChunk_in 4 _ (List.mem_of_getElem? (i := 173) rfl)
theorem zcw_89 : Cond.code (zNm 89) (zCb 89) (zMl 89) (zRt 89) ∈ lw_tbl := zChunk_in 4 _ (List.mem_of_getElem? (i := 180) rfl)
theorem zcw_90 : Cond.code (zNm 90) (zCb 90) (zMl 90) (zRt 90) ∈ lw_tbl := zChunk_in 4 _ (List.mem_of_getElem? (i := 184) rfl)
theorem zcw_91 : Cond.code (zNm 91) (zCb 91) (zMl 91) (zRt 91) ∈ lw_tbl := zChunk_in 4 _ (List.mem_of_getElem? (i := 169) rfl)
theorem zcw_92 : Cond.code (zNm 92) (zCb 92) (zMl 92) (zRt 92) ∈ lw_tbl := zChunk_in 4 _ (List.mem_of_getElem? (i := 176) rfl)
theorem zcw_93 : Cond.code (zNm 93) (zCb 93) (zMl 93) (zRt 93) ∈ lw_tbl := zChunk_in 4 _ (List.mem_of_getElem? (i := 236) rfl)
theorem zcw_94 : Cond.code (zNm 94) (zCb 94) (zMl 94) (zRt 94) ∈ lw_tbl := zChunk_in 1 _ (List.mem_of_getElem? (i := 238) rfl)
theorem zcw_95 : Cond.code (zNm 95) (zCb 95) (zMl 95) (zRt 95) ∈ lw_tbl := zChunk_in 5 _ (List.mem_of_getElem? (i := 36) rfl)
theorem zcw_96 : Cond.code (zNm 96) (zCb 96) (zMl 96) (zRt 96) ∈ lw_tbl := zChunk_in 3 _ (List.mem_of_getElem? (i := 234) rfl)
theorem zcw_97 : Cond.code (zNm 97) (zCb 97) (zMl 97) (zRt 97) ∈ lw_tbl := zChunk_in 4 _ (List.mem_of_getElem? (i := 7) rfl)
theorem zcw_98 : Cond.code (zNm 98) (zCb 98) (zMl 98) (zRt 98) ∈ lw_tbl := zChunk_in 3 _ (List.mem_of_getElem? (i := 238) rfl)
theorem zcw_99 : Cond.code (zNm 99) (zCb 99) (zMl 99) (zRt 99) ∈ lw_tbl := zChunk_in 4 _ (List.mem_of_getElem? (i := 1) rfl)
theorem zcw_100 : Cond.code (zNm 100) (zCb 100) (zMl 100) (zRt 100) ∈ lw_tbl := zChunk_in 6 _ (List.mem_of_getElem? (i := 97) rfl)
theorem zcw_101 : Cond.code (zNm 101) (zCb 101) (zMl 101) (zRt 101) ∈ lw_tbl := zChunk_in 1 _ (List.mem_of_getElem? (i := 34) rfl)
theorem zcw_102 : Cond.code (zNm 102) (zCb 102) (zMl 102) (zRt 102) ∈ lw_tbl := zChunk_in 3 _ (List.mem_of_getElem? (i := 128) rfl)
theorem zcw_103 : Cond.code (zNm 103) (zCb 103) (zMl 103) (zRt 103) ∈ lw_tbl := zChunk_in 3 _ (List.mem_of_getElem? (i := 157) rfl)
theorem zcw_104 : Cond.code (zNm 104) (zCb 104) (zMl 104) (zRt 104) ∈ lw_tbl := zChunk_in 4 _ (List.mem_of_getElem? (i := 11) rfl)
theorem zcw_105 : Cond.code (zNm 105) (zCb 105) (zMl 105) (zRt 105) ∈ lw_tbl := zChunk_in 6 _ (List.mem_of_getElem? (i := 85) rfl)
theorem zcw_106 : Cond.code (zNm 106) (zCb 106) (zMl 106) (zRt 106) ∈ lw_tbl := zChunk_in 2 _ (List.mem_of_getElem? (i := 78) rfl)
theorem zcw_107 : Cond.code (zNm 107) (zCb 107) (zMl 107) (zRt 107) ∈ lw_tbl := zChunk_in 6 _ (List.mem_of_getElem? (i := 31) rfl)
theorem zcw_108 : Cond.code (zNm 108) (zCb 108) (zMl 108) (zRt 108) ∈ lw_tbl := zChunk_in 6 _ (List.mem_of_getElem? (i := 52) rfl)
theorem zcw_109 : Cond.code (zNm 109) (zCb 109) (zMl 109) (zRt 109) ∈ lw_tbl := zChunk_in 6 _ (List.mem_of_getElem? (i := 39) rfl)
theorem zcw_110 : Cond.code (zNm 110) (zCb 110) (zMl 110) (zRt 110) ∈ lw_tbl := zChunk_in 6 _ (List.mem_of_getElem? (i := 43) rfl)
theorem zcw_111 : Cond.code (zNm 111) (zCb 111) (zMl 111) (zRt 111) ∈ lw_tbl := zChunk_in 6 _ (List.mem_of_getElem? (i := 106) rfl)
theorem zcw_112 : Cond.code (zNm 112) (zCb 112) (zMl 112) (zRt 112) ∈ lw_tbl := zChunk_in 2 _ (List.mem_of_getElem? (i := 31) rfl)
theorem zcw_113 : Cond.code (zNm 113) (zCb 113) (zMl 113) (zRt 113) ∈ lw_tbl := zChunk_in 5 _ (List.mem_of_getElem? (i := 126) rfl)
theorem zcw_114 : Cond.code (zNm 114) (zCb 114) (zMl 114) (zRt 114) ∈ lw_tbl := zChunk_in 6 _ (List.mem_of_getElem? (i := 101) rfl)
theorem zcw_115 : Cond.code (zNm 115) (zCb 115) (zMl 115) (zRt 115) ∈ lw_tbl := zChunk_in 1 _ (List.mem_of_getElem? (i := 26) rfl)
theorem zcw_116 : Cond.code (zNm 116) (zCb 116) (zMl 116) (zRt 116) ∈ lw_tbl := zChunk_in 3 _ (List.mem_of_getElem? (i := 117) rfl)
theorem zcw_117 : Cond.code (zNm 117) (zCb 117) (zMl 117) (zRt 117) ∈ lw_tbl := zChunk_in 3 _ (List.mem_of_getElem? (i := 132) rfl)
theorem zcw_118 : Cond.code (zNm 118) (zCb 118) (zMl 118) (zRt 118) ∈ lw_tbl := zChunk_in 3 _ (List.mem_of_getElem? (i := 144) rfl)
theorem zcw_119 : Cond.code (zNm 119) (zCb 119) (zMl 119) (zRt 119) ∈ lw_tbl := zChunk_in 3 _ (List.mem_of_getElem? (i := 165) rfl)
theorem zcw_120 : Cond.code (zNm 120) (zCb 120) (zMl 120) (zRt 120) ∈ lw_tbl := zChunk_in 3 _ (List.mem_of_getElem? (i := 182) rfl)
theorem zcw_121 : Cond.code (zNm 121) (zCb 121) (zMl 121) (zRt 121) ∈ lw_tbl := zChunk_in 3 _ (List.mem_of_getElem? (i := 187) rfl)
theorem zcw_122 : Cond.code (zNm 122) (zCb 122) (zMl 122) (zRt 122) ∈ lw_tbl := zChunk_in 3 _ (List.mem_of_getElem? (i := 199) rfl)
theorem zcw_123 : Cond.code (zNm 123) (zCb 123) (zMl 123) (zRt 123) ∈ lw_tbl := zChunk_in 4 _ (List.mem_of_getElem? (i := 19) rfl)
theorem zcw_124 : Cond.code (zNm 124) (zCb 124) (zMl 124) (zRt 124) ∈ lw_tbl := zChunk_in 4 _ (List.mem_of_getElem? (i := 27) rfl)
theorem zcw_125 : Cond.code (zNm 125) (zCb 125) (zMl 125) (zRt 125) ∈ lw_tbl := zChunk_in 4 _ (List.mem_of_getElem? (i := 43) rfl)
theorem zcw_126 : Cond.code (zNm 126) (zCb 126) (zMl 126) (zRt 126) ∈ lw_tbl := zChunk_in 4 _ (List.mem_of_getElem? (i := 91) rfl)
theorem zcw_127 : Cond.code (zNm 127) (zCb 127) (zMl 127) (zRt 127) ∈ lw_tbl := zChunk_in 4 _ (List.mem_of_getElem? (i := 107) rfl)
theorem zcw_128 : Cond.code (zNm 128) (zCb 128) (zMl 128) (zRt 128) ∈ lw_tbl := zChunk_in 4 _ (List.mem_of_getElem? (i := 120) rfl)
theorem zcw_129 : Cond.code (zNm 129) (zCb 129) (zMl 129) (zRt 129) ∈ lw_tbl := zChunk_in 4 _ (List.mem_of_getElem? (i := 125) rfl)
theorem zcw_130 : Cond.code (zNm 130) (zCb 130) (zMl 130) (zRt 130) ∈ lw_tbl := zChunk_in 4 _ (List.mem_of_getElem? (i := 133) rfl)
theorem zcw_131 : Cond.code (zNm 131) (zCb 131) (zMl 131) (zRt 131) ∈ lw_tbl := zChunk_in 4 _ (List.mem_of_getElem? (i := 138) rfl)
theorem zcw_132 : Cond.code (zNm 132) (zCb 132) (zMl 132) (zRt 132) ∈ lw_tbl := zChunk_in 4 _ (List.mem_of_getElem? (i := 146) rfl)
theorem zcw_133 : Cond.code (zNm 133) (zCb 133) (zMl 133) (zRt 133) ∈ lw_tbl := zChunk_in 4 _ (List.mem_of_getElem? (i := 154) rfl)
theorem zcw_134 : Cond.code (zNm 134) (zCb 134) (zMl 134) (zRt 134) ∈ lw_tbl := zChunk_in 4 _ (List.mem_of_getElem? (i := 158) rfl)
theorem zcw_135 : Cond.code (zNm 135) (zCb 135) (zMl 135) (zRt 135) ∈ lw_tbl := zChunk_in 5 _ (List.mem_of_getElem? (i := 44) rfl)
theorem zcw_136 : Cond.code (zNm 136) (zCb 136) (zMl 136) (zRt 136) ∈ lw_tbl := zChunk_in 5 _ (List.mem_of_getElem? (i := 59) rfl)
theorem zcw_137 : Cond.code (zNm 137) (zCb 137) (zMl 137) (zRt 137) ∈ lw_tbl := zChunk_in 5 _ (List.mem_of_getElem? (i := 67) rfl)
theorem zcw_138 : Cond.code (zNm 138) (zCb 138) (zMl 138) (zRt 138) ∈ lw_tbl := zChunk_in 5 _ (List.mem_of_getElem? (i := 130) rfl)
theorem zcw_139 : Cond.code (zNm 139) (zCb 139) (zMl 139) (zRt 139) ∈ lw_tbl := zChunk_in 5 _ (List.mem_of_getElem? (i := 134) rfl)
theorem zcw_140 : Cond.code (zNm 140) (zCb 140) (zMl 140) (zRt 140) ∈ lw_tbl := zChunk_in 5 _ (List.mem_of_getElem? (i := 138) rfl)
theorem zcw_141 : Cond.code (zNm 141) (zCb 141) (zMl 141) (zRt 141) ∈ lw_tbl := zChunk_in 5 _ (List.mem_of_getElem? (i := 153) rfl)
theorem zcw_142 : Cond.code (zNm 142) (zCb 142) (zMl 142) (zRt 142) ∈ lw_tbl := zChunk_in 5 _ (List.mem_of_getElem? (i := 165) rfl)
theorem zcw_143 : Cond.code (zNm 143) (zCb 143) (zMl 143) (zRt 143) ∈ lw_tbl := zChunk_in 5 _ (List.mem_of_getElem? (i := 169) rfl)
theorem zcw_144 : Cond.code (zNm 144) (zCb 144) (zMl 144) (zRt 144) ∈ lw_tbl := zChunk_in 5 _ (List.mem_of_getElem? (i := 174) rfl)
theorem zcw_145 : Cond.code (zNm 145) (zCb 145) (zMl 145) (zRt 145) ∈ lw_tbl := zChunk_in 5 _ (List.mem_of_getElem? (i := 225) rfl)
theorem zcw_146 : Cond.code (zNm 146) (zCb 146) (zMl 146) (zRt 146) ∈ lw_tbl := zChunk_in 5 _ (List.mem_of_getElem? (i := 234) rfl)
theorem zcw_147 : Cond.code (zNm 147) (zCb 147) (zMl 147) (zRt 147) ∈ lw_tbl := zChunk_in 6 _ (List.mem_of_getElem? (i := 22) rfl)
theorem zcw_148 : Cond.code (zNm 148) (zCb 148) (zMl 148) (zRt 148) ∈ lw_tbl := zChunk_in 6 _ (List.mem_of_getElem? (i := 26) rfl)
theorem zcw_149 : Cond.code (zNm 149) (zCb 149) (zMl 149) (zRt 149) ∈ lw_tbl := zChunk_in 6 _ (List.mem_of_getElem? (i := 35) rfl)
theorem zcw_150 : Cond.code (zNm 150) (zCb 150) (zMl 150) (zRt 150) ∈ lw_tbl := zChunk_in 6 _ (List.mem_of_getElem? (i := 47) rfl)
theorem zcw_151 : Cond.code (zNm 151) (zCb 151) (zMl 151) (zRt 151) ∈ lw_tbl := zChunk_in 6 _ (List.mem_of_getElem? (i := 56) rfl)
theorem zcw_152 : Cond.code (zNm 152) (zCb 152) (zMl 152) (zRt 152) ∈ lw_tbl := zChunk_in 6 _ (List.mem_of_getElem? (i := 60) rfl)
theorem zcw_153 : Cond.code (zNm 153) (zCb 153) (zMl 153) (zRt 153) ∈ lw_tbl := zChunk_in 6 _ (List.mem_of_getElem? (i := 81) rfl)
theorem zcw_154 : Cond.code (zNm 154) (zCb 154) (zMl 154) (zRt 154) ∈ lw_tbl := zChunk_in 6 _ (List.mem_of_getElem? (i := 111) rfl)
theorem zcw_155 : Cond.code (zNm 155) (zCb 155) (zMl 155) (zRt 155) ∈ lw_tbl := zChunk_in 6 _ (List.mem_of_getElem? (i := 115) rfl)
theorem zcw_156 : Cond.code (zNm 156) (zCb 156) (zMl 156) (zRt 156) ∈ lw_tbl := zChunk_in 6 _ (List.mem_of_getElem? (i := 119) rfl)
theorem zcw_157 : Cond.code (zNm 157) (zCb 157) (zMl 157) (zRt 157) ∈ lw_tbl := zChunk_in 6 _ (List.mem_of_getElem? (i := 123) rfl)
theorem zcw_158 : Cond.code (zNm 158) (zCb 158) (zMl 158) (zRt 158) ∈ lw_tbl := zChunk_in 6 _ (List.mem_of_getElem? (i := 127) rfl)
theorem zcw_159 : Cond.code (zNm 159) (zCb 159) (zMl 159) (zRt 159) ∈ lw_tbl := zChunk_in 6 _ (List.mem_of_getElem? (i := 131) rfl)
theorem zcw_160 : Cond.code (zNm 160) (zCb 160) (zMl 160) (zRt 160) ∈ lw_tbl := zChunk_in 6 _ (List.mem_of_getElem? (i := 136) rfl)
theorem zcw_161 : Cond.code (zNm 161) (zCb 161) (zMl 161) (zRt 161) ∈ lw_tbl := zChunk_in 3 _ (List.mem_of_getElem? (i := 124) rfl)
theorem zcw_162 : Cond.code (zNm 162) (zCb 162) (zMl 162) (zRt 162) ∈ lw_tbl := zChunk_in 3 _ (List.mem_of_getElem? (i := 140) rfl)
theorem zcw_163 : Cond.code (zNm 163) (zCb 163) (zMl 163) (zRt 163) ∈ lw_tbl := zChunk_in 3 _ (List.mem_of_getElem? (i := 120) rfl)
theorem zcw_164 : Cond.code (zNm 164) (zCb 164) (zMl 164) (zRt 164) ∈ lw_tbl := zChunk_in 3 _ (List.mem_of_getElem? (i := 136) rfl)
theorem zcw_165 : Cond.code (zNm 165) (zCb 165) (zMl 165) (zRt 165) ∈ lw_tbl := zChunk_in 4 _ (List.mem_of_getElem? (i := 31) rfl)
theorem zcw_166 : Cond.code (zNm 166) (zCb 166) (zMl 166) (zRt 166) ∈ lw_tbl := zChunk_in 4 _ (List.mem_of_getElem? (i := 111) rfl)
theorem zcw_167 : Cond.code (zNm 167) (zCb 167) (zMl 167) (zRt 167) ∈ lw_tbl := zChunk_in 3 _ (List.mem_of_getElem? (i := 191) rfl)
theorem zcw_168 : Cond.code (zNm 168) (zCb 168) (zMl 168) (zRt 168) ∈ lw_tbl := zChunk_in 5 _ (List.mem_of_getElem? (i := 48) rfl)
theorem zcw_169 : Cond.code (zNm 169) (zCb 169) (zMl 169) (zRt 169) ∈ lw_tbl := zChunk_in 5 _ (List.mem_of_getElem? (i := 52) rfl)
theorem zcw_170 : Cond.code (zNm 170) (zCb 170) (zMl 170) (zRt 170) ∈ lw_tbl := zChunk_in 6 _ (List.mem_of_getElem? (i := 141) rfl)
theorem zcw_171 : Cond.code (zNm 171) (zCb 171) (zMl 171) (zRt 171) ∈ lw_tbl := zChunk_in 7 _ (List.mem_of_getElem? (i := 14) rfl)
theorem zcw_172 : Cond.code (zNm 172) (zCb 172) (zMl 172) (zRt 172) ∈ lw_tbl := zChunk_in 7 _ (List.mem_of_getElem? (i := 18) rfl)
theorem zcw_173 : Cond.code (zNm 173) (zCb 173) (zMl 173) (zRt 173) ∈ lw_tbl := zChunk_in 7 _ (List.mem_of_getElem? (i := 30) rfl)
theorem zcw_174 : Cond.code (zNm 174) (zCb 174) (zMl 174) (zRt 174) ∈ lw_tbl := zChunk_in 7 _ (List.mem_of_getElem? (i := 26) rfl)
theorem zcw_175 : Cond.code (zNm 175) (zCb 175) (zMl 175) (zRt 175) ∈ lw_tbl := zChunk_in 7 _ (List.mem_of_getElem? (i := 146) rfl)
theorem zcw_176 : Cond.code (zNm 176) (zCb 176) (zMl 176) (zRt 176) ∈ lw_tbl := zChunk_in 7 _ (List.mem_of_getElem? (i := 189) rfl)
theorem zcw_177 : Cond.code (zNm 177) (zCb 177) (zMl 177) (zRt 177) ∈ lw_tbl := zChunk_in 7 _ (List.mem_of_getElem? (i := 43) rfl)
theorem zcw_178 : Cond.code (zNm 178) (zCb 178) (zMl 178) (zRt 178) ∈ lw_tbl := zChunk_in 7 _ (List.mem_of_getElem? (i := 47) rfl)
theorem zcw_179 : Cond.code (zNm 179) (zCb 179) (zMl 179) (zRt 179) ∈ lw_tbl := zChunk_in 7 _ (List.mem_of_getElem? (i := 39) rfl)
theorem zcw_180 : Cond.code (zNm 180) (zCb 180) (zMl 180) (zRt 180) ∈ lw_tbl := zChunk_in 7 _ (List.mem_of_getElem? (i := 55) rfl)
theorem zcw_181 : Cond.code (zNm 181) (zCb 181) (zMl 181) (zRt 181) ∈ lw_tbl := zChunk_in 7 _ (List.mem_of_getElem? (i := 51) rfl)
theorem zcw_182 : Cond.code (zNm 182) (zCb 182) (zMl 182) (zRt 182) ∈ lw_tbl := zChunk_in 7 _ (List.mem_of_getElem? (i := 11) rfl)
theorem zcw_183 : Cond.code (zNm 183) (zCb 183) (zMl 183) (zRt 183) ∈ lw_tbl := zChunk_in 7 _ (List.mem_of_getElem? (i := 22) rfl)
theorem zcw_184 : Cond.code (zNm 184) (zCb 184) (zMl 184) (zRt 184) ∈ lw_tbl := zChunk_in 7 _ (List.mem_of_getElem? (i := 34) rfl)
theorem zcw_185 : Cond.code (zNm 185) (zCb 185) (zMl 185) (zRt 185) ∈ lw_tbl := zChunk_in 7 _ (List.mem_of_getElem? (i := 59) rfl)
theorem zcw_186 : Cond.code (zNm 186) (zCb 186) (zMl 186) (zRt 186) ∈ lw_tbl := zChunk_in 7 _ (List.mem_of_getElem? (i := 78) rfl)
theorem zcw_187 : Cond.code (zNm 187) (zCb 187) (zMl 187) (zRt 187) ∈ lw_tbl := zChunk_in 7 _ (List.mem_of_getElem? (i := 83) rfl)
theorem zcw_188 : Cond.code (zNm 188) (zCb 188) (zMl 188) (zRt 188) ∈ lw_tbl := zChunk_in 7 _ (List.mem_of_getElem? (i := 70) rfl)
theorem zcw_189 : Cond.code (zNm 189) (zCb 189) (zMl 189) (zRt 189) ∈ lw_tbl := zChunk_in 7 _ (List.mem_of_getElem? (i := 173) rfl)
theorem zcw_190 : Cond.code (zNm 190) (zCb 190) (zMl 190) (zRt 190) ∈ lw_tbl := zChunk_in 7 _ (List.mem_of_getElem? (i := 74) rfl)
theorem zcw_191 : Cond.code (zNm 191) (zCb 191) (zMl 191) (zRt 191) ∈ lw_tbl := zChunk_in 7 _ (List.mem_of_getElem? (i := 67) rfl)
theorem zcw_192 : Cond.code (zNm 192) (zCb 192) (zMl 192) (zRt 192) ∈ lw_tbl := zChunk_in 7 _ (List.mem_of_getElem? (i := 91) rfl)
theorem zcw_193 : Cond.code (zNm 193) (zCb 193) (zMl 193) (zRt 193) ∈ lw_tbl := zChunk_in 7 _ (List.mem_of_getElem? (i := 63) rfl)
theorem zcw_194 : Cond.code (zNm 194) (zCb 194) (zMl 194) (zRt 194) ∈ lw_tbl := zChunk_in 7 _ (List.mem_of_getElem? (i := 111) rfl)
theorem zcw_195 : Cond.code (zNm 195) (zCb 195) (zMl 195) (zRt 195) ∈ lw_tbl := zChunk_in 7 _ (List.mem_of_getElem? (i := 107) rfl)
theorem zcw_196 : Cond.code (zNm 196) (zCb 196) (zMl 196) (zRt 196) ∈ lw_tbl := zChunk_in 7 _ (List.mem_of_getElem? (i := 103) rfl)
theorem zcw_197 : Cond.code (zNm 197) (zCb 197) (zMl 197) (zRt 197) ∈ lw_tbl := zChunk_in 7 _ (List.mem_of_getElem? (i := 99) rfl)
theorem zcw_198 : Cond.code (zNm 198) (zCb 198) (zMl 198) (zRt 198) ∈ lw_tbl := zChunk_in 7 _ (List.mem_of_getElem? (i := 95) rfl)
theorem zcw_199 : Cond.code (zNm 199) (zCb 199) (zMl 199) (zRt 199) ∈ lw_tbl := zChunk_in 7 _ (List.mem_of_getElem? (i := 115) rfl)
theorem zcw_200 : Cond.code (zNm 200) (zCb 200) (zMl 200) (zRt 200) ∈ lw_tbl := zChunk_in 7 _ (List.mem_of_getElem? (i := 134) rfl)
theorem zcw_201 : Cond.code (zNm 201) (zCb 201) (zMl 201) (zRt 201) ∈ lw_tbl := zChunk_in 7 _ (List.mem_of_getElem? (i := 87) rfl)
theorem zcw_202 : Cond.code (zNm 202) (zCb 202) (zMl 202) (zRt 202) ∈ lw_tbl := zChunk_in 7 _ (List.mem_of_getElem? (i := 138) rfl)
theorem zcw_203 : Cond.code (zNm 203) (zCb 203) (zMl 203) (zRt 203) ∈ lw_tbl := zChunk_in 7 _ (List.mem_of_getElem? (i := 142) rfl)
theorem zcw_204 : Cond.code (zNm 204) (zCb 204) (zMl 204) (zRt 204) ∈ lw_tbl := zChunk_in 7 _ (List.mem_of_getElem? (i := 154) rfl)
theorem zcw_205 : Cond.code (zNm 205) (zCb 205) (zMl 205) (zRt 205) ∈ lw_tbl := zChunk_in 7 _ (List.mem_of_getElem? (i := 158) rfl)
theorem zcw_206 : Cond.code (zNm 206) (zCb 206) (zMl 206) (zRt 206) ∈ lw_tbl := zChunk_in 7 _ (List.mem_of_getElem? (i := 162) rfl)
theorem zcw_207 : Cond.code (zNm 207) (zCb 207) (zMl 207) (zRt 207) ∈ lw_tbl := zChunk_in 7 _ (List.mem_of_getElem? (i := 170) rfl)
theorem zcw_208 : Cond.code (zNm 208) (zCb 208) (zMl 208) (zRt 208) ∈ lw_tbl := zChunk_in 7 _ (List.mem_of_getElem? (i := 177) rfl)
theorem zcw_209 : Cond.code (zNm 209) (zCb 209) (zMl 209) (zRt 209) ∈ lw_tbl := zChunk_in 7 _ (List.mem_of_getElem? (i := 166) rfl)
theorem zcw_210 : Cond.code (zNm 210) (zCb 210) (zMl 210) (zRt 210) ∈ lw_tbl := zChunk_in 7 _ (List.mem_of_getElem? (i := 150) rfl)
theorem zcw_211 : Cond.code (zNm 211) (zCb 211) (zMl 211) (zRt 211) ∈ lw_tbl := zChunk_in 7 _ (List.mem_of_getElem? (i := 181) rfl)
theorem zcw_212 : Cond.code (zNm 212) (zCb 212) (zMl 212) (zRt 212) ∈ lw_tbl := zChunk_in 7 _ (List.mem_of_getElem? (i := 185) rfl)
theorem zcw_213 : Cond.code (zNm 213) (zCb 213) (zMl 213) (zRt 213) ∈ lw_tbl := zChunk_in 7 _ (List.mem_of_getElem? (i := 193) rfl)
theorem zcw_214 : Cond.code (zNm 214) (zCb 214) (zMl 214) (zRt 214) ∈ lw_tbl := zChunk_in 7 _ (List.mem_of_getElem? (i := 197) rfl)
theorem zcw_215 : Cond.code (zNm 215) (zCb 215) (zMl 215) (zRt 215) ∈ lw_tbl := zChunk_in 7 _ (List.mem_of_getElem? (i := 204) rfl)
theorem zcw_216 : Cond.code (zNm 216) (zCb 216) (zMl 216) (zRt 216) ∈ lw_tbl := zChunk_in 7 _ (List.mem_of_getElem? (i := 201) rfl)
theorem zcw_217 : Cond.code (zNm 217) (zCb 217) (zMl 217) (zRt 217) ∈ lw_tbl := zChunk_in 7 _ (List.mem_of_getElem? (i := 208) rfl)
theorem zcw_218 : Cond.code (zNm 218) (zCb 218) (zMl 218) (zRt 218) ∈ lw_tbl := zChunk_in 7 _ (List.mem_of_getElem? (i := 212) rfl)
theorem zcw_219 : Cond.code (zNm 219) (zCb 219) (zMl 219) (zRt 219) ∈ lw_tbl := zChunk_in 7 _ (List.mem_of_getElem? (i := 216) rfl)
theorem zcw_220 : Cond.code (zNm 220) (zCb 220) (zMl 220) (zRt 220) ∈ lw_tbl := zChunk_in 7 _ (List.mem_of_getElem? (i := 228) rfl)
theorem zcw_221 : Cond.code (zNm 221) (zCb 221) (zMl 221) (zRt 221) ∈ lw_tbl := zChunk_in 7 _ (List.mem_of_getElem? (i := 224) rfl)
theorem zcw_222 : Cond.code (zNm 222) (zCb 222) (zMl 222) (zRt 222) ∈ lw_tbl := zChunk_in 8 _ (List.mem_of_getElem? (i := 8) rfl)
theorem zcw_223 : Cond.code (zNm 223) (zCb 223) (zMl 223) (zRt 223) ∈ lw_tbl := zChunk_in 8 _ (List.mem_of_getElem? (i := 4) rfl)
theorem zcw_224 : Cond.code (zNm 224) (zCb 224) (zMl 224) (zRt 224) ∈ lw_tbl := zChunk_in 7 _ (List.mem_of_getElem? (i := 232) rfl)
theorem zcw_225 : Cond.code (zNm 225) (zCb 225) (zMl 225) (zRt 225) ∈ lw_tbl := zChunk_in 7 _ (List.mem_of_getElem? (i := 236) rfl)
theorem zcw_226 : Cond.code (zNm 226) (zCb 226) (zMl 226) (zRt 226) ∈ lw_tbl := zChunk_in 8 _ (List.mem_of_getElem? (i := 0) rfl)
theorem zcw_227 : Cond.code (zNm 227) (zCb 227) (zMl 227) (zRt 227) ∈ lw_tbl := zChunk_in 8 _ (List.mem_of_getElem? (i := 12) rfl)
theorem zcw_228 : Cond.code (zNm 228) (zCb 228) (zMl 228) (zRt 228) ∈ lw_tbl := zChunk_in 8 _ (List.mem_of_getElem? (i := 16) rfl)
theorem zcw_229 : Cond.code (zNm 229) (zCb 229) (zMl 229) (zRt 229) ∈ lw_tbl := zChunk_in 8 _ (List.mem_of_getElem? (i := 20) rfl)
theorem zcw_230 : Cond.code (zNm 230) (zCb 230) (zMl 230) (zRt 230) ∈ lw_tbl := zChunk_in 8 _ (List.mem_of_getElem? (i := 24) rfl)
theorem zcw_231 : Cond.code (zNm 231) (zCb 231) (zMl 231) (zRt 231) ∈ lw_tbl := zChunk_in 7 _ (List.mem_of_getElem? (i := 220) rfl)
theorem zcw_232 : Cond.code (zNm 232) (zCb 232) (zMl 232) (zRt 232) ∈ lw_tbl := zChunk_in 7 _ (List.mem_of_getElem? (i := 130) rfl)
theorem zcw_233 : Cond.code (zNm 233) (zCb 233) (zMl 233) (zRt 233) ∈ lw_tbl := zChunk_in 7 _ (List.mem_of_getElem? (i := 127) rfl)
theorem zcw_234 : Cond.code (zNm 234) (zCb 234) (zMl 234) (zRt 234) ∈ lw_tbl := zChunk_in 7 _ (List.mem_of_getElem? (i := 123) rfl)
theorem zcw_235 : Cond.code (zNm 235) (zCb 235) (zMl 235) (zRt 235) ∈ lw_tbl := zChunk_in 7 _ (List.mem_of_getElem? (i := 119) rfl)
theorem zcw_236 : Cond.code (zNm 236) (zCb 236) (zMl 236) (zRt 236) ∈ lw_tbl := zChunk_in 8 _ (List.mem_of_getElem? (i := 32) rfl)
theorem zcw_237 : Cond.code (zNm 237) (zCb 237) (zMl 237) (zRt 237) ∈ lw_tbl := zChunk_in 8 _ (List.mem_of_getElem? (i := 28) rfl)
theorem zcw_238 : Cond.code (zNm 238) (zCb 238) (zMl 238) (zRt 238) ∈ lw_tbl := zChunk_in 8 _ (List.mem_of_getElem? (i := 36) rfl)
theorem zcw_239 : Cond.code (zNm 239) (zCb 239) (zMl 239) (zRt 239) ∈ lw_tbl := zChunk_in 8 _ (List.mem_of_getElem? (i := 56) rfl)
theorem zcw_240 : Cond.code (zNm 240) (zCb 240) (zMl 240) (zRt 240) ∈ lw_tbl := zChunk_in 8 _ (List.mem_of_getElem? (i := 52) rfl)
theorem zcw_241 : Cond.code (zNm 241) (zCb 241) (zMl 241) (zRt 241) ∈ lw_tbl := zChunk_in 8 _ (List.mem_of_getElem? (i := 48) rfl)
theorem zcw_242 : Cond.code (zNm 242) (zCb 242) (zMl 242) (zRt 242) ∈ lw_tbl := zChunk_in 8 _ (List.mem_of_getElem? (i := 72) rfl)
theorem zcw_243 : Cond.code (zNm 243) (zCb 243) (zMl 243) (zRt 243) ∈ lw_tbl := zChunk_in 8 _ (List.mem_of_getElem? (i := 63) rfl)
theorem zcw_244 : Cond.code (zNm 244) (zCb 244) (zMl 244) (zRt 244) ∈ lw_tbl := zChunk_in 8 _ (List.mem_of_getElem? (i := 60) rfl)
theorem zcw_245 : Cond.code (zNm 245) (zCb 245) (zMl 245) (zRt 245) ∈ lw_tbl := zChunk_in 8 _ (List.mem_of_getElem? (i := 68) rfl)
theorem zcw_246 : Cond.code (zNm 246) (zCb 246) (zMl 246) (zRt 246) ∈ lw_tbl := zChunk_in 8 _ (List.mem_of_getElem? (i := 44) rfl)
theorem zcw_247 : Cond.code (zNm 247) (zCb 247) (zMl 247) (zRt 247) ∈ lw_tbl := zChunk_in 8 _ (List.mem_of_getElem? (i := 40) rfl)
theorem zcw_248 : Cond.code (zNm 248) (zCb 248) (zMl 248) (zRt 248) ∈ lw_tbl := zChunk_in 8 _ (List.mem_of_getElem? (i := 76) rfl)
theorem zcw_249 : Cond.code (zNm 249) (zCb 249) (zMl 249) (zRt 249) ∈ lw_tbl := zChunk_in 8 _ (List.mem_of_getElem? (i := 84) rfl)
theorem zcw_250 : Cond.code (zNm 250) (zCb 250) (zMl 250) (zRt 250) ∈ lw_tbl := zChunk_in 8 _ (List.mem_of_getElem? (i := 80) rfl)
theorem zcw_251 : Cond.code (zNm 251) (zCb 251) (zMl 251) (zRt 251) ∈ lw_tbl := zChunk_in 8 _ (List.mem_of_getElem? (i := 92) rfl)
theorem zcw_252 : Cond.code (zNm 252) (zCb 252) (zMl 252) (zRt 252) ∈ lw_tbl := zChunk_in 8 _ (List.mem_of_getElem? (i := 88) rfl)
theorem zcw_253 : Cond.code (zNm 253) (zCb 253) (zMl 253) (zRt 253) ∈ lw_tbl := zChunk_in 8 _ (List.mem_of_getElem? (i := 96) rfl)
theorem zcw_254 : Cond.code (zNm 254) (zCb 254) (zMl 254) (zRt 254) ∈ lw_tbl := zChunk_in 8 _ (List.mem_of_getElem? (i := 100) rfl)
theorem zcw_255 : Cond.code (zNm 255) (zCb 255) (zMl 255) (zRt 255) ∈ lw_tbl := zChunk_in 8 _ (List.mem_of_getElem? (i := 104) rfl)
theorem zcw_256 : Cond.code (zNm 256) (zCb 256) (zMl 256) (zRt 256) ∈ lw_tbl := zChunk_in 8 _ (List.mem_of_getElem? (i := 115) rfl)
theorem zcw_257 : Cond.code (zNm 257) (zCb 257) (zMl 257) (zRt 257) ∈ lw_tbl := zChunk_in 8 _ (List.mem_of_getElem? (i := 119) rfl)
theorem zcw_258 : Cond.code (zNm 258) (zCb 258) (zMl 258) (zRt 258) ∈ lw_tbl := zChunk_in 8 _ (List.mem_of_getElem? (i := 135) rfl)
theorem zcw_259 : Cond.code (zNm 259) (zCb 259) (zMl 259) (zRt 259) ∈ lw_tbl := zChunk_in 8 _ (List.mem_of_getElem? (i := 131) rfl)
theorem zcw_260 : Cond.code (zNm 260) (zCb 260) (zMl 260) (zRt 260) ∈ lw_tbl := zChunk_in 8 _ (List.mem_of_getElem? (i := 111) rfl)
theorem zcw_261 : Cond.code (zNm 261) (zCb 261) (zMl 261) (zRt 261) ∈ lw_tbl := zChunk_in 8 _ (List.mem_of_getElem? (i := 127) rfl)
theorem zcw_262 : Cond.code (zNm 262) (zCb 262) (zMl 262) (zRt 262) ∈ lw_tbl := zChunk_in 8 _ (List.mem_of_getElem? (i := 123) rfl)
theorem zcw_263 : Cond.code (zNm 263) (zCb 263) (zMl 263) (zRt 263) ∈ lw_tbl := zChunk_in 8 _ (List.mem_of_getElem? (i := 108) rfl)
theorem zcw_264 : Cond.code (zNm 264) (zCb 264) (zMl 264) (zRt 264) ∈ lw_tbl := zChunk_in 8 _ (List.mem_of_getElem? (i := 139) rfl)
theorem zcw_265 : Cond.code (zNm 265) (zCb 265) (zMl 265) (zRt 265) ∈ lw_tbl := zChunk_in 8 _ (List.mem_of_getElem? (i := 147) rfl)
theorem zcw_266 : Cond.code (zNm 266) (zCb 266) (zMl 266) (zRt 266) ∈ lw_tbl := zChunk_in 8 _ (List.mem_of_getElem? (i := 143) rfl)
theorem zcw_267 : Cond.code (zNm 267) (zCb 267) (zMl 267) (zRt 267) ∈ lw_tbl := zChunk_in 8 _ (List.mem_of_getElem? (i := 151) rfl)
theorem zcw_268 : Cond.code (zNm 268) (zCb 268) (zMl 268) (zRt 268) ∈ lw_tbl := zChunk_in 8 _ (List.mem_of_getElem? (i := 155) rfl)
theorem zcw_269 : Cond.code (zNm 269) (zCb 269) (zMl 269) (zRt 269) ∈ lw_tbl := zChunk_in 8 _ (List.mem_of_getElem? (i := 160) rfl)
theorem zcw_270 : Cond.code (zNm 270) (zCb 270) (zMl 270) (zRt 270) ∈ lw_tbl := zChunk_in 8 _ (List.mem_of_getElem? (i := 164) rfl)
theorem zcw_271 : Cond.code (zNm 271) (zCb 271) (zMl 271) (zRt 271) ∈ lw_tbl := zChunk_in 8 _ (List.mem_of_getElem? (i := 169) rfl)
theorem zcw_272 : Cond.code (zNm 272) (zCb 272) (zMl 272) (zRt 272) ∈ lw_tbl := zChunk_in 8 _ (List.mem_of_getElem? (i := 173) rfl)
theorem zcw_273 : Cond.code (zNm 273) (zCb 273) (zMl 273) (zRt 273) ∈ lw_tbl := zChunk_in 8 _ (List.mem_of_getElem? (i := 177) rfl)
theorem zcw_274 : Cond.code (zNm 274) (zCb 274) (zMl 274) (zRt 274) ∈ lw_tbl := zChunk_in 8 _ (List.mem_of_getElem? (i := 181) rfl)
theorem zcw_275 : Cond.code (zNm 275) (zCb 275) (zMl 275) (zRt 275) ∈ lw_tbl := zChunk_in 8 _ (List.mem_of_getElem? (i := 185) rfl)
theorem zcw_276 : Cond.code (zNm 276) (zCb 276) (zMl 276) (zRt 276) ∈ lw_tbl := zChunk_in 8 _ (List.mem_of_getElem? (i := 189) rfl)
theorem zcw_277 : Cond.code (zNm 277) (zCb 277) (zMl 277) (zRt 277) ∈ lw_tbl := zChunk_in 8 _ (List.mem_of_getElem? (i := 193) rfl)
theorem zcw_278 : Cond.code (zNm 278) (zCb 278) (zMl 278) (zRt 278) ∈ lw_tbl := zChunk_in 8 _ (List.mem_of_getElem? (i := 197) rfl)
theorem zcw_279 : Cond.code (zNm 279) (zCb 279) (zMl 279) (zRt 279) ∈ lw_tbl := zChunk_in 8 _ (List.mem_of_getElem? (i := 201) rfl)
theorem zcw_280 : Cond.code (zNm 280) (zCb 280) (zMl 280) (zRt 280) ∈ lw_tbl := zChunk_in 8 _ (List.mem_of_getElem? (i := 205) rfl)
theorem zcw_282 : Cond.code (zNm 282) (zCb 282) (zMl 282) (zRt 282) ∈ lw_tbl := zChunk_in 5 _ (List.mem_of_getElem? (i := 177) rfl)
theorem zcw_283 : Cond.code (zNm 283) (zCb 283) (zMl 283) (zRt 283) ∈ lw_tbl := zChunk_in 5 _ (List.mem_of_getElem? (i := 113) rfl)
theorem zcw_284 : Cond.code (zNm 284) (zCb 284) (zMl 284) (zRt 284) ∈ lw_tbl := zChunk_in 2 _ (List.mem_of_getElem? (i := 82) rfl)
theorem zcw : ∀ k, k < 285 → k ≠ 281 → Cond.code (zNm k) (zCb k) (zMl k) (zRt k) ∈ zgood := by
  intro k hk hl
  refine List.mem_filter.mpr ⟨?_, rfl⟩
  match k, hk, hl with
  | 0, _, _ => exact zcw_0
  | 1, _, _ => exact zcw_1
  | 2, _, _ => exact zcw_2
  | 3, _, _ => exact zcw_3
  | 4, _, _ => exact zcw_4
  | 5, _, _ => exact zcw_5
  | 6, _, _ => exact zcw_6
  | 7, _, _ => exact zcw_7
  | 8, _, _ => exact zcw_8
  | 9, _, _ => exact zcw_9
  | 10, _, _ => exact zcw_10
  | 11, _, _ => exact zcw_11
  | 12, _, _ => exact zcw_12
  | 13, _, _ => exact zcw_13
  | 14, _, _ => exact zcw_14
  | 15, _, _ => exact zcw_15
  | 16, _, _ => exact zcw_16
  | 17, _, _ => exact zcw_17
  | 18, _, _ => exact zcw_18
  | 19, _, _ => exact zcw_19
  | 20, _, _ => exact zcw_20
  | 21, _, _ => exact zcw_21
  | 22, _, _ => exact zcw_22
  | 23, _, _ => exact zcw_23
  | 24, _, _ => exact zcw_24
  | 25, _, _ => exact zcw_25
  | 26, _, _ => exact zcw_26
  | 27, _, _ => exact zcw_27
  | 28, _, _ => exact zcw_28
  | 29, _, _ => exact zcw_29
  | 30, _, _ => exact zcw_30
  | 31, _, _ => exact zcw_31
  | 32, _, _ => exact zcw_32
  | 33, _, _ => exact zcw_33
  | 34, _, _ => exact zcw_34
  | 35, _, _ => exact zcw_35
  | 36, _, _ => exact zcw_36
  | 37, _, _ => exact zcw_37
  | 38, _, _ => exact zcw_38
  | 39, _, _ => exact zcw_39
  | 40, _, _ => exact zcw_40
  | 41, _, _ => exact zcw_41
  | 42, _, _ => exact zcw_42
  | 43, _, _ => exact zcw_43
  | 44, _, _ => exact zcw_44
  | 45, _, _ => exact zcw_45
  | 46, _, _ => exact zcw_46
  | 47, _, _ => exact zcw_47
  | 48, _, _ => exact zcw_48
  | 49, _, _ => exact zcw_49
  | 50, _, _ => exact zcw_50
  | 51, _, _ => exact zcw_51
  | 52, _, _ => exact zcw_52
  | 53, _, _ => exact zcw_53
  | 54, _, _ => exact zcw_54
  | 55, _, _ => exact zcw_55
  | 56, _, _ => exact zcw_56
  | 57, _, _ => exact zcw_57
  | 58, _, _ => exact zcw_58
  | 59, _, _ => exact zcw_59
  | 60, _, _ => exact zcw_60
  | 61, _, _ => exact zcw_61
  | 62, _, _ => exact zcw_62
  | 63, _, _ => exact zcw_63
  | 64, _, _ => exact zcw_64
  | 65, _, _ => exact zcw_65
  | 66, _, _ => exact zcw_66
  | 67, _, _ => exact zcw_67
  | 68, _, _ => exact zcw_68
  | 69, _, _ => exact zcw_69
  | 70, _, _ => exact zcw_70
  | 71, _, _ => exact zcw_71
  | 72, _, _ => exact zcw_72
  | 73, _, _ => exact zcw_73
  | 74, _, _ => exact zcw_74
  | 75, _, _ => exact zcw_75
  | 76, _, _ => exact zcw_76
  | 77, _, _ => exact zcw_77
  | 78, _, _ => exact zcw_78
  | 79, _, _ => exact zcw_79
  | 80, _, _ => exact zcw_80
  | 81, _, _ => exact zcw_81
  | 82, _, _ => exact zcw_82
  | 83, _, _ => exact zcw_83
  | 84, _, _ => exact zcw_84
  | 85, _, _ => exact zcw_85
  | 86, _, _ => exact zcw_86
  | 87, _, _ => exact zcw_87
  | 88, _, _ => exact zcw_88
  | 89, _, _ => exact zcw_89
  | 90, _, _ => exact zcw_90
  | 91, _, _ => exact zcw_91
  | 92, _, _ => exact zcw_92
  | 93, _, _ => exact zcw_93
  | 94, _, _ => exact zcw_94
  | 95, _, _ => exact zcw_95
  | 96, _, _ => exact zcw_96
  | 97, _, _ => exact zcw_97
  | 98, _, _ => exact zcw_98
  | 99, _, _ => exact zcw_99
  | 100, _, _ => exact zcw_100
  | 101, _, _ => exact zcw_101
  | 102, _, _ => exact zcw_102
  | 103, _, _ => exact zcw_103
  | 104, _, _ => exact zcw_104
  | 105, _, _ => exact zcw_105
  | 106, _, _ => exact zcw_106
  | 107, _, _ => exact zcw_107
  | 108, _, _ => exact zcw_108
  | 109, _, _ => exact zcw_109
  | 110, _, _ => exact zcw_110
  | 111, _, _ => exact zcw_111
  | 112, _, _ => exact zcw_112
  | 113, _, _ => exact zcw_113
  | 114, _, _ => exact zcw_114
  | 115, _, _ => exact zcw_115
  | 116, _, _ => exact zcw_116
  | 117, _, _ => exact zcw_117
  | 118, _, _ => exact zcw_118
  | 119, _, _ => exact zcw_119
  | 120, _, _ => exact zcw_120
  | 121, _, _ => exact zcw_121
  | 122, _, _ => exact zcw_122
  | 123, _, _ => exact zcw_123
  | 124, _, _ => exact zcw_124
  | 125, _, _ => exact zcw_125
  | 126, _, _ => exact zcw_126
  | 127, _, _ => exact zcw_127
  | 128, _, _ => exact zcw_128
  | 129, _, _ => exact zcw_129
  | 130, _, _ => exact zcw_130
  | 131, _, _ => exact zcw_131
  | 132, _, _ => exact zcw_132
  | 133, _, _ => exact zcw_133
  | 134, _, _ => exact zcw_134
  | 135, _, _ => exact zcw_135
  | 136, _, _ => exact zcw_136
  | 137, _, _ => exact zcw_137
  | 138, _, _ => exact zcw_138
  | 139, _, _ => exact zcw_139
  | 140, _, _ => exact zcw_140
  | 141, _, _ => exact zcw_141
  | 142, _, _ => exact zcw_142
  | 143, _, _ => exact zcw_143
  | 144, _, _ => exact zcw_144
  | 145, _, _ => exact zcw_145
  | 146, _, _ => exact zcw_146
  | 147, _, _ => exact zcw_147
  | 148, _, _ => exact zcw_148
  | 149, _, _ => exact zcw_149
  | 150, _, _ => exact zcw_150
  | 151, _, _ => exact zcw_151
  | 152, _, _ => exact zcw_152
  | 153, _, _ => exact zcw_153
  | 154, _, _ => exact zcw_154
  | 155, _, _ => exact zcw_155
  | 156, _, _ => exact zcw_156
  | 157, _, _ => exact zcw_157
  | 158, _, _ => exact zcw_158
  | 159, _, _ => exact zcw_159
  | 160, _, _ => exact zcw_160
  | 161, _, _ => exact zcw_161
  | 162, _, _ => exact zcw_162
  | 163, _, _ => exact zcw_163
  | 164, _, _ => exact zcw_164
  | 165, _, _ => exact zcw_165
  | 166, _, _ => exact zcw_166
  | 167, _, _ => exact zcw_167
  | 168, _, _ => exact zcw_168
  | 169, _, _ => exact zcw_169
  | 170, _, _ => exact zcw_170
  | 171, _, _ => exact zcw_171
  | 172, _, _ => exact zcw_172
  | 173, _, _ => exact zcw_173
  | 174, _, _ => exact zcw_174
  | 175, _, _ => exact zcw_175
  | 176, _, _ => exact zcw_176
  | 177, _, _ => exact zcw_177
  | 178, _, _ => exact zcw_178
  | 179, _, _ => exact zcw_179
  | 180, _, _ => exact zcw_180
  | 181, _, _ => exact zcw_181
  | 182, _, _ => exact zcw_182
  | 183, _, _ => exact zcw_183
  | 184, _, _ => exact zcw_184
  | 185, _, _ => exact zcw_185
  | 186, _, _ => exact zcw_186
  | 187, _, _ => exact zcw_187
  | 188, _, _ => exact zcw_188
  | 189, _, _ => exact zcw_189
  | 190, _, _ => exact zcw_190
  | 191, _, _ => exact zcw_191
  | 192, _, _ => exact zcw_192
  | 193, _, _ => exact zcw_193
  | 194, _, _ => exact zcw_194
  | 195, _, _ => exact zcw_195
  | 196, _, _ => exact zcw_196
  | 197, _, _ => exact zcw_197
  | 198, _, _ => exact zcw_198
  | 199, _, _ => exact zcw_199
  | 200, _, _ => exact zcw_200
  | 201, _, _ => exact zcw_201
  | 202, _, _ => exact zcw_202
  | 203, _, _ => exact zcw_203
  | 204, _, _ => exact zcw_204
  | 205, _, _ => exact zcw_205
  | 206, _, _ => exact zcw_206
  | 207, _, _ => exact zcw_207
  | 208, _, _ => exact zcw_208
  | 209, _, _ => exact zcw_209
  | 210, _, _ => exact zcw_210
  | 211, _, _ => exact zcw_211
  | 212, _, _ => exact zcw_212
  | 213, _, _ => exact zcw_213
  | 214, _, _ => exact zcw_214
  | 215, _, _ => exact zcw_215
  | 216, _, _ => exact zcw_216
  | 217, _, _ => exact zcw_217
  | 218, _, _ => exact zcw_218
  | 219, _, _ => exact zcw_219
  | 220, _, _ => exact zcw_220
  | 221, _, _ => exact zcw_221
  | 222, _, _ => exact zcw_222
  | 223, _, _ => exact zcw_223
  | 224, _, _ => exact zcw_224
  | 225, _, _ => exact zcw_225
  | 226, _, _ => exact zcw_226
  | 227, _, _ => exact zcw_227
  | 228, _, _ => exact zcw_228
  | 229, _, _ => exact zcw_229
  | 230, _, _ => exact zcw_230
  | 231, _, _ => exact zcw_231
  | 232, _, _ => exact zcw_232
  | 233, _, _ => exact zcw_233
  | 234, _, _ => exact zcw_234
  | 235, _, _ => exact zcw_235
  | 236, _, _ => exact zcw_236
  | 237, _, _ => exact zcw_237
  | 238, _, _ => exact zcw_238
  | 239, _, _ => exact zcw_239
  | 240, _, _ => exact zcw_240
  | 241, _, _ => exact zcw_241
  | 242, _, _ => exact zcw_242
  | 243, _, _ => exact zcw_243
  | 244, _, _ => exact zcw_244
  | 245, _, _ => exact zcw_245
  | 246, _, _ => exact zcw_246
  | 247, _, _ => exact zcw_247
  | 248, _, _ => exact zcw_248
  | 249, _, _ => exact zcw_249
  | 250, _, _ => exact zcw_250
  | 251, _, _ => exact zcw_251
  | 252, _, _ => exact zcw_252
  | 253, _, _ => exact zcw_253
  | 254, _, _ => exact zcw_254
  | 255, _, _ => exact zcw_255
  | 256, _, _ => exact zcw_256
  | 257, _, _ => exact zcw_257
  | 258, _, _ => exact zcw_258
  | 259, _, _ => exact zcw_259
  | 260, _, _ => exact zcw_260
  | 261, _, _ => exact zcw_261
  | 262, _, _ => exact zcw_262
  | 263, _, _ => exact zcw_263
  | 264, _, _ => exact zcw_264
  | 265, _, _ => exact zcw_265
  | 266, _, _ => exact zcw_266
  | 267, _, _ => exact zcw_267
  | 268, _, _ => exact zcw_268
  | 269, _, _ => exact zcw_269
  | 270, _, _ => exact zcw_270
  | 271, _, _ => exact zcw_271
  | 272, _, _ => exact zcw_272
  | 273, _, _ => exact zcw_273
  | 274, _, _ => exact zcw_274
  | 275, _, _ => exact zcw_275
  | 276, _, _ => exact zcw_276
  | 277, _, _ => exact zcw_277
  | 278, _, _ => exact zcw_278
  | 279, _, _ => exact zcw_279
  | 280, _, _ => exact zcw_280
  | 281, _, hl => exact absurd rfl hl
  | 282, _, _ => exact zcw_282
  | 283, _, _ => exact zcw_283
  | 284, _, _ => exact zcw_284
  | k + 285, hk, _ => exact absurd hk (by omega)
/-- methods, as calls want them -/
def zMo (k : Nat) : Bool := decide ((zNm k).cls ≠ "java/lang/invoke/MethodHandle") && (decide ((zNm k).cls ≠ "java/lang/invoke/VarHandle") && (decide ((parseMethodDescriptor (zNm k).desc).map (fun d => d.parameters.length) = some (zNp k)) && (decide (zMl k ≤ 40) && (plainName (zNm k).cls && (decide ((zNm k).cls = zOw k) && (!(zIs k) || decide ((zNm k).name = "<init>")))))))
theorem zMo_ok : ∀ k, k < 285 → zMo k = true := by decide +kernel
end
section
/-! THE WALK: what must be shown for a stretch of code, worked out by program -/
abbrev zK : Type := List zI → List (Nat × zV) → List zV → Nat → List (Nat × Nat) → zM → zM → Prop
def zfind (t : Nat) : List zI → List zI
  | [] => []
  | e :: r => bif Nat.beq e.1 t then e :: r else zfind t r
def zlkp (i : Nat) : List (Nat × zV) → Option zV
  | [] => none
  | q :: r => bif Nat.beq q.1 i then some q.2 else zlkp i r
def zpk (ls : List (Nat × zV)) : List Nat → List (Nat × zV)
  | [] => []
  | i :: r => match zlkp i ls with
    | some v => (i, v) :: zpk ls r
    | none => zpk ls r
def zcu (p : Nat) : List (Nat × List Nat) → Option (List Nat)
  | [] => none
  | q :: r => bif Nat.beq q.1 p then some q.2 else zcu p r
def zuin (k j : Nat) : List (Nat × Nat) → Bool
  | [] => false
  | q :: r => (Nat.beq q.1 k && Nat.beq q.2 j) || zuin k j r
def zult (n : Nat) : List (Nat × Nat) → Bool
  | [] => true
  | q :: r => Nat.ble (q.1 + 1) n && zult n r
def zueq : List (Nat × Nat) → List (Nat × Nat) → Bool
  | [], [] => true
  | p :: r, q :: t => Nat.beq p.1 q.1 && (Nat.beq p.2 q.2 && zueq r t)
  | _, _ => false
def zudel (k j : Nat) : List (Nat × Nat) → List (Nat × Nat)
  | [] => []
  | q :: r => bif Nat.beq q.1 k && Nat.beq q.2 j then zudel k j r else q :: zudel k j r
def zcsum : List zV → Nat
  | [] => 0
  | v :: r => zcat v + zcsum r
/-- arithmetic: mode 0 shows that nothing wraps, else the number wraps -/
def zar (md : Nat) (v : Int) (k : Int → Prop) : Prop := match md with
  | 0 => zIn v ∧ k v
  | _ => k (w32 v)
def zal (md : Nat) (v : Int) (k : Int → Prop) : Prop := match md with
  | 0 => zLn v ∧ k v
  | _ => k (w64 v)
def zdv (md : Nat) (a b : Int) (k : Int → Prop) : Prop := match md with
  | 0 => (0 ≤ a ∧ 0 < b) ∧ k (a / b)
  | 1 => b ≠ 0 ∧ k (w32 (a.tdiv b))
  | _ => 0 < b ∧ k (a.tdiv b)
def zdl (md : Nat) (a b : Int) (k : Int → Prop) : Prop := match md with
  | 0 => (0 ≤ a ∧ 0 < b) ∧ k (a / b)
  | _ => b ≠ 0 ∧ k (w64 (a.tdiv b))
def zrm (md : Nat) (a b : Int) (k : Int → Prop) : Prop := match md with
  | 0 => (0 ≤ a ∧ 0 < b) ∧ k (a % b)
  | _ => b ≠ 0 ∧ k (a.tmod b)
/-- an array's place in the memory, an index's place there, its length, whether it holds longs -/
def zap : zV → Option (Nat × Nat × Bool)
  | .inr (.inr (.inl k)) => match zSh k with
    | (1, len, _, _) => some (k, len, false)
    | (2, len, _, _) => some (k, len, true)
    | _ => none
  | .inr (.inr (.inr (o, _))) => match zSh o with
    | (3, _, _, w) => some (o, w, false)
    | (4, _, _, w) => some (o, w, true)
    | _ => none
  | _ => none
def zoff : zV → Int → Int
  | .inr (.inr (.inr (o, i))), j => i * ((zSh o).2.2.2 : Int) + j
  | _, j => j
/-- a write, on the side where it falls -/
def zwr (K : zM → zM → Prop) (k : Nat) (i v : Int) (x m : zM) : Prop := bif Nat.ble k 385 then K (zupd x k i v) m else K x (zupd m k i v)
def zsw (K : Int → Prop) (v : Int) : Int → List Int → Prop
  | _, [] => True
  | lo, o :: r => (v = lo → K o) ∧ zsw K v (lo + 1) r
def zlw (K : Int → Prop) (v : Int) (dflt : Int) : List (Int × Int) → Prop
  | [] => K dflt
  | q :: r => (v = q.1 → K q.2) ∧ (v ≠ q.1 → zlw K v dflt r)
def zChr (i : Int) : Int := (zByt.getD i.toNat 0).toInt
/-- a call's answer comes back -/
def zbk (y : Nat) (r : Int) (st : List zV) (k : List zV → Prop) : Prop := match zKd y with
  | 0 => k st
  | 2 => k (zl r :: st)
  | 3 => (r = 0 ∨ r = 1) → k (zi r :: st)
  | _ => k (zi r :: st)
def zstep (md : Nat → Nat) (d y n' : Nat) (u' : List (Nat × Nat)) (Q : Int → zM → zM → Prop) (code : List zI) (K : zK) : zK := fun cs ls st n u x m =>
  match cs with
  | [] => False
  | (pc, ins, len, a, b, z) :: rest =>
    let J : Int → List zV → Prop := fun off st => K (zfind ((pc : Int) + off).toNat code) ls st n u x m
    match ins with
    | .aload_n i => match zlkp i.val ls with
      | some (.inr (.inr v)) => K rest ls (.inr (.inr v) :: st) n u x m
      | _ => False
    | .aload i => match zlkp i ls with
      | some (.inr (.inr v)) => K rest ls (.inr (.inr v) :: st) n u x m
      | _ => False
    | .iload_n i => match zlkp i.val ls with
      | some (.inl v) => K rest ls (zi v :: st) n u x m
      | _ => False
    | .iload i => match zlkp i ls with
      | some (.inl v) => K rest ls (zi v :: st) n u x m
      | _ => False
    | .lload_n i => match zlkp i.val ls with
      | some (.inr (.inl v)) => K rest ls (zl v :: st) n u x m
      | _ => False
    | .lload i => match zlkp i ls with
      | some (.inr (.inl v)) => K rest ls (zl v :: st) n u x m
      | _ => False
    | .iconst i => bif decide (-2147483648 ≤ i) && decide (i < 2147483648) then K rest ls (zi i :: st) n u x m else False
    | .bipush i => bif decide (-128 ≤ i) && decide (i < 128) then K rest ls (zi i :: st) n u x m else False
    | .sipush i => bif decide (-32768 ≤ i) && decide (i < 32768) then K rest ls (zi i :: st) n u x m else False
    | .lconst i => K rest ls (zl (i.val : Int) :: st) n u x m
    | .ldc _ => bif Nat.beq a 1 then K rest ls (zi z :: st) n u x m else K rest ls (zr 2003 :: st) n u x m
    | .ldc_w _ => K rest ls (zi z :: st) n u x m
    | .ldc2_w _ => K rest ls (zl z :: st) n u x m
    | .istore_n i => match st with
      | .inl v :: r => bif Nat.ble (i.val + 1) (zMl y) then K rest (zst1 i.val (zi v) ls) r n u x m else False
      | _ => False
    | .istore i => match st with
      | .inl v :: r => bif Nat.ble (i + 1) (zMl y) then K rest (zst1 i (zi v) ls) r n u x m else False
      | _ => False
    | .lstore_n i => match st with
      | .inr (.inl v) :: r => bif Nat.ble (i.val + 2) (zMl y) then K rest (zst2 i.val (zl v) ls) r n u x m else False
      | _ => False
    | .lstore i => match st with
      | .inr (.inl v) :: r => bif Nat.ble (i + 2) (zMl y) then K rest (zst2 i (zl v) ls) r n u x m else False
      | _ => False
    | .astore_n i => match st with
      | .inr (.inr v) :: r => bif Nat.ble (i.val + 1) (zMl y) then K rest (zst1 i.val (.inr (.inr v)) ls) r n u x m else False
      | _ => False
    | .astore i => match st with
      | .inr (.inr v) :: r => bif Nat.ble (i + 1) (zMl y) then K rest (zst1 i (.inr (.inr v)) ls) r n u x m else False
      | _ => False
    | .iinc i c => match zlkp i ls with
      | some (.inl v) => bif Nat.ble (i + 1) (zMl y) then zar (md pc) (v + c) (fun w => K rest (zst1 i (zi w) ls) st n u x m) else False
      | _ => False
    | .iadd => match st with
      | .inl w :: .inl v :: r => zar (md pc) (v + w) (fun q => K rest ls (zi q :: r) n u x m)
      | _ => False
    | .isub => match st with
      | .inl w :: .inl v :: r => zar (md pc) (v - w) (fun q => K rest ls (zi q :: r) n u x m)
      | _ => False
    | .imul => match st with
      | .inl w :: .inl v :: r => zar (md pc) (v * w) (fun q => K rest ls (zi q :: r) n u x m)
      | _ => False
    | .ineg => match st with
      | .inl v :: r => zar (md pc) (-v) (fun q => K rest ls (zi q :: r) n u x m)
      | _ => False
    | .idiv => match st with
      | .inl w :: .inl v :: r => zdv (md pc) v w (fun q => K rest ls (zi q :: r) n u x m)
      | _ => False
    | .irem => match st with
      | .inl w :: .inl v :: r => zrm (md pc) v w (fun q => K rest ls (zi q :: r) n u x m)
      | _ => False
    | .iand => match st with
      | .inl w :: .inl v :: r => K rest ls (zi (zand v w) :: r) n u x m
      | _ => False
    | .ior => match st with
      | .inl w :: .inl v :: r => K rest ls (zi (zor v w) :: r) n u x m
      | _ => False
    | .ixor => match st with
      | .inl w :: .inl v :: r => K rest ls (zi (zxor v w) :: r) n u x m
      | _ => False
    | .ishl => match st with
      | .inl w :: .inl v :: r => K rest ls (zi (zshl v w) :: r) n u x m
      | _ => False
    | .ishr => match st with
      | .inl w :: .inl v :: r => K rest ls (zi (zshr v w) :: r) n u x m
      | _ => False
    | .ladd => match st with
      | .inr (.inl w) :: .inr (.inl v) :: r => zal (md pc) (v + w) (fun q => K rest ls (zl q :: r) n u x m)
      | _ => False
    | .lsub => match st with
      | .inr (.inl w) :: .inr (.inl v) :: r => zal (md pc) (v - w) (fun q => K rest ls (zl q :: r) n u x m)
      | _ => False
    | .lmul => match st with
      | .inr (.inl w) :: .inr (.inl v) :: r => zal (md pc) (v * w) (fun q => K rest ls (zl q :: r) n u x m)
      | _ => False
    | .ldiv => match st with
      | .inr (.inl w) :: .inr (.inl v) :: r => zdl (md pc) v w (fun q => K rest ls (zl q :: r) n u x m)
      | _ => False
    | .lrem => match st with
      | .inr (.inl w) :: .inr (.inl v) :: r => zrm (md pc) v w (fun q => K rest ls (zl q :: r) n u x m)
      | _ => False
    | .lor => match st with
      | .inr (.inl w) :: .inr (.inl v) :: r => K rest ls (zl (zlor v w) :: r) n u x m
      | _ => False
    | .lshl => match st with
      | .inl w :: .inr (.inl v) :: r => K rest ls (zl (zlshl v w) :: r) n u x m
      | _ => False
    | .i2l => match st with
      | .inl v :: r => K rest ls (zl v :: r) n u x m
      | _ => False
    | .l2i => match st with
      | .inr (.inl v) :: r => zar (md pc) v (fun q => K rest ls (zi q :: r) n u x m)
      | _ => False
    | .dup => match st with
      | .inl v :: r => K rest ls (zi v :: zi v :: r) n u x m
      | .inr (.inr v) :: r => K rest ls (.inr (.inr v) :: .inr (.inr v) :: r) n u x m
      | _ => False
    | .dup2 => match st with
      | .inl v :: .inl w :: r => K rest ls (zi v :: zi w :: zi v :: zi w :: r) n u x m
      | .inl v :: .inr (.inr w) :: r => K rest ls (zi v :: .inr (.inr w) :: zi v :: .inr (.inr w) :: r) n u x m
      | _ => False
    | .pop => match st with
      | .inl _ :: r => K rest ls r n u x m
      | _ => False
    | .pop2 => match st with
      | .inr (.inl _) :: r => K rest ls r n u x m
      | _ => False
    | .goto off => bif decide (0 ≤ (pc : Int) + off) then J off st else False
    | .if_icmp c off => match st with
      | .inl w :: .inl v :: r => bif decide (0 ≤ (pc : Int) + off) then (zcmp c v w → J off r) ∧ (zcmn c v w → K rest ls r n u x m) else False
      | _ => False
    | .ifCond c off => match st with
      | .inl v :: r => bif decide (0 ≤ (pc : Int) + off) then (zcmp c v 0 → J off r) ∧ (zcmn c v 0 → K rest ls r n u x m) else False
      | _ => False
    | .lcmp => match st, rest with
      | .inr (.inl w) :: .inr (.inl v) :: r, (pc2, .ifCond c off, _, _, _, _) :: rest2 => bif decide (0 ≤ (pc2 : Int) + off) then (zcmp c v w → K (zfind ((pc2 : Int) + off).toNat code) ls r n u x m) ∧ (zcmn c v w → K rest2 ls r n u x m) else False
      | _, _ => False
    | .tableswitch dflt lo hi offs => match st with
      | .inl v :: r => bif decide ((offs.toList.length : Int) = hi - lo + 1) then (v < lo ∨ hi < v → (bif decide (0 ≤ (pc : Int) + dflt) then J dflt r else False)) ∧ zsw (fun o => bif decide (0 ≤ (pc : Int) + o) then J o r else False) v lo offs.toList else False
      | _ => False
    | .lookupswitch dflt ps => match st with
      | .inl v :: r => bif (ps.toList.zip (ps.toList.drop 1)).all (fun (a, next) => a.1 < next.1) then zlw (fun o => bif decide (0 ≤ (pc : Int) + o) then J o r else False) v dflt ps.toList else False
      | _ => False
    | .getfield _ => match st with
      | .inr (.inr (.inl k)) :: r => match zSh k with
        | (0, ci, nf, _) => bif Nat.beq ci a && (Nat.ble (b + 1) nf && Nat.ble (k + 1) n) then (match (zTy a).getD b 0 with
          | 1 => K rest ls (zl (zrd x m k b) :: r) n u x m
          | 2 => bif zuin k b u then False else K rest ls (zr ((zRf k).getD b 0) :: r) n u x m
          | 0 => K rest ls (zi (zrd x m k b) :: r) n u x m
          | 3 => K rest ls (zi (zrd x m k b) :: r) n u x m
          | _ => False) else False
        | _ => False
      | _ => False
    | .putfield _ => match st with
      | v :: .inr (.inr (.inl k)) :: r => match zSh k with
        | (0, ci, nf, _) => bif Nat.beq ci a && (Nat.ble (b + 1) nf && Nat.ble (k + 1) n) then (match (zTy a).getD b 0, v with
          | 0, .inl w => bif ((zCl a).2.1 b).2.2.2 then False else zwr (fun x m => K rest ls r n u x m) k b w x m
          | 3, .inl w => bif ((zCl a).2.1 b).2.2.2 then False else (w = 0 ∨ w = 1) ∧ zwr (fun x m => K rest ls r n u x m) k b w x m
          | 1, .inr (.inl w) => bif ((zCl a).2.1 b).2.2.2 then False else zwr (fun x m => K rest ls r n u x m) k b w x m
          | 2, .inr (.inr (.inl t)) => bif ((zCl a).2.1 b).2.2.2 && (zIs y && (Nat.beq (zOc y) a && Nat.beq ((zRf k).getD b 0) t)) then K rest ls r n (zudel k b u) x m else False
          | _, _ => False) else False
        | _ => False
      | _ => False
    | .getstatic _ => K rest ls (zr a :: st) n u x m
    | .arraylength => match st with
      | .inr (.inr (.inl k)) :: r => bif Nat.beq k 2000 then K rest ls (zi (m 2000 (-1)) :: r) n u x m else False
      | _ => False
    | .aaload => match st with
      | .inl i :: .inr (.inr (.inl o)) :: r => bif Nat.ble (o + 1) n then (match zSh o with
        | (3, _, nn, _) => (0 ≤ i ∧ i < (nn : Int)) ∧ K rest ls (zw o i :: r) n u x m
        | (4, _, nn, _) => (0 ≤ i ∧ i < (nn : Int)) ∧ K rest ls (zw o i :: r) n u x m
        | _ => False) else False
      | _ => False
    | .iaload => match st with
      | .inl i :: v :: r => match v with
        | .inr (.inr (.inl 2000)) => (0 ≤ i ∧ i < m 2000 (-1)) ∧ ∀ w, zIn w → w = m 2000 i → K rest ls (zi w :: r) n u x m
        | .inr (.inr (.inl 2001)) => (0 ≤ i ∧ i < 6) ∧ K rest ls (zi (zUi i) :: r) n u x m
        | .inr (.inr (.inl 2002)) => (0 ≤ i ∧ i < 6) ∧ K rest ls (zi (zOi i) :: r) n u x m
        | v => match zap v with
          | some (k, len, false) => (0 ≤ i ∧ i < (len : Int)) ∧ K rest ls (zi (zrd x m k (zoff v i)) :: r) n u x m
          | _ => False
      | _ => False
    | .laload => match st with
      | .inl i :: v :: r => match zap v with
        | some (k, len, true) => (0 ≤ i ∧ i < (len : Int)) ∧ K rest ls (zl (zrd x m k (zoff v i)) :: r) n u x m
        | _ => False
      | _ => False
    | .iastore => match st with
      | .inl w :: .inl i :: v :: r => match zap v with
        | some (k, len, false) => (0 ≤ i ∧ i < (len : Int)) ∧ zwr (fun x m => K rest ls r n u x m) k (zoff v i) w x m
        | _ => False
      | _ => False
    | .lastore => match st with
      | .inr (.inl w) :: .inl i :: v :: r => match zap v with
        | some (k, len, true) => (0 ≤ i ∧ i < (len : Int)) ∧ zwr (fun x m => K rest ls r n u x m) k (zoff v i) w x m
        | _ => False
      | _ => False
    | .new _ => match zSh n with
      | (0, ci, _, _) => bif Nat.beq ci a && (Nat.ble (n + 1) n' && zult n u) then (bif Nat.ble (n + 1) 386 then K rest ls (zr n :: st) (n + 1) (zun n a ++ u) (zzr x n 1) m else bif Nat.ble 386 n then K rest ls (zr n :: st) (n + 1) (zun n a ++ u) x (zzr m n 1) else False) else False
      | _ => False
    | .newarray .int => match st, zSh n with
      | .inl i :: r, (1, len, _, _) => bif Nat.ble (n + 1) n' && (Nat.ble len 100000 && zult n u) then i = (len : Int) ∧ (bif Nat.ble (n + 1) 386 then K rest ls (zr n :: r) (n + 1) u (zzr x n 1) m else bif Nat.ble 386 n then K rest ls (zr n :: r) (n + 1) u x (zzr m n 1) else False) else False
      | _, _ => False
    | .newarray .long => match st, zSh n with
      | .inl i :: r, (2, len, _, _) => bif Nat.ble (n + 1) n' && (Nat.ble len 100000 && zult n u) then i = (len : Int) ∧ (bif Nat.ble (n + 1) 386 then K rest ls (zr n :: r) (n + 1) u (zzr x n 1) m else bif Nat.ble 386 n then K rest ls (zr n :: r) (n + 1) u x (zzr m n 1) else False) else False
      | _, _ => False
    | .multianewarray _ 2 => match st, zSh n with
      | .inl j :: .inl i :: r, (k9, b9, len, w) => bif Nat.beq k9 (bif Nat.beq a 0 then 3 else 4) && (Nat.beq b9 (n + 1) && (Nat.ble (n + 1 + len) n' && (Nat.ble len 10000 && (Nat.ble w 10000 && (zult n u && (Nat.beq a 0 || Nat.beq a 1)))))) then (i = (len : Int) ∧ j = (w : Int)) ∧ (bif Nat.ble (n + (1 + len)) 386 then K rest ls (zr n :: r) (n + (1 + len)) u (zzr x n (1 + len)) m else bif Nat.ble 386 n then K rest ls (zr n :: r) (n + (1 + len)) u x (zzr m n (1 + len)) else False) else False
      | _, _ => False
    | .invokevirtual _ => match b with
      | 0 => match st.drop (zNp a) with
        | .inr (.inr (.inl k)) :: r => match zSh k with
          | (0, ci, _, _) => bif Nat.beq ci (zOc a) && (Nat.ble (k + 1) n && (Nat.ble (zcsum r) 8 && Nat.ble (zNp a) (st.take (zNp a)).length)) then 1 ≤ d ∧ WPc (d - 1) a (zr k :: (st.take (zNp a)).reverse) n u x m n u (fun q x m => zbk a q r (fun st => K rest ls st n u x m)) else False
          | _ => False
        | _ => False
      | 16 => match st with
        | .inr (.inr (.inl 2003)) :: r => bif Nat.ble (zcsum r) 4 then 8 ≤ d ∧ K rest ls (zi 104 :: r) n u x m else False
        | _ => False
      | 17 => match st with
        | .inl i :: .inr (.inr (.inl 2003)) :: r => bif Nat.ble (zcsum r) 4 then 8 ≤ d ∧ (0 ≤ i ∧ i < 104) ∧ K rest ls (zi (zChr i) :: r) n u x m else False
        | _ => False
      | _ => False
    | .invokestatic _ => match b with
      | 1 => bif Nat.ble (zcsum (st.drop (zNp a))) 8 && Nat.ble (zNp a) (st.take (zNp a)).length then 1 ≤ d ∧ WPc (d - 1) a (st.take (zNp a)).reverse n u x m n u (fun q x m => zbk a q (st.drop (zNp a)) (fun st => K rest ls st n u x m)) else False
      | 10 => match st with
        | .inl w :: .inl v :: r => bif Nat.ble (zcsum r) 8 then 1 ≤ d ∧ K rest ls (zi (zmx v w) :: r) n u x m else False
        | _ => False
      | 11 => match st with
        | .inl w :: .inl v :: r => bif Nat.ble (zcsum r) 8 then 1 ≤ d ∧ K rest ls (zi (zmn v w) :: r) n u x m else False
        | _ => False
      | 15 => match st with
        | .inl cnt :: .inl dp :: v2 :: .inl sp :: v1 :: r => match zap v1, zap v2 with
          | some (k1, len1, lg1), some (k2, len2, lg2) => bif Nat.ble (zcsum r) 8 && (Nat.ble k1 385 && (Nat.ble k2 385 && (Nat.beq n 403 && (lg1 == lg2)))) then 1 ≤ d ∧ (0 ≤ sp ∧ 0 ≤ dp ∧ 0 ≤ cnt ∧ sp + cnt ≤ (len1 : Int) ∧ dp + cnt ≤ (len2 : Int)) ∧ K rest ls r n u (zcpy x k1 (zoff v1 sp) k2 (zoff v2 dp) cnt) m else False
          | _, _ => False
        | _ => False
      | _ => False
    | .invokespecial _ => match b with
      | 4 => match st with
        | .inr (.inr (.inl _)) :: r => bif Nat.ble (zcsum r) 8 then 1 ≤ d ∧ K rest ls r n u x m else False
        | _ => False
      | 2 => match st.drop (zNp a) with
        | .inr (.inr (.inl k)) :: r => bif Nat.ble (k + 1) n && (Nat.ble (zcsum r) 8 && (Nat.ble (n + (zCa a).1) n' && (Nat.beq (zKd a) 0 && Nat.ble (zNp a) (st.take (zNp a)).length))) then 1 ≤ d ∧ WPc (d - 1) a (zr k :: (st.take (zNp a)).reverse) n u x m (n + (zCa a).1) (u.drop (zCa a).2) (fun _ x m => K rest ls r (n + (zCa a).1) (u.drop (zCa a).2) x m) else False
        | _ => False
      | 3 => match st.drop (zNp a) with
        | .inr (.inr (.inl k)) :: r => bif Nat.ble (k + 1) n && (Nat.ble (zcsum r) 8 && (Nat.ble (n + (zCa a).1) n' && (Nat.beq (zKd a) 0 && Nat.ble (zNp a) (st.take (zNp a)).length))) then 1 ≤ d ∧ WPc (d - 1) a (zr k :: (st.take (zNp a)).reverse) n u x m (n + (zCa a).1) (u.drop (zCa a).2) (fun _ x m => K rest ls r (n + (zCa a).1) (u.drop (zCa a).2) x m) else False
        | _ => False
      | _ => False
    | .return_ => match st with
      | [] => bif Nat.beq (zKd y) 0 && (Nat.beq n n' && zueq u u') then Q 0 x m else False
      | _ => False
    | .ireturn => match st with
      | [.inl v] => bif Nat.beq n n' && zueq u u' then (match zKd y with
        | 1 => Q v x m
        | 3 => (v = 0 ∨ v = 1) ∧ Q v x m
        | _ => False) else False
      | _ => False
    | .lreturn => match st with
      | [.inr (.inl v)] => bif Nat.beq (zKd y) 2 && (Nat.beq n n' && zueq u u') then Q v x m else False
      | _ => False
    | _ => False
def zarr (cu : List (Nat × List Nat)) (d y n' : Nat) (u' : List (Nat × Nat)) (Q : Int → zM → zM → Prop) (F : zK) : zK := fun cs ls st n u x m =>
  match cs with
  | [] => False
  | e :: r => match zcu e.1 cu with
    | some keep => WP d y e.1 (zpk ls keep) st n u x m n' u' Q
    | none => F (e :: r) ls st n u x m
def wpc (md : Nat → Nat) (cu : List (Nat × List Nat)) (d y n' : Nat) (u' : List (Nat × Nat)) (Q : Int → zM → zM → Prop) (code : List zI) : Nat → zK
  | 0 => fun _ _ _ _ _ _ _ => False
  | f + 1 => zstep md d y n' u' Q code (zarr cu d y n' u' Q (wpc md cu d y n' u' Q code f))
end
