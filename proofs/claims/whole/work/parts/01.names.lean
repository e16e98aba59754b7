-- ===== PART A: goes FIRST, ahead of the names: the tables' words, and 'selects' of the private methods out of them =====
/-- a private method of a class that the tables say can be made, by its rows of tables_1 -/
def lw_okq (q : MethodName × Nat) : Prop := (q.1.cls ≠ "java/lang/invoke/MethodHandle" ∧ q.1.cls ≠ "java/lang/invoke/VarHandle") ∧ Cond.instantiable q.1.cls q.2 ∈ tables_1 ∧ Cond.privateMethod q.1 ∈ tables_1 ∧ Cond.instanceMethod q.1 ∈ tables_1
theorem lw_p0 : lw_okq (⟨"OneCode$Text", "readEnd", "()Z"⟩, 10) := ⟨⟨by decide +kernel, by decide +kernel⟩, List.mem_of_getElem? (i := 301) (by decide +kernel), List.mem_of_getElem? (i := 416) (by decide +kernel), List.mem_of_getElem? (i := 417) (by decide +kernel)⟩
theorem lw_p1 : lw_okq (⟨"OneCode$Text", "next", "()I"⟩, 10) := ⟨⟨by decide +kernel, by decide +kernel⟩, List.mem_of_getElem? (i := 301) (by decide +kernel), List.mem_of_getElem? (i := 420) (by decide +kernel), List.mem_of_getElem? (i := 421) (by decide +kernel)⟩
theorem lw_p2 : lw_okq (⟨"OneCode$Text", "readWord", "(Ljava/lang/String;)Z"⟩, 10) := ⟨⟨by decide +kernel, by decide +kernel⟩, List.mem_of_getElem? (i := 301) (by decide +kernel), List.mem_of_getElem? (i := 425) (by decide +kernel), List.mem_of_getElem? (i := 426) (by decide +kernel)⟩
theorem lw_p3 : lw_okq (⟨"OneCode$Text", "readOwed", "()Z"⟩, 10) := ⟨⟨by decide +kernel, by decide +kernel⟩, List.mem_of_getElem? (i := 301) (by decide +kernel), List.mem_of_getElem? (i := 479) (by decide +kernel), List.mem_of_getElem? (i := 480) (by decide +kernel)⟩
theorem lw_p4 : lw_okq (⟨"OneCode$Text", "readDigit", "(C)I"⟩, 10) := ⟨⟨by decide +kernel, by decide +kernel⟩, List.mem_of_getElem? (i := 301) (by decide +kernel), List.mem_of_getElem? (i := 483) (by decide +kernel), List.mem_of_getElem? (i := 484) (by decide +kernel)⟩
theorem lw_p5 : lw_okq (⟨"OneCode$Text", "readGoes", "()Z"⟩, 10) := ⟨⟨by decide +kernel, by decide +kernel⟩, List.mem_of_getElem? (i := 301) (by decide +kernel), List.mem_of_getElem? (i := 488) (by decide +kernel), List.mem_of_getElem? (i := 489) (by decide +kernel)⟩
theorem lw_p6 : lw_okq (⟨"OneCode$Text", "readCondition", "()Z"⟩, 10) := ⟨⟨by decide +kernel, by decide +kernel⟩, List.mem_of_getElem? (i := 301) (by decide +kernel), List.mem_of_getElem? (i := 492) (by decide +kernel), List.mem_of_getElem? (i := 493) (by decide +kernel)⟩
theorem lw_p7 : lw_okq (⟨"OneCode$Text", "readTest", "(Z)Z"⟩, 10) := ⟨⟨by decide +kernel, by decide +kernel⟩, List.mem_of_getElem? (i := 301) (by decide +kernel), List.mem_of_getElem? (i := 499) (by decide +kernel), List.mem_of_getElem? (i := 500) (by decide +kernel)⟩
theorem lw_p8 : lw_okq (⟨"OneCode$Text", "readLink", "()Z"⟩, 10) := ⟨⟨by decide +kernel, by decide +kernel⟩, List.mem_of_getElem? (i := 301) (by decide +kernel), List.mem_of_getElem? (i := 525) (by decide +kernel), List.mem_of_getElem? (i := 526) (by decide +kernel)⟩
theorem lw_p9 : lw_okq (⟨"OneCode$Text", "findFitting", "()V"⟩, 10) := ⟨⟨by decide +kernel, by decide +kernel⟩, List.mem_of_getElem? (i := 301) (by decide +kernel), List.mem_of_getElem? (i := 531) (by decide +kernel), List.mem_of_getElem? (i := 532) (by decide +kernel)⟩
theorem lw_p10 : lw_okq (⟨"OneCode$Text", "testsHold", "(I)Z"⟩, 10) := ⟨⟨by decide +kernel, by decide +kernel⟩, List.mem_of_getElem? (i := 301) (by decide +kernel), List.mem_of_getElem? (i := 542) (by decide +kernel), List.mem_of_getElem? (i := 543) (by decide +kernel)⟩
theorem lw_p11 : lw_okq (⟨"OneCode$Rule", "standingAsKnown", "(I)I"⟩, 11) := ⟨⟨by decide +kernel, by decide +kernel⟩, List.mem_of_getElem? (i := 553) (by decide +kernel), List.mem_of_getElem? (i := 667) (by decide +kernel), List.mem_of_getElem? (i := 668) (by decide +kernel)⟩
theorem lw_p12 : lw_okq (⟨"OneCode$Cases", "isLeft", "(II)Z"⟩, 6) := ⟨⟨by decide +kernel, by decide +kernel⟩, List.mem_of_getElem? (i := 109) (by decide +kernel), List.mem_of_getElem? (i := 885) (by decide +kernel), List.mem_of_getElem? (i := 886) (by decide +kernel)⟩
theorem lw_p13 : lw_okq (⟨"OneCode$Cases", "countHolding", "(I)V"⟩, 6) := ⟨⟨by decide +kernel, by decide +kernel⟩, List.mem_of_getElem? (i := 109) (by decide +kernel), List.mem_of_getElem? (i := 907) (by decide +kernel), List.mem_of_getElem? (i := 908) (by decide +kernel)⟩
theorem lw_p14 : lw_okq (⟨"OneCode$Cases", "countHoldingOf", "(I)V"⟩, 6) := ⟨⟨by decide +kernel, by decide +kernel⟩, List.mem_of_getElem? (i := 109) (by decide +kernel), List.mem_of_getElem? (i := 912) (by decide +kernel), List.mem_of_getElem? (i := 913) (by decide +kernel)⟩
theorem lw_p15 : lw_okq (⟨"OneCode", "casesMoved", "(I)I"⟩, 14) := ⟨⟨by decide +kernel, by decide +kernel⟩, List.mem_of_getElem? (i := 24) (by decide +kernel), List.mem_of_getElem? (i := 952) (by decide +kernel), List.mem_of_getElem? (i := 953) (by decide +kernel)⟩
def lw_privs_1 : List (MethodName × Nat) := [(⟨"OneCode$Text", "readEnd", "()Z"⟩, 10), (⟨"OneCode$Text", "next", "()I"⟩, 10), (⟨"OneCode$Text", "readWord", "(Ljava/lang/String;)Z"⟩, 10), (⟨"OneCode$Text", "readOwed", "()Z"⟩, 10), (⟨"OneCode$Text", "readDigit", "(C)I"⟩, 10), (⟨"OneCode$Text", "readGoes", "()Z"⟩, 10), (⟨"OneCode$Text", "readCondition", "()Z"⟩, 10), (⟨"OneCode$Text", "readTest", "(Z)Z"⟩, 10), (⟨"OneCode$Text", "readLink", "()Z"⟩, 10), (⟨"OneCode$Text", "findFitting", "()V"⟩, 10), (⟨"OneCode$Text", "testsHold", "(I)Z"⟩, 10), (⟨"OneCode$Rule", "standingAsKnown", "(I)I"⟩, 11), (⟨"OneCode$Cases", "isLeft", "(II)Z"⟩, 6), (⟨"OneCode$Cases", "countHolding", "(I)V"⟩, 6), (⟨"OneCode$Cases", "countHoldingOf", "(I)V"⟩, 6), (⟨"OneCode", "casesMoved", "(I)I"⟩, 14)]
theorem lw_r1 : ∀ q ∈ lw_privs_1, lw_okq q := List.forall_mem_cons.mpr ⟨lw_p0, List.forall_mem_cons.mpr ⟨lw_p1, List.forall_mem_cons.mpr ⟨lw_p2, List.forall_mem_cons.mpr ⟨lw_p3, List.forall_mem_cons.mpr ⟨lw_p4, List.forall_mem_cons.mpr ⟨lw_p5, List.forall_mem_cons.mpr ⟨lw_p6, List.forall_mem_cons.mpr ⟨lw_p7, List.forall_mem_cons.mpr ⟨lw_p8, List.forall_mem_cons.mpr ⟨lw_p9, List.forall_mem_cons.mpr ⟨lw_p10, List.forall_mem_cons.mpr ⟨lw_p11, List.forall_mem_cons.mpr ⟨lw_p12, List.forall_mem_cons.mpr ⟨lw_p13, List.forall_mem_cons.mpr ⟨lw_p14, List.forall_mem_cons.mpr ⟨lw_p15, fun _ h => absurd h List.not_mem_nil⟩⟩⟩⟩⟩⟩⟩⟩⟩⟩⟩⟩⟩⟩⟩⟩
theorem lw_p16 : lw_okq (⟨"OneCode$Persons", "sortOf", "(I)I"⟩, 10) := ⟨⟨by decide +kernel, by decide +kernel⟩, List.mem_of_getElem? (i := 137) (by decide +kernel), List.mem_of_getElem? (i := 989) (by decide +kernel), List.mem_of_getElem? (i := 990) (by decide +kernel)⟩
theorem lw_p17 : lw_okq (⟨"OneCode$Persons", "isHeir", "(III)Z"⟩, 10) := ⟨⟨by decide +kernel, by decide +kernel⟩, List.mem_of_getElem? (i := 137) (by decide +kernel), List.mem_of_getElem? (i := 997) (by decide +kernel), List.mem_of_getElem? (i := 998) (by decide +kernel)⟩
theorem lw_p18 : lw_okq (⟨"OneCode$Persons", "partCoins", "(II)V"⟩, 10) := ⟨⟨by decide +kernel, by decide +kernel⟩, List.mem_of_getElem? (i := 137) (by decide +kernel), List.mem_of_getElem? (i := 1007) (by decide +kernel), List.mem_of_getElem? (i := 1008) (by decide +kernel)⟩
theorem lw_p19 : lw_okq (⟨"OneCode$Persons", "toChest", "(II)V"⟩, 10) := ⟨⟨by decide +kernel, by decide +kernel⟩, List.mem_of_getElem? (i := 137) (by decide +kernel), List.mem_of_getElem? (i := 1011) (by decide +kernel), List.mem_of_getElem? (i := 1012) (by decide +kernel)⟩
theorem lw_p20 : lw_okq (⟨"OneCode$Persons", "goByWay", "(III)V"⟩, 10) := ⟨⟨by decide +kernel, by decide +kernel⟩, List.mem_of_getElem? (i := 137) (by decide +kernel), List.mem_of_getElem? (i := 1015) (by decide +kernel), List.mem_of_getElem? (i := 1016) (by decide +kernel)⟩
theorem lw_p21 : lw_okq (⟨"OneCode$Persons", "eldestLiving", "(I)I"⟩, 10) := ⟨⟨by decide +kernel, by decide +kernel⟩, List.mem_of_getElem? (i := 137) (by decide +kernel), List.mem_of_getElem? (i := 1019) (by decide +kernel), List.mem_of_getElem? (i := 1020) (by decide +kernel)⟩
theorem lw_p22 : lw_okq (⟨"OneCode$Persons", "toOne", "(III)V"⟩, 10) := ⟨⟨by decide +kernel, by decide +kernel⟩, List.mem_of_getElem? (i := 137) (by decide +kernel), List.mem_of_getElem? (i := 1023) (by decide +kernel), List.mem_of_getElem? (i := 1024) (by decide +kernel)⟩
theorem lw_p23 : lw_okq (⟨"OneCode$Persons", "toChildren", "(III)V"⟩, 10) := ⟨⟨by decide +kernel, by decide +kernel⟩, List.mem_of_getElem? (i := 137) (by decide +kernel), List.mem_of_getElem? (i := 1029) (by decide +kernel), List.mem_of_getElem? (i := 1030) (by decide +kernel)⟩
theorem lw_p24 : lw_okq (⟨"OneCode$Writings", "prepare", "(I)V"⟩, 11) := ⟨⟨by decide +kernel, by decide +kernel⟩, List.mem_of_getElem? (i := 180) (by decide +kernel), List.mem_of_getElem? (i := 1092) (by decide +kernel), List.mem_of_getElem? (i := 1093) (by decide +kernel)⟩
theorem lw_p25 : lw_okq (⟨"OneCode$Writings", "askCustoms", "(I)V"⟩, 11) := ⟨⟨by decide +kernel, by decide +kernel⟩, List.mem_of_getElem? (i := 180) (by decide +kernel), List.mem_of_getElem? (i := 1101) (by decide +kernel), List.mem_of_getElem? (i := 1102) (by decide +kernel)⟩
theorem lw_p26 : lw_okq (⟨"OneCode$Writings", "topOfWriting", "(II)I"⟩, 11) := ⟨⟨by decide +kernel, by decide +kernel⟩, List.mem_of_getElem? (i := 180) (by decide +kernel), List.mem_of_getElem? (i := 1107) (by decide +kernel), List.mem_of_getElem? (i := 1108) (by decide +kernel)⟩
theorem lw_p27 : lw_okq (⟨"OneCode$Writings", "peopleWith", "(I)I"⟩, 11) := ⟨⟨by decide +kernel, by decide +kernel⟩, List.mem_of_getElem? (i := 180) (by decide +kernel), List.mem_of_getElem? (i := 1112) (by decide +kernel), List.mem_of_getElem? (i := 1113) (by decide +kernel)⟩
theorem lw_p28 : lw_okq (⟨"OneCode$Writings", "spreadTops", "(I)V"⟩, 11) := ⟨⟨by decide +kernel, by decide +kernel⟩, List.mem_of_getElem? (i := 180) (by decide +kernel), List.mem_of_getElem? (i := 1125) (by decide +kernel), List.mem_of_getElem? (i := 1126) (by decide +kernel)⟩
theorem lw_p29 : lw_okq (⟨"OneCode$Writings", "waysFitting", "(II)I"⟩, 11) := ⟨⟨by decide +kernel, by decide +kernel⟩, List.mem_of_getElem? (i := 180) (by decide +kernel), List.mem_of_getElem? (i := 1129) (by decide +kernel), List.mem_of_getElem? (i := 1130) (by decide +kernel)⟩
theorem lw_p30 : lw_okq (⟨"OneCode$Writings", "spreadOver", "(III)V"⟩, 11) := ⟨⟨by decide +kernel, by decide +kernel⟩, List.mem_of_getElem? (i := 180) (by decide +kernel), List.mem_of_getElem? (i := 1134) (by decide +kernel), List.mem_of_getElem? (i := 1135) (by decide +kernel)⟩
theorem lw_p31 : lw_okq (⟨"OneCode$Writings", "keepBy", "(I)V"⟩, 11) := ⟨⟨by decide +kernel, by decide +kernel⟩, List.mem_of_getElem? (i := 180) (by decide +kernel), List.mem_of_getElem? (i := 1139) (by decide +kernel), List.mem_of_getElem? (i := 1140) (by decide +kernel)⟩
def lw_privs_2 : List (MethodName × Nat) := [(⟨"OneCode$Persons", "sortOf", "(I)I"⟩, 10), (⟨"OneCode$Persons", "isHeir", "(III)Z"⟩, 10), (⟨"OneCode$Persons", "partCoins", "(II)V"⟩, 10), (⟨"OneCode$Persons", "toChest", "(II)V"⟩, 10), (⟨"OneCode$Persons", "goByWay", "(III)V"⟩, 10), (⟨"OneCode$Persons", "eldestLiving", "(I)I"⟩, 10), (⟨"OneCode$Persons", "toOne", "(III)V"⟩, 10), (⟨"OneCode$Persons", "toChildren", "(III)V"⟩, 10), (⟨"OneCode$Writings", "prepare", "(I)V"⟩, 11), (⟨"OneCode$Writings", "askCustoms", "(I)V"⟩, 11), (⟨"OneCode$Writings", "topOfWriting", "(II)I"⟩, 11), (⟨"OneCode$Writings", "peopleWith", "(I)I"⟩, 11), (⟨"OneCode$Writings", "spreadTops", "(I)V"⟩, 11), (⟨"OneCode$Writings", "waysFitting", "(II)I"⟩, 11), (⟨"OneCode$Writings", "spreadOver", "(III)V"⟩, 11), (⟨"OneCode$Writings", "keepBy", "(I)V"⟩, 11)]
theorem lw_r2 : ∀ q ∈ lw_privs_2, lw_okq q := List.forall_mem_cons.mpr ⟨lw_p16, List.forall_mem_cons.mpr ⟨lw_p17, List.forall_mem_cons.mpr ⟨lw_p18, List.forall_mem_cons.mpr ⟨lw_p19, List.forall_mem_cons.mpr ⟨lw_p20, List.forall_mem_cons.mpr ⟨lw_p21, List.forall_mem_cons.mpr ⟨lw_p22, List.forall_mem_cons.mpr ⟨lw_p23, List.forall_mem_cons.mpr ⟨lw_p24, List.forall_mem_cons.mpr ⟨lw_p25, List.forall_mem_cons.mpr ⟨lw_p26, List.forall_mem_cons.mpr ⟨lw_p27, List.forall_mem_cons.mpr ⟨lw_p28, List.forall_mem_cons.mpr ⟨lw_p29, List.forall_mem_cons.mpr ⟨lw_p30, List.forall_mem_cons.mpr ⟨lw_p31, fun _ h => absurd h List.not_mem_nil⟩⟩⟩⟩⟩⟩⟩⟩⟩⟩⟩⟩⟩⟩⟩⟩
theorem lw_p32 : lw_okq (⟨"OneCode$Table", "likingOf", "(II)I"⟩, 4) := ⟨⟨by decide +kernel, by decide +kernel⟩, List.mem_of_getElem? (i := 222) (by decide +kernel), List.mem_of_getElem? (i := 1191) (by decide +kernel), List.mem_of_getElem? (i := 1192) (by decide +kernel)⟩
theorem lw_p33 : lw_okq (⟨"OneCode$Table", "yieldsLess", "(II)Z"⟩, 4) := ⟨⟨by decide +kernel, by decide +kernel⟩, List.mem_of_getElem? (i := 222) (by decide +kernel), List.mem_of_getElem? (i := 1204) (by decide +kernel), List.mem_of_getElem? (i := 1205) (by decide +kernel)⟩
theorem lw_p34 : lw_okq (⟨"OneCode$Lessons", "mayFollow", "(II)Z"⟩, 4) := ⟨⟨by decide +kernel, by decide +kernel⟩, List.mem_of_getElem? (i := 245) (by decide +kernel), List.mem_of_getElem? (i := 1234) (by decide +kernel), List.mem_of_getElem? (i := 1235) (by decide +kernel)⟩
theorem lw_p35 : lw_okq (⟨"OneCode$Lessons", "waitsIfNext", "(II)I"⟩, 4) := ⟨⟨by decide +kernel, by decide +kernel⟩, List.mem_of_getElem? (i := 245) (by decide +kernel), List.mem_of_getElem? (i := 1238) (by decide +kernel), List.mem_of_getElem? (i := 1239) (by decide +kernel)⟩
theorem lw_p36 : lw_okq (⟨"OneCode$Lessons", "nextTaught", "(II)I"⟩, 4) := ⟨⟨by decide +kernel, by decide +kernel⟩, List.mem_of_getElem? (i := 245) (by decide +kernel), List.mem_of_getElem? (i := 1252) (by decide +kernel), List.mem_of_getElem? (i := 1253) (by decide +kernel)⟩
theorem lw_p37 : lw_okq (⟨"OneCode$Rules", "begin", "(I)V"⟩, 6) := ⟨⟨by decide +kernel, by decide +kernel⟩, List.mem_of_getElem? (i := 32) (by decide +kernel), List.mem_of_getElem? (i := 1271) (by decide +kernel), List.mem_of_getElem? (i := 1272) (by decide +kernel)⟩
theorem lw_p38 : lw_okq (⟨"OneCodeModel", "read", "(I)I"⟩, 69) := ⟨⟨by decide +kernel, by decide +kernel⟩, List.mem_of_getElem? (i := 1337) (by decide +kernel), List.mem_of_getElem? (i := 1566) (by decide +kernel), List.mem_of_getElem? (i := 1567) (by decide +kernel)⟩
theorem lw_p39 : lw_okq (⟨"OneCodeModel", "endRead", "()I"⟩, 69) := ⟨⟨by decide +kernel, by decide +kernel⟩, List.mem_of_getElem? (i := 1337) (by decide +kernel), List.mem_of_getElem? (i := 1570) (by decide +kernel), List.mem_of_getElem? (i := 1571) (by decide +kernel)⟩
theorem lw_p40 : lw_okq (⟨"OneCodeModel", "here", "()I"⟩, 69) := ⟨⟨by decide +kernel, by decide +kernel⟩, List.mem_of_getElem? (i := 1337) (by decide +kernel), List.mem_of_getElem? (i := 1574) (by decide +kernel), List.mem_of_getElem? (i := 1575) (by decide +kernel)⟩
theorem lw_p41 : lw_okq (⟨"OneCodeModel", "eats4", "(IIII)V"⟩, 69) := ⟨⟨by decide +kernel, by decide +kernel⟩, List.mem_of_getElem? (i := 1337) (by decide +kernel), List.mem_of_getElem? (i := 1578) (by decide +kernel), List.mem_of_getElem? (i := 1579) (by decide +kernel)⟩
theorem lw_p42 : lw_okq (⟨"OneCodeModel", "eats", "(I)V"⟩, 69) := ⟨⟨by decide +kernel, by decide +kernel⟩, List.mem_of_getElem? (i := 1337) (by decide +kernel), List.mem_of_getElem? (i := 1582) (by decide +kernel), List.mem_of_getElem? (i := 1583) (by decide +kernel)⟩
theorem lw_p43 : lw_okq (⟨"OneCodeModel", "digit", "(II)I"⟩, 69) := ⟨⟨by decide +kernel, by decide +kernel⟩, List.mem_of_getElem? (i := 1337) (by decide +kernel), List.mem_of_getElem? (i := 1586) (by decide +kernel), List.mem_of_getElem? (i := 1587) (by decide +kernel)⟩
theorem lw_p44 : lw_okq (⟨"OneCodeModel", "testRead", "(I)I"⟩, 69) := ⟨⟨by decide +kernel, by decide +kernel⟩, List.mem_of_getElem? (i := 1337) (by decide +kernel), List.mem_of_getElem? (i := 1590) (by decide +kernel), List.mem_of_getElem? (i := 1591) (by decide +kernel)⟩
theorem lw_p45 : lw_okq (⟨"OneCodeModel", "fieldRead", "()I"⟩, 69) := ⟨⟨by decide +kernel, by decide +kernel⟩, List.mem_of_getElem? (i := 1337) (by decide +kernel), List.mem_of_getElem? (i := 1594) (by decide +kernel), List.mem_of_getElem? (i := 1595) (by decide +kernel)⟩
theorem lw_p46 : lw_okq (⟨"OneCodeModel", "isRule", "(I)Z"⟩, 69) := ⟨⟨by decide +kernel, by decide +kernel⟩, List.mem_of_getElem? (i := 1337) (by decide +kernel), List.mem_of_getElem? (i := 1602) (by decide +kernel), List.mem_of_getElem? (i := 1603) (by decide +kernel)⟩
theorem lw_p47 : lw_okq (⟨"OneCodeModel", "fitsText", "(II)Z"⟩, 69) := ⟨⟨by decide +kernel, by decide +kernel⟩, List.mem_of_getElem? (i := 1337) (by decide +kernel), List.mem_of_getElem? (i := 1621) (by decide +kernel), List.mem_of_getElem? (i := 1622) (by decide +kernel)⟩
def lw_privs_3 : List (MethodName × Nat) := [(⟨"OneCode$Table", "likingOf", "(II)I"⟩, 4), (⟨"OneCode$Table", "yieldsLess", "(II)Z"⟩, 4), (⟨"OneCode$Lessons", "mayFollow", "(II)Z"⟩, 4), (⟨"OneCode$Lessons", "waitsIfNext", "(II)I"⟩, 4), (⟨"OneCode$Lessons", "nextTaught", "(II)I"⟩, 4), (⟨"OneCode$Rules", "begin", "(I)V"⟩, 6), (⟨"OneCodeModel", "read", "(I)I"⟩, 69), (⟨"OneCodeModel", "endRead", "()I"⟩, 69), (⟨"OneCodeModel", "here", "()I"⟩, 69), (⟨"OneCodeModel", "eats4", "(IIII)V"⟩, 69), (⟨"OneCodeModel", "eats", "(I)V"⟩, 69), (⟨"OneCodeModel", "digit", "(II)I"⟩, 69), (⟨"OneCodeModel", "testRead", "(I)I"⟩, 69), (⟨"OneCodeModel", "fieldRead", "()I"⟩, 69), (⟨"OneCodeModel", "isRule", "(I)Z"⟩, 69), (⟨"OneCodeModel", "fitsText", "(II)Z"⟩, 69)]
theorem lw_r3 : ∀ q ∈ lw_privs_3, lw_okq q := List.forall_mem_cons.mpr ⟨lw_p32, List.forall_mem_cons.mpr ⟨lw_p33, List.forall_mem_cons.mpr ⟨lw_p34, List.forall_mem_cons.mpr ⟨lw_p35, List.forall_mem_cons.mpr ⟨lw_p36, List.forall_mem_cons.mpr ⟨lw_p37, List.forall_mem_cons.mpr ⟨lw_p38, List.forall_mem_cons.mpr ⟨lw_p39, List.forall_mem_cons.mpr ⟨lw_p40, List.forall_mem_cons.mpr ⟨lw_p41, List.forall_mem_cons.mpr ⟨lw_p42, List.forall_mem_cons.mpr ⟨lw_p43, List.forall_mem_cons.mpr ⟨lw_p44, List.forall_mem_cons.mpr ⟨lw_p45, List.forall_mem_cons.mpr ⟨lw_p46, List.forall_mem_cons.mpr ⟨lw_p47, fun _ h => absurd h List.not_mem_nil⟩⟩⟩⟩⟩⟩⟩⟩⟩⟩⟩⟩⟩⟩⟩⟩
theorem lw_p48 : lw_okq (⟨"OneCodeModel", "answerOf", "(IIII)I"⟩, 69) := ⟨⟨by decide +kernel, by decide +kernel⟩, List.mem_of_getElem? (i := 1337) (by decide +kernel), List.mem_of_getElem? (i := 1644) (by decide +kernel), List.mem_of_getElem? (i := 1645) (by decide +kernel)⟩
theorem lw_p49 : lw_okq (⟨"OneCodeModel", "answerBy", "(IIIIII)I"⟩, 69) := ⟨⟨by decide +kernel, by decide +kernel⟩, List.mem_of_getElem? (i := 1337) (by decide +kernel), List.mem_of_getElem? (i := 1648) (by decide +kernel), List.mem_of_getElem? (i := 1649) (by decide +kernel)⟩
theorem lw_p50 : lw_okq (⟨"OneCodeModel", "isInForce", "(III)Z"⟩, 69) := ⟨⟨by decide +kernel, by decide +kernel⟩, List.mem_of_getElem? (i := 1337) (by decide +kernel), List.mem_of_getElem? (i := 1652) (by decide +kernel), List.mem_of_getElem? (i := 1653) (by decide +kernel)⟩
theorem lw_p51 : lw_okq (⟨"OneCodeModel", "isDistrict", "(I)Z"⟩, 69) := ⟨⟨by decide +kernel, by decide +kernel⟩, List.mem_of_getElem? (i := 1337) (by decide +kernel), List.mem_of_getElem? (i := 1668) (by decide +kernel), List.mem_of_getElem? (i := 1669) (by decide +kernel)⟩
theorem lw_p52 : lw_okq (⟨"OneCodeModel", "lawOf", "(IIIII)I"⟩, 69) := ⟨⟨by decide +kernel, by decide +kernel⟩, List.mem_of_getElem? (i := 1337) (by decide +kernel), List.mem_of_getElem? (i := 1676) (by decide +kernel), List.mem_of_getElem? (i := 1677) (by decide +kernel)⟩
theorem lw_p53 : lw_okq (⟨"OneCodeModel", "isCode", "(II)Z"⟩, 69) := ⟨⟨by decide +kernel, by decide +kernel⟩, List.mem_of_getElem? (i := 1337) (by decide +kernel), List.mem_of_getElem? (i := 1680) (by decide +kernel), List.mem_of_getElem? (i := 1681) (by decide +kernel)⟩
theorem lw_p54 : lw_okq (⟨"OneCodeModel", "endOf", "(III)I"⟩, 69) := ⟨⟨by decide +kernel, by decide +kernel⟩, List.mem_of_getElem? (i := 1337) (by decide +kernel), List.mem_of_getElem? (i := 1692) (by decide +kernel), List.mem_of_getElem? (i := 1693) (by decide +kernel)⟩
theorem lw_p55 : lw_okq (⟨"OneCodeModel", "toldOf", "(I)I"⟩, 69) := ⟨⟨by decide +kernel, by decide +kernel⟩, List.mem_of_getElem? (i := 1337) (by decide +kernel), List.mem_of_getElem? (i := 1716) (by decide +kernel), List.mem_of_getElem? (i := 1717) (by decide +kernel)⟩
theorem lw_p56 : lw_okq (⟨"OneCodeModel", "shows", "(II)Z"⟩, 69) := ⟨⟨by decide +kernel, by decide +kernel⟩, List.mem_of_getElem? (i := 1337) (by decide +kernel), List.mem_of_getElem? (i := 1723) (by decide +kernel), List.mem_of_getElem? (i := 1724) (by decide +kernel)⟩
theorem lw_p57 : lw_okq (⟨"OneCodeModel", "hears", "(III)I"⟩, 69) := ⟨⟨by decide +kernel, by decide +kernel⟩, List.mem_of_getElem? (i := 1337) (by decide +kernel), List.mem_of_getElem? (i := 1738) (by decide +kernel), List.mem_of_getElem? (i := 1739) (by decide +kernel)⟩
theorem lw_p58 : lw_okq (⟨"OneCodeModel", "findLeft", "(I)I"⟩, 69) := ⟨⟨by decide +kernel, by decide +kernel⟩, List.mem_of_getElem? (i := 1337) (by decide +kernel), List.mem_of_getElem? (i := 1750) (by decide +kernel), List.mem_of_getElem? (i := 1751) (by decide +kernel)⟩
theorem lw_p59 : lw_okq (⟨"OneCodeModel", "isLeft", "(II)Z"⟩, 69) := ⟨⟨by decide +kernel, by decide +kernel⟩, List.mem_of_getElem? (i := 1337) (by decide +kernel), List.mem_of_getElem? (i := 1754) (by decide +kernel), List.mem_of_getElem? (i := 1755) (by decide +kernel)⟩
theorem lw_p60 : lw_okq (⟨"OneCodeModel", "isUnder", "(II)Z"⟩, 69) := ⟨⟨by decide +kernel, by decide +kernel⟩, List.mem_of_getElem? (i := 1337) (by decide +kernel), List.mem_of_getElem? (i := 1777) (by decide +kernel), List.mem_of_getElem? (i := 1778) (by decide +kernel)⟩
theorem lw_p61 : lw_okq (⟨"OneCodeModel", "childrenOf", "(I)I"⟩, 69) := ⟨⟨by decide +kernel, by decide +kernel⟩, List.mem_of_getElem? (i := 1337) (by decide +kernel), List.mem_of_getElem? (i := 1789) (by decide +kernel), List.mem_of_getElem? (i := 1790) (by decide +kernel)⟩
theorem lw_p62 : lw_okq (⟨"OneCodeModel", "isChild", "(II)Z"⟩, 69) := ⟨⟨by decide +kernel, by decide +kernel⟩, List.mem_of_getElem? (i := 1337) (by decide +kernel), List.mem_of_getElem? (i := 1793) (by decide +kernel), List.mem_of_getElem? (i := 1794) (by decide +kernel)⟩
theorem lw_p63 : lw_okq (⟨"OneCodeModel", "partsGoods", "(II)V"⟩, 69) := ⟨⟨by decide +kernel, by decide +kernel⟩, List.mem_of_getElem? (i := 1337) (by decide +kernel), List.mem_of_getElem? (i := 1797) (by decide +kernel), List.mem_of_getElem? (i := 1798) (by decide +kernel)⟩
def lw_privs_4 : List (MethodName × Nat) := [(⟨"OneCodeModel", "answerOf", "(IIII)I"⟩, 69), (⟨"OneCodeModel", "answerBy", "(IIIIII)I"⟩, 69), (⟨"OneCodeModel", "isInForce", "(III)Z"⟩, 69), (⟨"OneCodeModel", "isDistrict", "(I)Z"⟩, 69), (⟨"OneCodeModel", "lawOf", "(IIIII)I"⟩, 69), (⟨"OneCodeModel", "isCode", "(II)Z"⟩, 69), (⟨"OneCodeModel", "endOf", "(III)I"⟩, 69), (⟨"OneCodeModel", "toldOf", "(I)I"⟩, 69), (⟨"OneCodeModel", "shows", "(II)Z"⟩, 69), (⟨"OneCodeModel", "hears", "(III)I"⟩, 69), (⟨"OneCodeModel", "findLeft", "(I)I"⟩, 69), (⟨"OneCodeModel", "isLeft", "(II)Z"⟩, 69), (⟨"OneCodeModel", "isUnder", "(II)Z"⟩, 69), (⟨"OneCodeModel", "childrenOf", "(I)I"⟩, 69), (⟨"OneCodeModel", "isChild", "(II)Z"⟩, 69), (⟨"OneCodeModel", "partsGoods", "(II)V"⟩, 69)]
theorem lw_r4 : ∀ q ∈ lw_privs_4, lw_okq q := List.forall_mem_cons.mpr ⟨lw_p48, List.forall_mem_cons.mpr ⟨lw_p49, List.forall_mem_cons.mpr ⟨lw_p50, List.forall_mem_cons.mpr ⟨lw_p51, List.forall_mem_cons.mpr ⟨lw_p52, List.forall_mem_cons.mpr ⟨lw_p53, List.forall_mem_cons.mpr ⟨lw_p54, List.forall_mem_cons.mpr ⟨lw_p55, List.forall_mem_cons.mpr ⟨lw_p56, List.forall_mem_cons.mpr ⟨lw_p57, List.forall_mem_cons.mpr ⟨lw_p58, List.forall_mem_cons.mpr ⟨lw_p59, List.forall_mem_cons.mpr ⟨lw_p60, List.forall_mem_cons.mpr ⟨lw_p61, List.forall_mem_cons.mpr ⟨lw_p62, List.forall_mem_cons.mpr ⟨lw_p63, fun _ h => absurd h List.not_mem_nil⟩⟩⟩⟩⟩⟩⟩⟩⟩⟩⟩⟩⟩⟩⟩⟩
theorem lw_p64 : lw_okq (⟨"OneCodeModel", "goesBy", "(III)V"⟩, 69) := ⟨⟨by decide +kernel, by decide +kernel⟩, List.mem_of_getElem? (i := 1337) (by decide +kernel), List.mem_of_getElem? (i := 1801) (by decide +kernel), List.mem_of_getElem? (i := 1802) (by decide +kernel)⟩
theorem lw_p65 : lw_okq (⟨"OneCodeModel", "eldestOf", "(I)I"⟩, 69) := ⟨⟨by decide +kernel, by decide +kernel⟩, List.mem_of_getElem? (i := 1337) (by decide +kernel), List.mem_of_getElem? (i := 1805) (by decide +kernel), List.mem_of_getElem? (i := 1806) (by decide +kernel)⟩
theorem lw_p66 : lw_okq (⟨"OneCodeModel", "evenly", "(III)V"⟩, 69) := ⟨⟨by decide +kernel, by decide +kernel⟩, List.mem_of_getElem? (i := 1337) (by decide +kernel), List.mem_of_getElem? (i := 1809) (by decide +kernel), List.mem_of_getElem? (i := 1810) (by decide +kernel)⟩
theorem lw_p67 : lw_okq (⟨"OneCodeModel", "findAnswers", "()V"⟩, 69) := ⟨⟨by decide +kernel, by decide +kernel⟩, List.mem_of_getElem? (i := 1337) (by decide +kernel), List.mem_of_getElem? (i := 1833) (by decide +kernel), List.mem_of_getElem? (i := 1834) (by decide +kernel)⟩
theorem lw_p68 : lw_okq (⟨"OneCodeModel", "keptBy", "()I"⟩, 69) := ⟨⟨by decide +kernel, by decide +kernel⟩, List.mem_of_getElem? (i := 1337) (by decide +kernel), List.mem_of_getElem? (i := 1837) (by decide +kernel), List.mem_of_getElem? (i := 1838) (by decide +kernel)⟩
theorem lw_p69 : lw_okq (⟨"OneCodeModel", "yesTo", "(I)I"⟩, 69) := ⟨⟨by decide +kernel, by decide +kernel⟩, List.mem_of_getElem? (i := 1337) (by decide +kernel), List.mem_of_getElem? (i := 1861) (by decide +kernel), List.mem_of_getElem? (i := 1862) (by decide +kernel)⟩
theorem lw_p70 : lw_okq (⟨"OneCodeModel", "goesRound", "(II)Z"⟩, 69) := ⟨⟨by decide +kernel, by decide +kernel⟩, List.mem_of_getElem? (i := 1337) (by decide +kernel), List.mem_of_getElem? (i := 1873) (by decide +kernel), List.mem_of_getElem? (i := 1874) (by decide +kernel)⟩
theorem lw_p71 : lw_okq (⟨"OneCodeModel", "findRow", "()V"⟩, 69) := ⟨⟨by decide +kernel, by decide +kernel⟩, List.mem_of_getElem? (i := 1337) (by decide +kernel), List.mem_of_getElem? (i := 1881) (by decide +kernel), List.mem_of_getElem? (i := 1882) (by decide +kernel)⟩
theorem lw_p72 : lw_okq (⟨"OneCodeModel", "mayNext", "(II)Z"⟩, 69) := ⟨⟨by decide +kernel, by decide +kernel⟩, List.mem_of_getElem? (i := 1337) (by decide +kernel), List.mem_of_getElem? (i := 1886) (by decide +kernel), List.mem_of_getElem? (i := 1887) (by decide +kernel)⟩
theorem lw_p73 : lw_okq (⟨"OneCodeModel", "timeOf", "(I)I"⟩, 69) := ⟨⟨by decide +kernel, by decide +kernel⟩, List.mem_of_getElem? (i := 1337) (by decide +kernel), List.mem_of_getElem? (i := 1890) (by decide +kernel), List.mem_of_getElem? (i := 1891) (by decide +kernel)⟩
theorem lw_p74 : lw_okq (⟨"OneCodeModel", "actHolds", "(I)I"⟩, 69) := ⟨⟨by decide +kernel, by decide +kernel⟩, List.mem_of_getElem? (i := 1337) (by decide +kernel), List.mem_of_getElem? (i := 1902) (by decide +kernel), List.mem_of_getElem? (i := 1903) (by decide +kernel)⟩
theorem lw_p75 : lw_okq (⟨"OneCodeModel", "runs", "(I)V"⟩, 69) := ⟨⟨by decide +kernel, by decide +kernel⟩, List.mem_of_getElem? (i := 1337) (by decide +kernel), List.mem_of_getElem? (i := 1906) (by decide +kernel), List.mem_of_getElem? (i := 1907) (by decide +kernel)⟩
theorem lw_p76 : lw_okq (⟨"OneCodeModel", "holds10", "(I)I"⟩, 69) := ⟨⟨by decide +kernel, by decide +kernel⟩, List.mem_of_getElem? (i := 1337) (by decide +kernel), List.mem_of_getElem? (i := 1910) (by decide +kernel), List.mem_of_getElem? (i := 1911) (by decide +kernel)⟩
theorem lw_p77 : lw_okq (⟨"OneCodeModel", "actHangs", "(I)I"⟩, 69) := ⟨⟨by decide +kernel, by decide +kernel⟩, List.mem_of_getElem? (i := 1337) (by decide +kernel), List.mem_of_getElem? (i := 1914) (by decide +kernel), List.mem_of_getElem? (i := 1915) (by decide +kernel)⟩
theorem lw_p78 : lw_okq (⟨"OneCodeModel", "hangs20", "(I)I"⟩, 69) := ⟨⟨by decide +kernel, by decide +kernel⟩, List.mem_of_getElem? (i := 1337) (by decide +kernel), List.mem_of_getElem? (i := 1918) (by decide +kernel), List.mem_of_getElem? (i := 1919) (by decide +kernel)⟩
theorem lw_p79 : lw_okq (⟨"OneCodeModel", "hangs11", "(I)I"⟩, 69) := ⟨⟨by decide +kernel, by decide +kernel⟩, List.mem_of_getElem? (i := 1337) (by decide +kernel), List.mem_of_getElem? (i := 1922) (by decide +kernel), List.mem_of_getElem? (i := 1923) (by decide +kernel)⟩
def lw_privs_5 : List (MethodName × Nat) := [(⟨"OneCodeModel", "goesBy", "(III)V"⟩, 69), (⟨"OneCodeModel", "eldestOf", "(I)I"⟩, 69), (⟨"OneCodeModel", "evenly", "(III)V"⟩, 69), (⟨"OneCodeModel", "findAnswers", "()V"⟩, 69), (⟨"OneCodeModel", "keptBy", "()I"⟩, 69), (⟨"OneCodeModel", "yesTo", "(I)I"⟩, 69), (⟨"OneCodeModel", "goesRound", "(II)Z"⟩, 69), (⟨"OneCodeModel", "findRow", "()V"⟩, 69), (⟨"OneCodeModel", "mayNext", "(II)Z"⟩, 69), (⟨"OneCodeModel", "timeOf", "(I)I"⟩, 69), (⟨"OneCodeModel", "actHolds", "(I)I"⟩, 69), (⟨"OneCodeModel", "runs", "(I)V"⟩, 69), (⟨"OneCodeModel", "holds10", "(I)I"⟩, 69), (⟨"OneCodeModel", "actHangs", "(I)I"⟩, 69), (⟨"OneCodeModel", "hangs20", "(I)I"⟩, 69), (⟨"OneCodeModel", "hangs11", "(I)I"⟩, 69)]
theorem lw_r5 : ∀ q ∈ lw_privs_5, lw_okq q := List.forall_mem_cons.mpr ⟨lw_p64, List.forall_mem_cons.mpr ⟨lw_p65, List.forall_mem_cons.mpr ⟨lw_p66, List.forall_mem_cons.mpr ⟨lw_p67, List.forall_mem_cons.mpr ⟨lw_p68, List.forall_mem_cons.mpr ⟨lw_p69, List.forall_mem_cons.mpr ⟨lw_p70, List.forall_mem_cons.mpr ⟨lw_p71, List.forall_mem_cons.mpr ⟨lw_p72, List.forall_mem_cons.mpr ⟨lw_p73, List.forall_mem_cons.mpr ⟨lw_p74, List.forall_mem_cons.mpr ⟨lw_p75, List.forall_mem_cons.mpr ⟨lw_p76, List.forall_mem_cons.mpr ⟨lw_p77, List.forall_mem_cons.mpr ⟨lw_p78, List.forall_mem_cons.mpr ⟨lw_p79, fun _ h => absurd h List.not_mem_nil⟩⟩⟩⟩⟩⟩⟩⟩⟩⟩⟩⟩⟩⟩⟩⟩
theorem lw_p80 : lw_okq (⟨"OneCodeModel", "actSaves", "(I)I"⟩, 69) := ⟨⟨by decide +kernel, by decide +kernel⟩, List.mem_of_getElem? (i := 1337) (by decide +kernel), List.mem_of_getElem? (i := 1926) (by decide +kernel), List.mem_of_getElem? (i := 1927) (by decide +kernel)⟩
theorem lw_p81 : lw_okq (⟨"OneCodeModel", "saves12", "(I)I"⟩, 69) := ⟨⟨by decide +kernel, by decide +kernel⟩, List.mem_of_getElem? (i := 1337) (by decide +kernel), List.mem_of_getElem? (i := 1930) (by decide +kernel), List.mem_of_getElem? (i := 1931) (by decide +kernel)⟩
def lw_privs_6 : List (MethodName × Nat) := [(⟨"OneCodeModel", "actSaves", "(I)I"⟩, 69), (⟨"OneCodeModel", "saves12", "(I)I"⟩, 69)]
theorem lw_r6 : ∀ q ∈ lw_privs_6, lw_okq q := List.forall_mem_cons.mpr ⟨lw_p80, List.forall_mem_cons.mpr ⟨lw_p81, fun _ h => absurd h List.not_mem_nil⟩⟩
def lw_privs : List (MethodName × Nat) := lw_privs_1 ++ (lw_privs_2 ++ (lw_privs_3 ++ (lw_privs_4 ++ (lw_privs_5 ++ (lw_privs_6)))))
def lw_tbl : List Cond := k2_sels lw_privs ++ tables_1
theorem lw_privs_ok : ∀ q ∈ lw_privs, lw_okq q := by
  show ∀ q ∈ lw_privs_1 ++ (lw_privs_2 ++ (lw_privs_3 ++ (lw_privs_4 ++ (lw_privs_5 ++ (lw_privs_6))))), lw_okq q
  exact List.forall_mem_append.mpr ⟨lw_r1, List.forall_mem_append.mpr ⟨lw_r2, List.forall_mem_append.mpr ⟨lw_r3, List.forall_mem_append.mpr ⟨lw_r4, List.forall_mem_append.mpr ⟨lw_r5, lw_r6⟩⟩⟩⟩⟩
-- ===== end of PART A; then your names; then what follows =====
/-- arrays of arrays: what the tables say of them (named by the printed rows below, defined nowhere in the kit) -/
def va_AOA (ty : FieldType) (U : State) : Prop := (Cond.arrayOver (.array ty)).before #[] U = true
theorem va_AOA.use {ty : FieldType} {A : Array Value} {U : State} (h : va_AOA ty U) : (Cond.arrayOver (.array ty)).before A U = true := h
/-! ===== BEGIN words of one list among another's, by their places ===== -/
theorem goodIn_r {big : List Cond} (ws : List Cond) (ps : List Nat) (hp : ws = ps.filterMap (fun i => big[i]?)) (h : ws.all goodWord = true) : GoodIn big ws := by
  intro w hw
  have h1 := List.all_eq_true.mp h w hw
  rw [hp] at hw
  obtain ⟨i, -, hi⟩ := List.mem_filterMap.mp hw
  have hm : w ∈ big := by first | exact List.mem_of_getElem? hi | exact List.getElem?_mem hi
  exact ⟨hm, good_of_word h1⟩
theorem goodIn_app {big a b : List Cond} (ha : GoodIn big a) (hb : GoodIn big b) : GoodIn big (a ++ b) := fun w h => (List.mem_append.mp h).elim (ha w) (hb w)
theorem goodIn_ca {big a b : List Cond} {c : Cond} (ha : GoodIn big (c :: a)) (hb : GoodIn big b) : GoodIn big (c :: (a ++ b)) := fun w h => (List.mem_cons.mp h).elim (fun e => ha w (List.mem_cons.mpr (Or.inl e))) (fun h => (List.mem_append.mp h).elim (fun h => ha w (List.mem_cons.mpr (Or.inr h))) (hb w))
theorem goodIn_sub {big ws : List Cond} (hm : ∀ w ∈ ws, w ∈ big) (h : ws.all goodWord = true) : GoodIn big ws := fun w hw => ⟨hm w hw, good_of_word (List.all_eq_true.mp h w hw)⟩
/-! ===== END ===== -/

/-! ===== BEGIN new T[n][m]: the outer array a place, the inner ones among the pooled ===== -/
/-- f, but v at every address of l -/
def vr_up {α : Type} (f : Nat → α) (l : List Nat) (v : α) : Nat → α := fun a => if a ∈ l then v else f a
theorem vr_up_in {α : Type} {f : Nat → α} {l : List Nat} {v : α} {a : Nat} (h : a ∈ l) : vr_up f l v a = v := if_pos h
theorem vr_up_ne {α : Type} {f : Nat → α} {l : List Nat} {v : α} {a : Nat} (h : a ∉ l) : vr_up f l v a = f a := if_neg h
theorem vr_rows {L l : List Nat} {f : Nat → va_E} {e : va_E} (h : ∀ a, a ∈ l → a ∉ L) : va_pl L f ++ l.map (fun a => (a, e)) = va_pl (L ++ l) (vr_up f l e) := by
  unfold va_pl
  rw [List.map_append]
  congr 1
  · apply List.map_congr_left
    intro a ha
    rw [vr_up_ne (fun q => h a q ha)]
  · apply List.map_congr_left
    intro a ha
    rw [vr_up_in ha]
theorem vr_lay {X rows : va_W} {x : Nat × va_E} {pl : va_W} {D : va_G} {cl : List vw_C} {H : Heap} (hP : va_P D cl (((X ++ pl) ++ [x]) ++ rows) H) : va_P D cl ((X ++ [x]) ++ (pl ++ rows)) H := by
  rw [List.append_assoc (X ++ pl)] at hP
  have h := va_P.swap hP
  rw [← List.append_assoc X] at h
  have h2 := va_P.swap h
  rw [List.append_assoc (X ++ [x])] at h2
  exact h2
theorem vr_layD {X rows : va_W} {x : Nat × va_E} {pl : va_W} {A : Nat → Prop} (hD : va_D A (((X ++ pl) ++ [x]) ++ rows)) : va_D A ((X ++ [x]) ++ (pl ++ rows)) := by
  rw [List.append_assoc (X ++ pl)] at hD
  have h := va_D.swap hD
  rw [← List.append_assoc X] at h
  have h2 := va_D.swap h
  rw [List.append_assoc (X ++ [x])] at h2
  exact h2
theorem vr_outer (c : ClassId) (N h0 : Nat) : ∀ i : Nat, Jvm.Free.Multi.outerC c N h0 i = arrV c N (fun j => va_rf (if j < i then some (h0 + 1 + j) else none))
  | 0 => by
    show ({ cls := c, slots := Array.replicate N .null, vm := .none } : Cell) = _
    rw [arrV_new]
    refine congrArg (arrV c N) (funext fun j => ?_)
    simp [va_rf]
  | i + 1 => by
    show (Jvm.Free.Multi.outerC c N h0 i).setSlot i (.ref (h0 + 1 + i)) = _
    rw [vr_outer c N h0 i, arrV_store]
    refine congrArg (arrV c N) (funext fun j => ?_)
    by_cases e : j = i
    · subst e
      simp [updV, va_rf]
    · by_cases h : j < i
      · simp [updV, e, h, Nat.lt_succ_of_lt h]
      · simp [updV, e, h, show ¬ j < i + 1 by omega]
section VGM
variable {p : Program} {l : Launch} {e : Env} {R : Room} {s : State} {m : MethodId} {args : Array Value} {below : List Frame} {meth : Method} {c : Code} {H : Heap} {locs : List Loc} {cells slots : Nat} {Q : State → Prop}
variable {cc : ByteArray} {pc : Nat} {ls : Array Slot} {rest : List Value} {D : va_G} {cl : List vw_C} {A : Nat → Prop} {a : Nat} {tys : List (ClassId × FieldType)} {ws : va_W} {H0 : Heap}
theorem va_mna {X : va_W} {L : List Nat} {f : Nat → va_E} {cc : ByteArray} (hexec : p.tables.exec = Jvm.exec) (hb : c.code = cc) {own : String} {index : Nat} {ty : FieldType} {cy : ClassId} (hown : s.vm.findClass own = some m.cls) (hclink : (Cond.classLink own index ("[" ++ (FieldType.array ty).toString)).before args s = true) (hover : va_AOA ty s) (harr : (Cond.arrayClass ty).before args s = true) (hcy : s.vm.findClass (FieldType.array ty).toString = some cy)
    (hK : va_K D cl tys s) (hP : va_P D cl (X ++ va_pl L f) H) (hD : va_D A (X ++ va_pl L f)) (hS : va_S A H0 H locs) (hA : ∀ q, H0.size ≤ q → A q) {n k : Int32} {N' K' : Nat} {z : vp_A} (hn : ¬ n < 0) (hk : ¬ k < 0) (hN : n.toNatClampNeg = N') (hM : k.toNatClampNeg = K')
    (hb1 : N' * 4 ≤ 536870912) (hb2 : K' * componentBytes ty ≤ 536870912) (hb3 : K' ≤ 536870912) (hdf : fits ty (defaultValue ty) = true) (hdd : (defaultValue ty).isDefault = true) (hcells : cells + (1 + N') ≤ R.cells) (hslots : slots + (N' + N' * K') ≤ R.slots) (hz : ∀ c : ClassId, Jvm.Free.Multi.innerC c K' (defaultValue ty) = vp_cell c z) (hdg : decode cc pc = .ok (.multianewarray index 2, 4))
    (kk : ∀ (q : Nat) (r : Nat → Nat) (cA : ClassId) (H1 : Heap), (∀ i j : Nat, i < N' → j < N' → r i = r j → i = j) → (∀ i : Nat, i < N' → r i ∉ L) → va_K D cl (tys ++ [(cA, .array ty)]) s →
      va_P D cl ((X ++ [(q, .inl (cA, N', .inr (.inr (.inr (.inr (fun i => if i < N' then some (r i) else none))))))]) ++ va_pl (L ++ (List.range N').map r) (vr_up f ((List.range N').map r) (.inl (cy, z)))) H1 → va_D A ((X ++ [(q, .inl (cA, N', .inr (.inr (.inr (.inr (fun i => if i < N' then some (r i) else none))))))]) ++ va_pl (L ++ (List.range N').map r) (vr_up f ((List.range N').map r) (.inl (cy, z)))) → va_S A H0 H1 locs →
      W p l e R s m args below meth c H1 locs (cells + 1 + N') (slots + N' + N' * K') Q (F0 m (pc + 4) ls (.ref q :: rest))) : W p l e R s m args below meth c H locs cells slots Q (F0 m pc ls (.int k :: .int n :: rest)) := by
  subst hN
  subst hM
  intro T hT Xs
  obtain ⟨vm₁, cA, comp, -, fA, fC, hO, -, X', step⟩ := Xs.multianewarray2F hexec hown hclink (va_AOA.use hover) harr (g := F0 m pc ls (.int k :: .int n :: rest)) rfl (by rw [hb]; exact hdg) rfl hn hk hb1 hb2 hb3 hdf hdd hcells hslots
  have ec : some cy = some comp := hcy.symm.trans fC
  cases ec
  generalize hF : Jvm.Free.Multi.fill (T.setVm vm₁) cA cy n.toNatClampNeg k.toNatClampNeg (defaultValue ty) n.toNatClampNeg = F at X' step
  have hTh : (T.setVm vm₁).heap = H := hT
  obtain ⟨f1, f2, -, -⟩ := Jvm.Free.Multi.fill_facts (T.setVm vm₁) cA cy n.toNatClampNeg k.toNatClampNeg (defaultValue ty) n.toNatClampNeg
  rw [hF, hTh] at f1 f2
  have hold : ∀ x : Nat, x < H.size → F.heap[x]? = H[x]? := fun x hx => by
    have := Jvm.Free.Multi.fill_old (T.setVm vm₁) cA cy n.toNatClampNeg k.toNatClampNeg (defaultValue ty) (a := x) (by rw [hTh]; exact hx) n.toNatClampNeg
    rw [hF, hTh] at this
    exact this
  have hrow : ∀ j : Nat, j < n.toNatClampNeg → F.heap[H.size + 1 + j]? = some (vp_cell cy z) := fun j hj => by
    have := Jvm.Free.Multi.fill_inner (T.setVm vm₁) cA cy n.toNatClampNeg k.toNatClampNeg (defaultValue ty) n.toNatClampNeg j hj
    rw [hF, hTh, hz] at this
    exact this
  have hout : Jvm.Free.Multi.outerC cA n.toNatClampNeg H.size n.toNatClampNeg = vp_cell cA (n.toNatClampNeg, .inr (.inr (.inr (.inr (fun i => if i < n.toNatClampNeg then some (H.size + 1 + i) else none))))) := by
    rw [vp_cell_q]
    exact vr_outer cA n.toNatClampNeg H.size n.toNatClampNeg
  rw [hout] at f2
  have hlt : ∀ a, a ∈ L → a < H.size := fun a ha => by
    obtain ⟨k9, hk9⟩ := va_pl_get (X := X) (f := f) ha
    exact (hP k9 _ hk9).lt
  have hnl : ∀ i : Nat, i < n.toNatClampNeg → H.size + 1 + i ∉ L := fun i _ h => by
    have := hlt _ h
    omega
  have hnm : ∀ a, a ∈ (List.range n.toNatClampNeg).map (fun i => H.size + 1 + i) → a ∉ L := fun a ha h => by
    obtain ⟨i, -, rfl⟩ := List.mem_map.mp ha
    have := hlt _ h
    omega
  have hP0 : va_P D cl (X ++ va_pl L f) F.heap := hP.kept (fun k9 x hx => hold x.1 ((hP k9 x hx).lt))
  have hP1 : va_P D cl ((X ++ va_pl L f) ++ [(H.size, .inl (cA, n.toNatClampNeg, .inr (.inr (.inr (.inr (fun i => if i < n.toNatClampNeg then some (H.size + 1 + i) else none))))))]) F.heap := hP0.app (fun k9 x hx => by
    have h0 : k9 < 1 := (List.getElem?_eq_some_iff.mp hx).1
    rw [show k9 = 0 by omega] at hx
    cases hx
    exact f2)
  have hP2 : va_P D cl (((X ++ va_pl L f) ++ [(H.size, .inl (cA, n.toNatClampNeg, .inr (.inr (.inr (.inr (fun i => if i < n.toNatClampNeg then some (H.size + 1 + i) else none))))))]) ++ ((List.range n.toNatClampNeg).map (fun i => H.size + 1 + i)).map (fun a => (a, .inl (cy, z)))) F.heap := hP1.app (fun k9 x hx => by
    obtain ⟨a, ha, rfl⟩ := List.mem_map.mp (List.mem_of_getElem? hx)
    obtain ⟨i, hi, rfl⟩ := List.mem_map.mp ha
    exact hrow i (List.mem_range.mp hi))
  have hD2 : va_D A (((X ++ va_pl L f) ++ [(H.size, .inl (cA, n.toNatClampNeg, .inr (.inr (.inr (.inr (fun i => if i < n.toNatClampNeg then some (H.size + 1 + i) else none))))))]) ++ ((List.range n.toNatClampNeg).map (fun i => H.size + 1 + i)).map (fun a => (a, .inl (cy, z)))) := by
    have hD1 := hD.push (e := .inl (cA, n.toNatClampNeg, .inr (.inr (.inr (.inr (fun i => if i < n.toNatClampNeg then some (H.size + 1 + i) else none)))))) hP rfl (hA _ hS.1)
    generalize hW1 : (X ++ va_pl L f) ++ [(H.size, .inl (cA, n.toNatClampNeg, .inr (.inr (.inr (.inr (fun i => if i < n.toNatClampNeg then some (H.size + 1 + i) else none))))))] = W1 at hD1 hP1 ⊢
    have hle : ∀ (k9 : Nat) (x : Nat × va_E), W1[k9]? = some x → x.1 ≤ H.size := fun k9 x hx => by
      rw [← hW1] at hx
      by_cases hl : k9 < (X ++ va_pl L f).length
      · rw [List.getElem?_append_left hl] at hx
        exact Nat.le_of_lt ((hP k9 x hx).lt)
      · rw [List.getElem?_append_right (by omega)] at hx
        have h0 : k9 - (X ++ va_pl L f).length < 1 := (List.getElem?_eq_some_iff.mp hx).1
        rw [show k9 - (X ++ va_pl L f).length = 0 by omega] at hx
        cases hx
        exact Nat.le_refl _
    have hr : ∀ (k9 : Nat) (x : Nat × va_E), (((List.range n.toNatClampNeg).map (fun i => H.size + 1 + i)).map (fun a => ((a, .inl (cy, z)) : Nat × va_E)))[k9]? = some x → x.1 = H.size + 1 + k9 := fun k9 x hx => by
      rw [List.getElem?_map, List.getElem?_map] at hx
      by_cases h9 : k9 < n.toNatClampNeg
      · rw [List.getElem?_range h9] at hx
        cases hx
        rfl
      · have hn0 : (List.range n.toNatClampNeg)[k9]? = none := List.getElem?_eq_none (by rw [List.length_range]; omega)
        rw [hn0] at hx
        cases hx
    refine ⟨fun i j x y hi hj hxy => ?_, fun k9 x hx => ?_⟩
    · by_cases h1 : i < W1.length <;> by_cases h2 : j < W1.length
      · rw [List.getElem?_append_left h1] at hi
        rw [List.getElem?_append_left h2] at hj
        exact hD1.1 i j x y hi hj hxy
      · rw [List.getElem?_append_left h1] at hi
        rw [List.getElem?_append_right (by omega)] at hj
        have := hle _ _ hi
        have := hr _ _ hj
        omega
      · rw [List.getElem?_append_right (by omega)] at hi
        rw [List.getElem?_append_left h2] at hj
        have := hle _ _ hj
        have := hr _ _ hi
        omega
      · rw [List.getElem?_append_right (by omega)] at hi hj
        have := hr _ _ hi
        have := hr _ _ hj
        omega
    · by_cases h1 : k9 < W1.length
      · rw [List.getElem?_append_left h1] at hx
        exact hD1.2 k9 x hx
      · rw [List.getElem?_append_right (by omega)] at hx
        have := hr _ _ hx
        exact hA _ (by have := hS.1; omega)
  have hAr : ArrOfT s cA (.array ty) := fun N9 z9 => by
    obtain ⟨-, k9, hk9, cm9, hkk9⟩ := (hO 0 0 0).1
    exact ⟨(fun q hq => by cases hq), k9, hk9, cm9, hkk9⟩
  have hK2 : va_K D cl (tys ++ [(cA, .array ty)]) s := ⟨hK.1, fun k9 x hx => by
    by_cases hl : k9 < tys.length
    · rw [List.getElem?_append_left hl] at hx
      exact hK.2 k9 x hx
    · rw [List.getElem?_append_right (by omega)] at hx
      have h0 : k9 - tys.length < 1 := (List.getElem?_eq_some_iff.mp hx).1
      rw [show k9 - tys.length = 0 by omega] at hx
      cases hx
      exact ⟨hAr, fA⟩⟩
  obtain ⟨t, a1, b1⟩ := kk H.size (fun i => H.size + 1 + i) cA F.heap (fun i j _ _ h => by have h9 : H.size + 1 + i = H.size + 1 + j := h; omega) hnl hK2 (by rw [← vr_rows hnm]; exact vr_lay hP2) (by rw [← vr_rows hnm]; exact vr_layD hD2) ⟨by rw [f1]; have := hS.1; omega, fun x h1 h2 => (hold x (Nat.lt_of_lt_of_le h1 hS.1)).trans (hS.2.1 x h1 h2), hS.2.2⟩ F rfl X'
  refine ⟨t, step t ?_, b1⟩
  have e : T.heap.size = H.size := by rw [hT]
  rw [e]
  exact a1
end VGM
/-! ===== END ===== -/

/-! ===== BEGIN printed: names, fields, word lists, decode rows ===== -/
def RX0 : String := "OneCode$Cases"
def TX0 : u_T := fun k => match k with
  | 0 => ("OneCode$Cases", "districts", "[I", true)
  | 1 => ("OneCode$Cases", "sorts", "[I", true)
  | 2 => ("OneCode$Cases", "ends", "[I", true)
  | 3 => ("OneCode$Cases", "holding", "[I", true)
  | 4 => ("OneCode$Cases", "formsCounted", "I", false)
  | _ => ("OneCode$Cases", "size", "I", false)
def tyX0 : Nat → FieldType := fun k => match k with
  | 0 => .array .int
  | 1 => .array .int
  | 2 => .array .int
  | 3 => .array .int
  | 4 => .int
  | _ => .int
abbrev wsX00 : List Cond := u_ws RX0 TX0 6
theorem nmX0 : ∀ a, a < 6 → ∀ b, b < 6 → a ≠ b → (TX0 a).2.1 ≠ (TX0 b).2.1 := by decide +kernel
theorem tyX0_ok : ∀ k, k < 6 → parseFieldDescriptor (TX0 k).2.2.1 = some (tyX0 k) := by decide +kernel
abbrev cX0_init : ByteArray := prog_2_method_1_code
def yX0_init : MethodName := ⟨RX0, "<init>", "()V"⟩
abbrev cX0_isFull : ByteArray := prog_2_method_2_code
def yX0_isFull : MethodName := ⟨RX0, "isFull", "()Z"⟩
abbrev cX0_add : ByteArray := prog_2_method_3_code
def yX0_add : MethodName := ⟨RX0, "add", "(III)I"⟩
abbrev cX0_formsLeft : ByteArray := prog_2_method_4_code
def yX0_formsLeft : MethodName := ⟨RX0, "formsLeft", "(I)I"⟩
abbrev cX0_formLeft : ByteArray := prog_2_method_5_code
def yX0_formLeft : MethodName := ⟨RX0, "formLeft", "(II)I"⟩
abbrev cX0_bestParting : ByteArray := prog_2_method_6_code
def yX0_bestParting : MethodName := ⟨RX0, "bestParting", "(I)I"⟩
abbrev cX0_lesserPart : ByteArray := prog_2_method_7_code
def yX0_lesserPart : MethodName := ⟨RX0, "lesserPart", "(I)I"⟩
abbrev cX0_firstInQuarrel : ByteArray := prog_2_method_8_code
def yX0_firstInQuarrel : MethodName := ⟨RX0, "firstInQuarrel", "(I)I"⟩
abbrev cX0_rival : ByteArray := prog_2_method_9_code
def yX0_rival : MethodName := ⟨RX0, "rival", "(I)I"⟩
abbrev cX0_countHolding : ByteArray := prog_2_method_10_code
def yX0_countHolding : MethodName := ⟨RX0, "countHolding", "(I)V"⟩
abbrev cX0_countHoldingOf : ByteArray := prog_2_method_11_code
def yX0_countHoldingOf : MethodName := ⟨RX0, "countHoldingOf", "(I)V"⟩
abbrev cX0_isLeft : ByteArray := prog_2_method_12_code
def yX0_isLeft : MethodName := ⟨RX0, "isLeft", "(II)Z"⟩
def RX1 : String := "OneCode$Districts"
def TX1 : u_T := fun k => match k with
  | 0 => ("OneCode$Districts", "rules", "LOneCode$Rules;", true)
  | 1 => ("OneCode$Districts", "customs", "[I", true)
  | 2 => ("OneCode$Districts", "people", "[I", true)
  | 3 => ("OneCode$Districts", "codeFrom", "[I", true)
  | 4 => ("OneCode$Districts", "chests", "[I", true)
  | 5 => ("OneCode$Districts", "deedDistrict", "[I", true)
  | 6 => ("OneCode$Districts", "deedSort", "[I", true)
  | 7 => ("OneCode$Districts", "deedDay", "[I", true)
  | 8 => ("OneCode$Districts", "size", "I", false)
  | _ => ("OneCode$Districts", "deeds", "I", false)
def tyX1 : Nat → FieldType := fun k => match k with
  | 0 => .object "OneCode$Rules"
  | 1 => .array .int
  | 2 => .array .int
  | 3 => .array .int
  | 4 => .array .int
  | 5 => .array .int
  | 6 => .array .int
  | 7 => .array .int
  | 8 => .int
  | _ => .int
abbrev wsX10 : List Cond := u_ws RX1 TX1 10
theorem nmX1 : ∀ a, a < 10 → ∀ b, b < 10 → a ≠ b → (TX1 a).2.1 ≠ (TX1 b).2.1 := by decide +kernel
theorem tyX1_ok : ∀ k, k < 10 → parseFieldDescriptor (TX1 k).2.2.1 = some (tyX1 k) := by decide +kernel
abbrev cX1_init : ByteArray := prog_3_method_1_code
def yX1_init : MethodName := ⟨RX1, "<init>", "(LOneCode$Rules;)V"⟩
abbrev cX1_has : ByteArray := prog_3_method_2_code
def yX1_has : MethodName := ⟨RX1, "has", "(I)Z"⟩
abbrev cX1_isFull : ByteArray := prog_3_method_3_code
def yX1_isFull : MethodName := ⟨RX1, "isFull", "()Z"⟩
abbrev cX1_add : ByteArray := prog_3_method_4_code
def yX1_add : MethodName := ⟨RX1, "add", "(II)I"⟩
abbrev cX1_hasCode : ByteArray := prog_3_method_5_code
def yX1_hasCode : MethodName := ⟨RX1, "hasCode", "(II)Z"⟩
abbrev cX1_isUnder : ByteArray := prog_3_method_6_code
def yX1_isUnder : MethodName := ⟨RX1, "isUnder", "(III)Z"⟩
abbrev cX1_peopleUnder : ByteArray := prog_3_method_7_code
def yX1_peopleUnder : MethodName := ⟨RX1, "peopleUnder", "(II)I"⟩
abbrev cX1_peopleOf : ByteArray := prog_3_method_8_code
def yX1_peopleOf : MethodName := ⟨RX1, "peopleOf", "(I)I"⟩
abbrev cX1_lawOf : ByteArray := prog_3_method_9_code
def yX1_lawOf : MethodName := ⟨RX1, "lawOf", "(IIIII)I"⟩
abbrev cX1_allChests : ByteArray := prog_3_method_10_code
def yX1_allChests : MethodName := ⟨RX1, "allChests", "()I"⟩
abbrev cX1_hasDeed : ByteArray := prog_3_method_11_code
def yX1_hasDeed : MethodName := ⟨RX1, "hasDeed", "(I)Z"⟩
abbrev cX1_isFullOfDeeds : ByteArray := prog_3_method_12_code
def yX1_isFullOfDeeds : MethodName := ⟨RX1, "isFullOfDeeds", "()Z"⟩
abbrev cX1_addDeed : ByteArray := prog_3_method_13_code
def yX1_addDeed : MethodName := ⟨RX1, "addDeed", "(III)I"⟩
abbrev cX1_isLost : ByteArray := prog_3_method_14_code
def yX1_isLost : MethodName := ⟨RX1, "isLost", "(II)Z"⟩
def RX2 : String := "OneCode$Lessons"
def TX2 : u_T := fun k => match k with
  | 0 => ("OneCode$Lessons", "months", "[I", true)
  | 1 => ("OneCode$Lessons", "waiting", "[I", true)
  | 2 => ("OneCode$Lessons", "behind", "[I", true)
  | _ => ("OneCode$Lessons", "stillWaits", "[I", true)
def tyX2 : Nat → FieldType := fun k => match k with
  | 0 => .array .int
  | 1 => .array .int
  | 2 => .array .int
  | _ => .array .int
abbrev wsX20 : List Cond := u_ws RX2 TX2 4
theorem nmX2 : ∀ a, a < 4 → ∀ b, b < 4 → a ≠ b → (TX2 a).2.1 ≠ (TX2 b).2.1 := by decide +kernel
theorem tyX2_ok : ∀ k, k < 4 → parseFieldDescriptor (TX2 k).2.2.1 = some (tyX2 k) := by decide +kernel
abbrev cX2_init : ByteArray := prog_4_method_1_code
def yX2_init : MethodName := ⟨RX2, "<init>", "()V"⟩
abbrev cX2_goesRound : ByteArray := prog_4_method_2_code
def yX2_goesRound : MethodName := ⟨RX2, "goesRound", "(II)Z"⟩
abbrev cX2_leastWaiting : ByteArray := prog_4_method_3_code
def yX2_leastWaiting : MethodName := ⟨RX2, "leastWaiting", "(I)I"⟩
abbrev cX2_taughtAt : ByteArray := prog_4_method_4_code
def yX2_taughtAt : MethodName := ⟨RX2, "taughtAt", "(II)I"⟩
abbrev cX2_nextTaught : ByteArray := prog_4_method_5_code
def yX2_nextTaught : MethodName := ⟨RX2, "nextTaught", "(II)I"⟩
abbrev cX2_mayFollow : ByteArray := prog_4_method_6_code
def yX2_mayFollow : MethodName := ⟨RX2, "mayFollow", "(II)Z"⟩
abbrev cX2_waitsIfNext : ByteArray := prog_4_method_7_code
def yX2_waitsIfNext : MethodName := ⟨RX2, "waitsIfNext", "(II)I"⟩
def RX3 : String := "OneCode$Persons"
def TX3 : u_T := fun k => match k with
  | 0 => ("OneCode$Persons", "districts", "LOneCode$Districts;", true)
  | 1 => ("OneCode$Persons", "district", "[I", true)
  | 2 => ("OneCode$Persons", "parent", "[I", true)
  | 3 => ("OneCode$Persons", "age", "[I", true)
  | 4 => ("OneCode$Persons", "house", "[I", true)
  | 5 => ("OneCode$Persons", "oath", "[I", true)
  | 6 => ("OneCode$Persons", "coins", "[I", true)
  | 7 => ("OneCode$Persons", "state", "[I", true)
  | 8 => ("OneCode$Persons", "diedAs", "[I", true)
  | _ => ("OneCode$Persons", "size", "I", false)
def tyX3 : Nat → FieldType := fun k => match k with
  | 0 => .object "OneCode$Districts"
  | 1 => .array .int
  | 2 => .array .int
  | 3 => .array .int
  | 4 => .array .int
  | 5 => .array .int
  | 6 => .array .int
  | 7 => .array .int
  | 8 => .array .int
  | _ => .int
abbrev wsX30 : List Cond := u_ws RX3 TX3 10
theorem nmX3 : ∀ a, a < 10 → ∀ b, b < 10 → a ≠ b → (TX3 a).2.1 ≠ (TX3 b).2.1 := by decide +kernel
theorem tyX3_ok : ∀ k, k < 10 → parseFieldDescriptor (TX3 k).2.2.1 = some (tyX3 k) := by decide +kernel
abbrev cX3_init : ByteArray := prog_5_method_1_code
def yX3_init : MethodName := ⟨RX3, "<init>", "(LOneCode$Districts;)V"⟩
abbrev cX3_has : ByteArray := prog_5_method_2_code
def yX3_has : MethodName := ⟨RX3, "has", "(I)Z"⟩
abbrev cX3_isFull : ByteArray := prog_5_method_3_code
def yX3_isFull : MethodName := ⟨RX3, "isFull", "()Z"⟩
abbrev cX3_add : ByteArray := prog_5_method_4_code
def yX3_add : MethodName := ⟨RX3, "add", "(IIIIII)I"⟩
abbrev cX3_lives : ByteArray := prog_5_method_5_code
def yX3_lives : MethodName := ⟨RX3, "lives", "(I)Z"⟩
abbrev cX3_isQuarrelled : ByteArray := prog_5_method_6_code
def yX3_isQuarrelled : MethodName := ⟨RX3, "isQuarrelled", "(I)Z"⟩
abbrev cX3_inState : ByteArray := prog_5_method_7_code
def yX3_inState : MethodName := ⟨RX3, "inState", "(I)I"⟩
abbrev cX3_allCoins : ByteArray := prog_5_method_8_code
def yX3_allCoins : MethodName := ⟨RX3, "allCoins", "()I"⟩
abbrev cX3_livingChildren : ByteArray := prog_5_method_9_code
def yX3_livingChildren : MethodName := ⟨RX3, "livingChildren", "(II)I"⟩
abbrev cX3_bury : ByteArray := prog_5_method_10_code
def yX3_bury : MethodName := ⟨RX3, "bury", "(I)V"⟩
abbrev cX3_endQuarrel : ByteArray := prog_5_method_11_code
def yX3_endQuarrel : MethodName := ⟨RX3, "endQuarrel", "(II)I"⟩
abbrev cX3_sortOf : ByteArray := prog_5_method_12_code
def yX3_sortOf : MethodName := ⟨RX3, "sortOf", "(I)I"⟩
abbrev cX3_partCoins : ByteArray := prog_5_method_13_code
def yX3_partCoins : MethodName := ⟨RX3, "partCoins", "(II)V"⟩
abbrev cX3_goByWay : ByteArray := prog_5_method_14_code
def yX3_goByWay : MethodName := ⟨RX3, "goByWay", "(III)V"⟩
abbrev cX3_eldestLiving : ByteArray := prog_5_method_15_code
def yX3_eldestLiving : MethodName := ⟨RX3, "eldestLiving", "(I)I"⟩
abbrev cX3_isHeir : ByteArray := prog_5_method_16_code
def yX3_isHeir : MethodName := ⟨RX3, "isHeir", "(III)Z"⟩
abbrev cX3_toOne : ByteArray := prog_5_method_17_code
def yX3_toOne : MethodName := ⟨RX3, "toOne", "(III)V"⟩
abbrev cX3_toChildren : ByteArray := prog_5_method_18_code
def yX3_toChildren : MethodName := ⟨RX3, "toChildren", "(III)V"⟩
abbrev cX3_toChest : ByteArray := prog_5_method_19_code
def yX3_toChest : MethodName := ⟨RX3, "toChest", "(II)V"⟩
def RX4 : String := "OneCode$Rule"
def TX4 : u_T := fun k => match k with
  | 0 => ("OneCode$Rule", "text", "LOneCode$Text;", true)
  | 1 => ("OneCode$Rule", "kind", "I", true)
  | 2 => ("OneCode$Rule", "body", "I", true)
  | 3 => ("OneCode$Rule", "rank", "I", true)
  | 4 => ("OneCode$Rule", "from", "I", true)
  | 5 => ("OneCode$Rule", "known", "I", true)
  | 6 => ("OneCode$Rule", "witnesses", "I", true)
  | 7 => ("OneCode$Rule", "fellOn", "[I", true)
  | 8 => ("OneCode$Rule", "fallen", "I", false)
  | 9 => ("OneCode$Rule", "struckFrom", "I", false)
  | _ => ("OneCode$Rule", "strikeKnown", "I", false)
def tyX4 : Nat → FieldType := fun k => match k with
  | 0 => .object "OneCode$Text"
  | 1 => .int
  | 2 => .int
  | 3 => .int
  | 4 => .int
  | 5 => .int
  | 6 => .int
  | 7 => .array .int
  | 8 => .int
  | 9 => .int
  | _ => .int
abbrev wsX40 : List Cond := u_ws RX4 TX4 11
theorem nmX4 : ∀ a, a < 11 → ∀ b, b < 11 → a ≠ b → (TX4 a).2.1 ≠ (TX4 b).2.1 := by decide +kernel
theorem tyX4_ok : ∀ k, k < 11 → parseFieldDescriptor (TX4 k).2.2.1 = some (tyX4 k) := by decide +kernel
abbrev cX4_init : ByteArray := prog_6_method_1_code
def yX4_init : MethodName := ⟨RX4, "<init>", "(LOneCode$Text;IIIIII)V"⟩
abbrev cX4_group : ByteArray := prog_6_method_2_code
def yX4_group : MethodName := ⟨RX4, "group", "()I"⟩
abbrev cX4_struckOnce : ByteArray := prog_6_method_3_code
def yX4_struckOnce : MethodName := ⟨RX4, "struckOnce", "(II)Z"⟩
abbrev cX4_standing : ByteArray := prog_6_method_4_code
def yX4_standing : MethodName := ⟨RX4, "standing", "()I"⟩
abbrev cX4_loseWitness : ByteArray := prog_6_method_5_code
def yX4_loseWitness : MethodName := ⟨RX4, "loseWitness", "(I)V"⟩
abbrev cX4_isInForce : ByteArray := prog_6_method_6_code
def yX4_isInForce : MethodName := ⟨RX4, "isInForce", "(II)Z"⟩
abbrev cX4_standingAsKnown : ByteArray := prog_6_method_7_code
def yX4_standingAsKnown : MethodName := ⟨RX4, "standingAsKnown", "(I)I"⟩
def RX5 : String := "OneCode$Rules"
def TX5 : u_T := fun k => match k with
  | 0 => ("OneCode$Rules", "rows", "[LOneCode$Rule;", true)
  | 1 => ("OneCode$Rules", "inForce", "[[I", true)
  | 2 => ("OneCode$Rules", "forceSizes", "[I", true)
  | 3 => ("OneCode$Rules", "bodiesRun", "[I", true)
  | 4 => ("OneCode$Rules", "size", "I", false)
  | _ => ("OneCode$Rules", "ran", "I", false)
def tyX5 : Nat → FieldType := fun k => match k with
  | 0 => .array (.object "OneCode$Rule")
  | 1 => .array (.array .int)
  | 2 => .array .int
  | 3 => .array .int
  | 4 => .int
  | _ => .int
abbrev wsX50 : List Cond := u_ws RX5 TX5 6
theorem nmX5 : ∀ a, a < 6 → ∀ b, b < 6 → a ≠ b → (TX5 a).2.1 ≠ (TX5 b).2.1 := by decide +kernel
theorem tyX5_ok : ∀ k, k < 6 → parseFieldDescriptor (TX5 k).2.2.1 = some (tyX5 k) := by decide +kernel
abbrev cX5_init : ByteArray := prog_7_method_1_code
def yX5_init : MethodName := ⟨RX5, "<init>", "()V"⟩
abbrev cX5_has : ByteArray := prog_7_method_2_code
def yX5_has : MethodName := ⟨RX5, "has", "(I)Z"⟩
abbrev cX5_isFull : ByteArray := prog_7_method_3_code
def yX5_isFull : MethodName := ⟨RX5, "isFull", "()Z"⟩
abbrev cX5_at : ByteArray := prog_7_method_4_code
def yX5_at : MethodName := ⟨RX5, "at", "(I)LOneCode$Rule;"⟩
abbrev cX5_add : ByteArray := prog_7_method_5_code
def yX5_add : MethodName := ⟨RX5, "add", "(LOneCode$Rule;)I"⟩
abbrev cX5_gather : ByteArray := prog_7_method_6_code
def yX5_gather : MethodName := ⟨RX5, "gather", "(II)V"⟩
abbrev cX5_topWithout : ByteArray := prog_7_method_7_code
def yX5_topWithout : MethodName := ⟨RX5, "topWithout", "(III)I"⟩
abbrev cX5_top : ByteArray := prog_7_method_8_code
def yX5_top : MethodName := ⟨RX5, "top", "(II)I"⟩
abbrev cX5_answerOf : ByteArray := prog_7_method_9_code
def yX5_answerOf : MethodName := ⟨RX5, "answerOf", "(IIII)I"⟩
abbrev cX5_giver : ByteArray := prog_7_method_10_code
def yX5_giver : MethodName := ⟨RX5, "giver", "(IIIII)I"⟩
abbrev cX5_findUnlike : ByteArray := prog_7_method_11_code
def yX5_findUnlike : MethodName := ⟨RX5, "findUnlike", "(LOneCode$SortSet;III)V"⟩
abbrev cX5_findAnswered : ByteArray := prog_7_method_12_code
def yX5_findAnswered : MethodName := ⟨RX5, "findAnswered", "(LOneCode$SortSet;III)V"⟩
abbrev cX5_findMoved : ByteArray := prog_7_method_13_code
def yX5_findMoved : MethodName := ⟨RX5, "findMoved", "(LOneCode$SortSet;ILOneCode$Text;I)V"⟩
abbrev cX5_clearTrace : ByteArray := prog_7_method_14_code
def yX5_clearTrace : MethodName := ⟨RX5, "clearTrace", "()V"⟩
abbrev cX5_bodyRun : ByteArray := prog_7_method_15_code
def yX5_bodyRun : MethodName := ⟨RX5, "bodyRun", "(I)I"⟩
abbrev cX5_begin : ByteArray := prog_7_method_16_code
def yX5_begin : MethodName := ⟨RX5, "begin", "(I)V"⟩
abbrev cX5_runHolds : ByteArray := prog_7_method_17_code
def yX5_runHolds : MethodName := ⟨RX5, "runHolds", "(LOneCode$Rule;II)I"⟩
abbrev cX5_runHangs : ByteArray := prog_7_method_18_code
def yX5_runHangs : MethodName := ⟨RX5, "runHangs", "(LOneCode$Rule;II)I"⟩
abbrev cX5_runSaves : ByteArray := prog_7_method_19_code
def yX5_runSaves : MethodName := ⟨RX5, "runSaves", "(LOneCode$Rule;II)I"⟩
def RX6 : String := "OneCode$Sheets"
def TX6 : u_T := fun k => match k with
  | 0 => ("OneCode$Sheets", "items", "[[I", true)
  | 1 => ("OneCode$Sheets", "sorts", "[I", true)
  | _ => ("OneCode$Sheets", "lengths", "[I", true)
def tyX6 : Nat → FieldType := fun k => match k with
  | 0 => .array (.array .int)
  | 1 => .array .int
  | _ => .array .int
abbrev wsX60 : List Cond := u_ws RX6 TX6 3
theorem nmX6 : ∀ a, a < 3 → ∀ b, b < 3 → a ≠ b → (TX6 a).2.1 ≠ (TX6 b).2.1 := by decide +kernel
theorem tyX6_ok : ∀ k, k < 3 → parseFieldDescriptor (TX6 k).2.2.1 = some (tyX6 k) := by decide +kernel
abbrev cX6_init : ByteArray := prog_8_method_1_code
def yX6_init : MethodName := ⟨RX6, "<init>", "()V"⟩
abbrev cX6_has : ByteArray := prog_8_method_2_code
def yX6_has : MethodName := ⟨RX6, "has", "(I)Z"⟩
abbrev cX6_isSort : ByteArray := prog_8_method_3_code
def yX6_isSort : MethodName := ⟨RX6, "isSort", "(I)Z"⟩
abbrev cX6_isMissing : ByteArray := prog_8_method_4_code
def yX6_isMissing : MethodName := ⟨RX6, "isMissing", "(I)Z"⟩
abbrev cX6_remove : ByteArray := prog_8_method_5_code
def yX6_remove : MethodName := ⟨RX6, "remove", "(I)V"⟩
abbrev cX6_lay : ByteArray := prog_8_method_6_code
def yX6_lay : MethodName := ⟨RX6, "lay", "(III)V"⟩
abbrev cX6_spans : ByteArray := prog_8_method_7_code
def yX6_spans : MethodName := ⟨RX6, "spans", "(III)Z"⟩
abbrev cX6_item : ByteArray := prog_8_method_8_code
def yX6_item : MethodName := ⟨RX6, "item", "(II)I"⟩
abbrev cX6_put : ByteArray := prog_8_method_9_code
def yX6_put : MethodName := ⟨RX6, "put", "(III)V"⟩
abbrev cX6_factsFrom : ByteArray := prog_8_method_10_code
def yX6_factsFrom : MethodName := ⟨RX6, "factsFrom", "(II)I"⟩
def RX7 : String := "OneCode$SortSet"
def TX7 : u_T := fun k => match k with
  | _ => ("OneCode$SortSet", "words", "[J", true)
def tyX7 : Nat → FieldType := fun k => match k with
  | _ => .array .long
abbrev wsX70 : List Cond := u_ws RX7 TX7 1
theorem nmX7 : ∀ a, a < 1 → ∀ b, b < 1 → a ≠ b → (TX7 a).2.1 ≠ (TX7 b).2.1 := by decide +kernel
theorem tyX7_ok : ∀ k, k < 1 → parseFieldDescriptor (TX7 k).2.2.1 = some (tyX7 k) := by decide +kernel
abbrev cX7_init : ByteArray := prog_9_method_1_code
def yX7_init : MethodName := ⟨RX7, "<init>", "()V"⟩
abbrev cX7_clear : ByteArray := prog_9_method_2_code
def yX7_clear : MethodName := ⟨RX7, "clear", "()V"⟩
abbrev cX7_put : ByteArray := prog_9_method_3_code
def yX7_put : MethodName := ⟨RX7, "put", "(I)V"⟩
abbrev cX7_has : ByteArray := prog_9_method_4_code
def yX7_has : MethodName := ⟨RX7, "has", "(I)Z"⟩
abbrev cX7_size : ByteArray := prog_9_method_5_code
def yX7_size : MethodName := ⟨RX7, "size", "()I"⟩
abbrev cX7_lowest : ByteArray := prog_9_method_6_code
def yX7_lowest : MethodName := ⟨RX7, "lowest", "()I"⟩
abbrev cX7_fieldsThatShow : ByteArray := prog_9_method_7_code
def yX7_fieldsThatShow : MethodName := ⟨RX7, "fieldsThatShow", "()I"⟩
abbrev cX7_unlikeFields : ByteArray := prog_9_method_8_code
def yX7_unlikeFields : MethodName := ⟨RX7, "unlikeFields", "(II)I"⟩
abbrev cX7_meetsAll : ByteArray := prog_9_method_9_code
def yX7_meetsAll : MethodName := ⟨RX7, "meetsAll", "(IJ)Z"⟩
def RX8 : String := "OneCode$Table"
def TX8 : u_T := fun k => match k with
  | 0 => ("OneCode$Table", "costs", "[I", true)
  | 1 => ("OneCode$Table", "likings", "[[I", true)
  | 2 => ("OneCode$Table", "lines", "I", false)
  | _ => ("OneCode$Table", "sections", "I", false)
def tyX8 : Nat → FieldType := fun k => match k with
  | 0 => .array .int
  | 1 => .array (.array .int)
  | 2 => .int
  | _ => .int
abbrev wsX80 : List Cond := u_ws RX8 TX8 4
theorem nmX8 : ∀ a, a < 4 → ∀ b, b < 4 → a ≠ b → (TX8 a).2.1 ≠ (TX8 b).2.1 := by decide +kernel
theorem tyX8_ok : ∀ k, k < 4 → parseFieldDescriptor (TX8 k).2.2.1 = some (tyX8 k) := by decide +kernel
abbrev cX8_init : ByteArray := prog_10_method_1_code
def yX8_init : MethodName := ⟨RX8, "<init>", "()V"⟩
abbrev cX8_isFullOfLines : ByteArray := prog_10_method_2_code
def yX8_isFullOfLines : MethodName := ⟨RX8, "isFullOfLines", "()Z"⟩
abbrev cX8_addLine : ByteArray := prog_10_method_3_code
def yX8_addLine : MethodName := ⟨RX8, "addLine", "(I)I"⟩
abbrev cX8_isFullOfSections : ByteArray := prog_10_method_4_code
def yX8_isFullOfSections : MethodName := ⟨RX8, "isFullOfSections", "()Z"⟩
abbrev cX8_addSection : ByteArray := prog_10_method_5_code
def yX8_addSection : MethodName := ⟨RX8, "addSection", "()I"⟩
abbrev cX8_isSet : ByteArray := prog_10_method_6_code
def yX8_isSet : MethodName := ⟨RX8, "isSet", "(I)Z"⟩
abbrev cX8_sectionsFor : ByteArray := prog_10_method_7_code
def yX8_sectionsFor : MethodName := ⟨RX8, "sectionsFor", "(I)I"⟩
abbrev cX8_leastYielding : ByteArray := prog_10_method_8_code
def yX8_leastYielding : MethodName := ⟨RX8, "leastYielding", "()I"⟩
abbrev cX8_costOf : ByteArray := prog_10_method_9_code
def yX8_costOf : MethodName := ⟨RX8, "costOf", "(I)I"⟩
abbrev cX8_yieldsLess : ByteArray := prog_10_method_10_code
def yX8_yieldsLess : MethodName := ⟨RX8, "yieldsLess", "(II)Z"⟩
abbrev cX8_likingOf : ByteArray := prog_10_method_11_code
def yX8_likingOf : MethodName := ⟨RX8, "likingOf", "(II)I"⟩
def RX9 : String := "OneCode$Text"
def TX9 : u_T := fun k => match k with
  | 0 => ("OneCode$Text", "bytes", "[I", true)
  | 1 => ("OneCode$Text", "fields", "[I", true)
  | 2 => ("OneCode$Text", "values", "[I", true)
  | 3 => ("OneCode$Text", "behindOr", "[Z", true)
  | 4 => ("OneCode$Text", "fitting", "LOneCode$SortSet;", true)
  | 5 => ("OneCode$Text", "unless", "Z", false)
  | 6 => ("OneCode$Text", "length", "I", false)
  | 7 => ("OneCode$Text", "at", "I", false)
  | 8 => ("OneCode$Text", "end", "I", false)
  | _ => ("OneCode$Text", "tests", "I", false)
def tyX9 : Nat → FieldType := fun k => match k with
  | 0 => .array .int
  | 1 => .array .int
  | 2 => .array .int
  | 3 => .array .boolean
  | 4 => .object "OneCode$SortSet"
  | 5 => .boolean
  | 6 => .int
  | 7 => .int
  | 8 => .int
  | _ => .int
abbrev wsX90 : List Cond := u_ws RX9 TX9 10
theorem nmX9 : ∀ a, a < 10 → ∀ b, b < 10 → a ≠ b → (TX9 a).2.1 ≠ (TX9 b).2.1 := by decide +kernel
theorem tyX9_ok : ∀ k, k < 10 → parseFieldDescriptor (TX9 k).2.2.1 = some (tyX9 k) := by decide +kernel
abbrev cX9_init : ByteArray := prog_11_method_1_code
def yX9_init : MethodName := ⟨RX9, "<init>", "([I)V"⟩
abbrev cX9_readTape : ByteArray := prog_11_method_2_code
def yX9_readTape : MethodName := ⟨RX9, "readTape", "(I)I"⟩
abbrev cX9_addTo : ByteArray := prog_11_method_3_code
def yX9_addTo : MethodName := ⟨RX9, "addTo", "(III)I"⟩
abbrev cX9_readEnd : ByteArray := prog_11_method_4_code
def yX9_readEnd : MethodName := ⟨RX9, "readEnd", "()Z"⟩
abbrev cX9_readOwed : ByteArray := prog_11_method_5_code
def yX9_readOwed : MethodName := ⟨RX9, "readOwed", "()Z"⟩
abbrev cX9_readGoes : ByteArray := prog_11_method_6_code
def yX9_readGoes : MethodName := ⟨RX9, "readGoes", "()Z"⟩
abbrev cX9_readCondition : ByteArray := prog_11_method_7_code
def yX9_readCondition : MethodName := ⟨RX9, "readCondition", "()Z"⟩
abbrev cX9_readLink : ByteArray := prog_11_method_8_code
def yX9_readLink : MethodName := ⟨RX9, "readLink", "()Z"⟩
abbrev cX9_readTest : ByteArray := prog_11_method_9_code
def yX9_readTest : MethodName := ⟨RX9, "readTest", "(Z)Z"⟩
abbrev cX9_valuesFor : ByteArray := prog_11_method_10_code
def yX9_valuesFor : MethodName := ⟨RX9, "valuesFor", "(IIZ)I"⟩
abbrev cX9_fieldBegunBy : ByteArray := prog_11_method_11_code
def yX9_fieldBegunBy : MethodName := ⟨RX9, "fieldBegunBy", "(I)I"⟩
abbrev cX9_signOf : ByteArray := prog_11_method_12_code
def yX9_signOf : MethodName := ⟨RX9, "signOf", "(I)I"⟩
abbrev cX9_next : ByteArray := prog_11_method_13_code
def yX9_next : MethodName := ⟨RX9, "next", "()I"⟩
abbrev cX9_readWord : ByteArray := prog_11_method_14_code
def yX9_readWord : MethodName := ⟨RX9, "readWord", "(Ljava/lang/String;)Z"⟩
abbrev cX9_readDigit : ByteArray := prog_11_method_15_code
def yX9_readDigit : MethodName := ⟨RX9, "readDigit", "(C)I"⟩
abbrev cX9_findFitting : ByteArray := prog_11_method_16_code
def yX9_findFitting : MethodName := ⟨RX9, "findFitting", "()V"⟩
abbrev cX9_testsHold : ByteArray := prog_11_method_17_code
def yX9_testsHold : MethodName := ⟨RX9, "testsHold", "(I)Z"⟩
def RX10 : String := "OneCode$Writings"
def TX10 : u_T := fun k => match k with
  | 0 => ("OneCode$Writings", "rules", "LOneCode$Rules;", true)
  | 1 => ("OneCode$Writings", "districts", "LOneCode$Districts;", true)
  | 2 => ("OneCode$Writings", "texts", "[LOneCode$Text;", true)
  | 3 => ("OneCode$Writings", "ranks", "[I", true)
  | 4 => ("OneCode$Writings", "ways", "[I", true)
  | 5 => ("OneCode$Writings", "customPeople", "[I", true)
  | 6 => ("OneCode$Writings", "customEnds", "[I", true)
  | 7 => ("OneCode$Writings", "endPeople", "[I", true)
  | 8 => ("OneCode$Writings", "ends", "I", false)
  | 9 => ("OneCode$Writings", "tops", "[I", true)
  | _ => ("OneCode$Writings", "kept", "[I", true)
def tyX10 : Nat → FieldType := fun k => match k with
  | 0 => .object "OneCode$Rules"
  | 1 => .object "OneCode$Districts"
  | 2 => .array (.object "OneCode$Text")
  | 3 => .array .int
  | 4 => .array .int
  | 5 => .array .int
  | 6 => .array .int
  | 7 => .array .int
  | 8 => .int
  | 9 => .array .int
  | _ => .array .int
abbrev wsX100 : List Cond := u_ws RX10 TX10 11
theorem nmX10 : ∀ a, a < 11 → ∀ b, b < 11 → a ≠ b → (TX10 a).2.1 ≠ (TX10 b).2.1 := by decide +kernel
theorem tyX10_ok : ∀ k, k < 11 → parseFieldDescriptor (TX10 k).2.2.1 = some (tyX10 k) := by decide +kernel
abbrev cX10_init : ByteArray := prog_12_method_1_code
def yX10_init : MethodName := ⟨RX10, "<init>", "(LOneCode$Rules;LOneCode$Districts;)V"⟩
abbrev cX10_hasSlot : ByteArray := prog_12_method_2_code
def yX10_hasSlot : MethodName := ⟨RX10, "hasSlot", "(I)Z"⟩
abbrev cX10_isFull : ByteArray := prog_12_method_3_code
def yX10_isFull : MethodName := ⟨RX10, "isFull", "(I)Z"⟩
abbrev cX10_add : ByteArray := prog_12_method_4_code
def yX10_add : MethodName := ⟨RX10, "add", "(ILOneCode$Text;I)I"⟩
abbrev cX10_allWays : ByteArray := prog_12_method_5_code
def yX10_allWays : MethodName := ⟨RX10, "allWays", "()I"⟩
abbrev cX10_isWriting : ByteArray := prog_12_method_6_code
def yX10_isWriting : MethodName := ⟨RX10, "isWriting", "(I)Z"⟩
abbrev cX10_keptBy : ByteArray := prog_12_method_7_code
def yX10_keptBy : MethodName := ⟨RX10, "keptBy", "(II)I"⟩
abbrev cX10_placeOfBest : ByteArray := prog_12_method_8_code
def yX10_placeOfBest : MethodName := ⟨RX10, "placeOfBest", "(I)I"⟩
abbrev cX10_keptAt : ByteArray := prog_12_method_9_code
def yX10_keptAt : MethodName := ⟨RX10, "keptAt", "(I)I"⟩
abbrev cX10_writingAt : ByteArray := prog_12_method_10_code
def yX10_writingAt : MethodName := ⟨RX10, "writingAt", "(I)I"⟩
abbrev cX10_topOfWriting : ByteArray := prog_12_method_11_code
def yX10_topOfWriting : MethodName := ⟨RX10, "topOfWriting", "(II)I"⟩
abbrev cX10_keepBy : ByteArray := prog_12_method_12_code
def yX10_keepBy : MethodName := ⟨RX10, "keepBy", "(I)V"⟩
abbrev cX10_spreadTops : ByteArray := prog_12_method_13_code
def yX10_spreadTops : MethodName := ⟨RX10, "spreadTops", "(I)V"⟩
abbrev cX10_spreadOver : ByteArray := prog_12_method_14_code
def yX10_spreadOver : MethodName := ⟨RX10, "spreadOver", "(III)V"⟩
abbrev cX10_waysFitting : ByteArray := prog_12_method_15_code
def yX10_waysFitting : MethodName := ⟨RX10, "waysFitting", "(II)I"⟩
abbrev cX10_digitOf : ByteArray := prog_12_method_16_code
def yX10_digitOf : MethodName := ⟨RX10, "digitOf", "(II)I"⟩
abbrev cX10_prepare : ByteArray := prog_12_method_17_code
def yX10_prepare : MethodName := ⟨RX10, "prepare", "(I)V"⟩
abbrev cX10_askCustoms : ByteArray := prog_12_method_18_code
def yX10_askCustoms : MethodName := ⟨RX10, "askCustoms", "(I)V"⟩
abbrev cX10_peopleWith : ByteArray := prog_12_method_19_code
def yX10_peopleWith : MethodName := ⟨RX10, "peopleWith", "(I)I"⟩
def RX11 : String := "OneCode"
def TX11 : u_T := fun k => match k with
  | 0 => ("OneCode", "tape", "[I", true)
  | 1 => ("OneCode", "rules", "LOneCode$Rules;", true)
  | 2 => ("OneCode", "districts", "LOneCode$Districts;", true)
  | 3 => ("OneCode", "cases", "LOneCode$Cases;", true)
  | 4 => ("OneCode", "persons", "LOneCode$Persons;", true)
  | 5 => ("OneCode", "writings", "LOneCode$Writings;", true)
  | 6 => ("OneCode", "table", "LOneCode$Table;", true)
  | 7 => ("OneCode", "lessons", "LOneCode$Lessons;", true)
  | 8 => ("OneCode", "sheets", "LOneCode$Sheets;", true)
  | 9 => ("OneCode", "found", "LOneCode$SortSet;", true)
  | 10 => ("OneCode", "draft", "LOneCode$Text;", false)
  | 11 => ("OneCode", "tapeLength", "I", false)
  | 12 => ("OneCode", "now", "I", false)
  | _ => ("OneCode", "courtRule", "I", false)
def tyX11 : Nat → FieldType := fun k => match k with
  | 0 => .array .int
  | 1 => .object "OneCode$Rules"
  | 2 => .object "OneCode$Districts"
  | 3 => .object "OneCode$Cases"
  | 4 => .object "OneCode$Persons"
  | 5 => .object "OneCode$Writings"
  | 6 => .object "OneCode$Table"
  | 7 => .object "OneCode$Lessons"
  | 8 => .object "OneCode$Sheets"
  | 9 => .object "OneCode$SortSet"
  | 10 => .object "OneCode$Text"
  | 11 => .int
  | 12 => .int
  | _ => .int
abbrev wsX110 : List Cond := u_ws RX11 TX11 14
theorem nmX11 : ∀ a, a < 14 → ∀ b, b < 14 → a ≠ b → (TX11 a).2.1 ≠ (TX11 b).2.1 := by decide +kernel
theorem tyX11_ok : ∀ k, k < 14 → parseFieldDescriptor (TX11 k).2.2.1 = some (tyX11 k) := by decide +kernel
abbrev cX11_init : ByteArray := prog_1_method_1_code
def yX11_init : MethodName := ⟨RX11, "<init>", "()V"⟩
abbrev cX11_days : ByteArray := prog_1_method_2_code
def yX11_days : MethodName := ⟨RX11, "days", "(I)I"⟩
abbrev cX11_feed : ByteArray := prog_1_method_3_code
def yX11_feed : MethodName := ⟨RX11, "feed", "(II)I"⟩
abbrev cX11_rule : ByteArray := prog_1_method_4_code
def yX11_rule : MethodName := ⟨RX11, "rule", "(IIIII)I"⟩
abbrev cX11_strike : ByteArray := prog_1_method_5_code
def yX11_strike : MethodName := ⟨RX11, "strike", "(II)I"⟩
abbrev cX11_fall : ByteArray := prog_1_method_6_code
def yX11_fall : MethodName := ⟨RX11, "fall", "(I)I"⟩
abbrev cX11_ruleOf : ByteArray := prog_1_method_7_code
def yX11_ruleOf : MethodName := ⟨RX11, "ruleOf", "(II)I"⟩
abbrev cX11_fits : ByteArray := prog_1_method_8_code
def yX11_fits : MethodName := ⟨RX11, "fits", "(II)I"⟩
abbrev cX11_answer : ByteArray := prog_1_method_9_code
def yX11_answer : MethodName := ⟨RX11, "answer", "(IIII)I"⟩
abbrev cX11_why : ByteArray := prog_1_method_10_code
def yX11_why : MethodName := ⟨RX11, "why", "(IIIII)I"⟩
abbrev cX11_district : ByteArray := prog_1_method_11_code
def yX11_district : MethodName := ⟨RX11, "district", "(II)I"⟩
abbrev cX11_carried : ByteArray := prog_1_method_12_code
def yX11_carried : MethodName := ⟨RX11, "carried", "(II)I"⟩
abbrev cX11_law : ByteArray := prog_1_method_13_code
def yX11_law : MethodName := ⟨RX11, "law", "(IIIII)I"⟩
abbrev cX11_deed : ByteArray := prog_1_method_14_code
def yX11_deed : MethodName := ⟨RX11, "deed", "(II)I"⟩
abbrev cX11_deedEnd : ByteArray := prog_1_method_15_code
def yX11_deedEnd : MethodName := ⟨RX11, "deedEnd", "(III)I"⟩
abbrev cX11_lost : ByteArray := prog_1_method_16_code
def yX11_lost : MethodName := ⟨RX11, "lost", "(II)I"⟩
abbrev cX11_courts : ByteArray := prog_1_method_17_code
def yX11_courts : MethodName := ⟨RX11, "courts", "(I)I"⟩
abbrev cX11_court : ByteArray := prog_1_method_18_code
def yX11_court : MethodName := ⟨RX11, "court", "(IIII)I"⟩
abbrev cX11_unlike : ByteArray := prog_1_method_19_code
def yX11_unlike : MethodName := ⟨RX11, "unlike", "(III)I"⟩
abbrev cX11_wrong : ByteArray := prog_1_method_20_code
def yX11_wrong : MethodName := ⟨RX11, "wrong", "(III)I"⟩
abbrev cX11_heard : ByteArray := prog_1_method_21_code
def yX11_heard : MethodName := ⟨RX11, "heard", "(III)I"⟩
abbrev cX11_read : ByteArray := prog_1_method_22_code
def yX11_read : MethodName := ⟨RX11, "read", "(IIII)I"⟩
abbrev cX11_left : ByteArray := prog_1_method_23_code
def yX11_left : MethodName := ⟨RX11, "left", "(I)I"⟩
abbrev cX11_form : ByteArray := prog_1_method_24_code
def yX11_form : MethodName := ⟨RX11, "form", "(II)I"⟩
abbrev cX11_parts : ByteArray := prog_1_method_25_code
def yX11_parts : MethodName := ⟨RX11, "parts", "(II)I"⟩
abbrev cX11_quarrel : ByteArray := prog_1_method_26_code
def yX11_quarrel : MethodName := ⟨RX11, "quarrel", "(II)I"⟩
abbrev cX11_moves : ByteArray := prog_1_method_27_code
def yX11_moves : MethodName := ⟨RX11, "moves", "(II)I"⟩
abbrev cX11_person : ByteArray := prog_1_method_28_code
def yX11_person : MethodName := ⟨RX11, "person", "(IIIIII)I"⟩
abbrev cX11_goes : ByteArray := prog_1_method_29_code
def yX11_goes : MethodName := ⟨RX11, "goes", "(II)I"⟩
abbrev cX11_die : ByteArray := prog_1_method_30_code
def yX11_die : MethodName := ⟨RX11, "die", "(I)I"⟩
abbrev cX11_settle : ByteArray := prog_1_method_31_code
def yX11_settle : MethodName := ⟨RX11, "settle", "(I)I"⟩
abbrev cX11_personOf : ByteArray := prog_1_method_32_code
def yX11_personOf : MethodName := ⟨RX11, "personOf", "(II)I"⟩
abbrev cX11_chest : ByteArray := prog_1_method_33_code
def yX11_chest : MethodName := ⟨RX11, "chest", "(I)I"⟩
abbrev cX11_way : ByteArray := prog_1_method_34_code
def yX11_way : MethodName := ⟨RX11, "way", "(II)I"⟩
abbrev cX11_keeps : ByteArray := prog_1_method_35_code
def yX11_keeps : MethodName := ⟨RX11, "keeps", "(I)I"⟩
abbrev cX11_near : ByteArray := prog_1_method_36_code
def yX11_near : MethodName := ⟨RX11, "near", "(I)I"⟩
abbrev cX11_line : ByteArray := prog_1_method_37_code
def yX11_line : MethodName := ⟨RX11, "line", "(I)I"⟩
abbrev cX11_section : ByteArray := prog_1_method_38_code
def yX11_section : MethodName := ⟨RX11, "section", "()I"⟩
abbrev cX11_like : ByteArray := prog_1_method_39_code
def yX11_like : MethodName := ⟨RX11, "like", "(III)I"⟩
abbrev cX11_yes : ByteArray := prog_1_method_40_code
def yX11_yes : MethodName := ⟨RX11, "yes", "(I)I"⟩
abbrev cX11_least : ByteArray := prog_1_method_41_code
def yX11_least : MethodName := ⟨RX11, "least", "(I)I"⟩
abbrev cX11_teach : ByteArray := prog_1_method_42_code
def yX11_teach : MethodName := ⟨RX11, "teach", "(III)I"⟩
abbrev cX11_waits : ByteArray := prog_1_method_43_code
def yX11_waits : MethodName := ⟨RX11, "waits", "()I"⟩
abbrev cX11_taught : ByteArray := prog_1_method_44_code
def yX11_taught : MethodName := ⟨RX11, "taught", "(I)I"⟩
abbrev cX11_act : ByteArray := prog_1_method_45_code
def yX11_act : MethodName := ⟨RX11, "act", "(III)I"⟩
abbrev cX11_trace : ByteArray := prog_1_method_46_code
def yX11_trace : MethodName := ⟨RX11, "trace", "(I)I"⟩
abbrev cX11_taken : ByteArray := prog_1_method_47_code
def yX11_taken : MethodName := ⟨RX11, "taken", "(II)I"⟩
abbrev cX11_count : ByteArray := prog_1_method_48_code
def yX11_count : MethodName := ⟨RX11, "count", "(I)I"⟩
abbrev cX11_sheet : ByteArray := prog_1_method_49_code
def yX11_sheet : MethodName := ⟨RX11, "sheet", "(III)I"⟩
abbrev cX11_cell : ByteArray := prog_1_method_50_code
def yX11_cell : MethodName := ⟨RX11, "cell", "(III)I"⟩
abbrev cX11_copy : ByteArray := prog_1_method_51_code
def yX11_copy : MethodName := ⟨RX11, "copy", "(IIIII)I"⟩
abbrev cX11_casesMoved : ByteArray := prog_1_method_52_code
def yX11_casesMoved : MethodName := ⟨RX11, "casesMoved", "(I)I"⟩
abbrev cX11_tellOf : ByteArray := prog_1_method_53_code
def yX11_tellOf : MethodName := ⟨RX11, "tellOf", "(LOneCode$SortSet;I)I"⟩
abbrev cX11_swap : ByteArray := prog_1_method_54_code
def yX11_swap : MethodName := ⟨RX11, "swap", "([III)I"⟩
abbrev cX11_within : ByteArray := prog_1_method_55_code
def yX11_within : MethodName := ⟨RX11, "within", "(III)Z"⟩
abbrev cX11_isSort : ByteArray := prog_1_method_56_code
def yX11_isSort : MethodName := ⟨RX11, "isSort", "(I)Z"⟩
abbrev cX11_isEnd : ByteArray := prog_1_method_57_code
def yX11_isEnd : MethodName := ⟨RX11, "isEnd", "(I)Z"⟩
abbrev cX11_isUnder : ByteArray := prog_1_method_58_code
def yX11_isUnder : MethodName := ⟨RX11, "isUnder", "(II)Z"⟩
abbrev cX11_sizeOf : ByteArray := prog_1_method_59_code
def yX11_sizeOf : MethodName := ⟨RX11, "sizeOf", "(I)I"⟩
abbrev cX11_fieldOf : ByteArray := prog_1_method_60_code
def yX11_fieldOf : MethodName := ⟨RX11, "fieldOf", "(II)I"⟩
abbrev cX11_nameOf : ByteArray := prog_1_method_61_code
def yX11_nameOf : MethodName := ⟨RX11, "nameOf", "(I)Ljava/lang/String;"⟩
abbrev cX11_isSo : ByteArray := prog_1_method_62_code
def yX11_isSo : MethodName := ⟨RX11, "isSo", "(III)Z"⟩
abbrev cX11_rankOf : ByteArray := prog_1_method_63_code
def yX11_rankOf : MethodName := ⟨RX11, "rankOf", "(I)I"⟩
abbrev cX11_endOf : ByteArray := prog_1_method_64_code
def yX11_endOf : MethodName := ⟨RX11, "endOf", "(I)I"⟩
abbrev cX11_joined : ByteArray := prog_1_method_65_code
def yX11_joined : MethodName := ⟨RX11, "joined", "(III)I"⟩
def RX12 : String := "OneCodeModel"
def TX12 : u_T := fun k => match k with
  | 0 => ("OneCodeModel", "now", "I", false)
  | 1 => ("OneCodeModel", "tape", "[I", true)
  | 2 => ("OneCodeModel", "taped", "I", false)
  | 3 => ("OneCodeModel", "ends", "[I", true)
  | 4 => ("OneCodeModel", "isUnless", "[Z", true)
  | 5 => ("OneCodeModel", "testMany", "[I", true)
  | 6 => ("OneCodeModel", "tests", "[I", true)
  | 7 => ("OneCodeModel", "rules", "I", false)
  | 8 => ("OneCodeModel", "kind", "[I", true)
  | 9 => ("OneCodeModel", "body", "[I", true)
  | 10 => ("OneCodeModel", "rank", "[I", true)
  | 11 => ("OneCodeModel", "from", "[I", true)
  | 12 => ("OneCodeModel", "known", "[I", true)
  | 13 => ("OneCodeModel", "struck", "[I", true)
  | 14 => ("OneCodeModel", "struckKnown", "[I", true)
  | 15 => ("OneCodeModel", "witnesses", "[I", true)
  | 16 => ("OneCodeModel", "falls", "[I", true)
  | 17 => ("OneCodeModel", "fallKnown", "[I", true)
  | 18 => ("OneCodeModel", "districts", "I", false)
  | 19 => ("OneCodeModel", "custom", "[I", true)
  | 20 => ("OneCodeModel", "people", "[I", true)
  | 21 => ("OneCodeModel", "codeFrom", "[I", true)
  | 22 => ("OneCodeModel", "courts", "I", false)
  | 23 => ("OneCodeModel", "cases", "I", false)
  | 24 => ("OneCodeModel", "caseDistrict", "[I", true)
  | 25 => ("OneCodeModel", "caseSort", "[I", true)
  | 26 => ("OneCodeModel", "caseEnd", "[I", true)
  | 27 => ("OneCodeModel", "deeds", "I", false)
  | 28 => ("OneCodeModel", "deedIn", "[I", true)
  | 29 => ("OneCodeModel", "deedSort", "[I", true)
  | 30 => ("OneCodeModel", "deedDay", "[I", true)
  | 31 => ("OneCodeModel", "persons", "I", false)
  | 32 => ("OneCodeModel", "home", "[I", true)
  | 33 => ("OneCodeModel", "parent", "[I", true)
  | 34 => ("OneCodeModel", "age", "[I", true)
  | 35 => ("OneCodeModel", "house", "[I", true)
  | 36 => ("OneCodeModel", "oath", "[I", true)
  | 37 => ("OneCodeModel", "coins", "[I", true)
  | 38 => ("OneCodeModel", "life", "[I", true)
  | 39 => ("OneCodeModel", "diedAs", "[I", true)
  | 40 => ("OneCodeModel", "chests", "[I", true)
  | 41 => ("OneCodeModel", "wayMany", "[I", true)
  | 42 => ("OneCodeModel", "wayRank", "[I", true)
  | 43 => ("OneCodeModel", "lines", "I", false)
  | 44 => ("OneCodeModel", "cost", "[I", true)
  | 45 => ("OneCodeModel", "sections", "I", false)
  | 46 => ("OneCodeModel", "liking", "[I", true)
  | 47 => ("OneCodeModel", "months", "[I", true)
  | 48 => ("OneCodeModel", "waiting", "[I", true)
  | 49 => ("OneCodeModel", "behind", "[I", true)
  | 50 => ("OneCodeModel", "trace", "[I", true)
  | 51 => ("OneCodeModel", "ran", "I", false)
  | 52 => ("OneCodeModel", "sheetSort", "[I", true)
  | 53 => ("OneCodeModel", "sheetSize", "[I", true)
  | 54 => ("OneCodeModel", "cells", "[I", true)
  | 55 => ("OneCodeModel", "at", "I", false)
  | 56 => ("OneCodeModel", "isFaulty", "Z", false)
  | 57 => ("OneCodeModel", "swapped", "I", false)
  | 58 => ("OneCodeModel", "bestRank", "I", false)
  | 59 => ("OneCodeModel", "isSuch", "[Z", true)
  | 60 => ("OneCodeModel", "leftForms", "[Z", true)
  | 61 => ("OneCodeModel", "customAnswer", "[I", true)
  | 62 => ("OneCodeModel", "lineAnswer", "[I", true)
  | 63 => ("OneCodeModel", "lineRank", "[I", true)
  | 64 => ("OneCodeModel", "folkOf", "[I", true)
  | 65 => ("OneCodeModel", "taken", "[I", true)
  | 66 => ("OneCodeModel", "waits", "[I", true)
  | 67 => ("OneCodeModel", "row", "[I", true)
  | _ => ("OneCodeModel", "actRule", "I", false)
def tyX12 : Nat → FieldType := fun k => match k with
  | 0 => .int
  | 1 => .array .int
  | 2 => .int
  | 3 => .array .int
  | 4 => .array .boolean
  | 5 => .array .int
  | 6 => .array .int
  | 7 => .int
  | 8 => .array .int
  | 9 => .array .int
  | 10 => .array .int
  | 11 => .array .int
  | 12 => .array .int
  | 13 => .array .int
  | 14 => .array .int
  | 15 => .array .int
  | 16 => .array .int
  | 17 => .array .int
  | 18 => .int
  | 19 => .array .int
  | 20 => .array .int
  | 21 => .array .int
  | 22 => .int
  | 23 => .int
  | 24 => .array .int
  | 25 => .array .int
  | 26 => .array .int
  | 27 => .int
  | 28 => .array .int
  | 29 => .array .int
  | 30 => .array .int
  | 31 => .int
  | 32 => .array .int
  | 33 => .array .int
  | 34 => .array .int
  | 35 => .array .int
  | 36 => .array .int
  | 37 => .array .int
  | 38 => .array .int
  | 39 => .array .int
  | 40 => .array .int
  | 41 => .array .int
  | 42 => .array .int
  | 43 => .int
  | 44 => .array .int
  | 45 => .int
  | 46 => .array .int
  | 47 => .array .int
  | 48 => .array .int
  | 49 => .array .int
  | 50 => .array .int
  | 51 => .int
  | 52 => .array .int
  | 53 => .array .int
  | 54 => .array .int
  | 55 => .int
  | 56 => .boolean
  | 57 => .int
  | 58 => .int
  | 59 => .array .boolean
  | 60 => .array .boolean
  | 61 => .array .int
  | 62 => .array .int
  | 63 => .array .int
  | 64 => .array .int
  | 65 => .array .int
  | 66 => .array .int
  | 67 => .array .int
  | _ => .int
abbrev wsX120 : List Cond := u_ws RX12 TX12 69
theorem nmX12 : ∀ a, a < 69 → ∀ b, b < 69 → a ≠ b → (TX12 a).2.1 ≠ (TX12 b).2.1 := by decide +kernel
theorem tyX12_ok : ∀ k, k < 69 → parseFieldDescriptor (TX12 k).2.2.1 = some (tyX12 k) := by decide +kernel
abbrev cX12_init : ByteArray := prog_14_method_1_code
def yX12_init : MethodName := ⟨RX12, "<init>", "()V"⟩
abbrev cX12_in : ByteArray := prog_14_method_3_code
def yX12_in : MethodName := ⟨RX12, "in", "(III)Z"⟩
abbrev cX12_isSort : ByteArray := prog_14_method_4_code
def yX12_isSort : MethodName := ⟨RX12, "isSort", "(I)Z"⟩
abbrev cX12_isRule : ByteArray := prog_14_method_5_code
def yX12_isRule : MethodName := ⟨RX12, "isRule", "(I)Z"⟩
abbrev cX12_isDistrict : ByteArray := prog_14_method_6_code
def yX12_isDistrict : MethodName := ⟨RX12, "isDistrict", "(I)Z"⟩
abbrev cX12_isEnd : ByteArray := prog_14_method_7_code
def yX12_isEnd : MethodName := ⟨RX12, "isEnd", "(I)Z"⟩
abbrev cX12_unit : ByteArray := prog_14_method_8_code
def yX12_unit : MethodName := ⟨RX12, "unit", "(I)I"⟩
abbrev cX12_sizeOf : ByteArray := prog_14_method_9_code
def yX12_sizeOf : MethodName := ⟨RX12, "sizeOf", "(I)I"⟩
abbrev cX12_field : ByteArray := prog_14_method_10_code
def yX12_field : MethodName := ⟨RX12, "field", "(II)I"⟩
abbrev cX12_days : ByteArray := prog_14_method_11_code
def yX12_days : MethodName := ⟨RX12, "days", "(I)I"⟩
abbrev cX12_feed : ByteArray := prog_14_method_12_code
def yX12_feed : MethodName := ⟨RX12, "feed", "(II)I"⟩
abbrev cX12_here : ByteArray := prog_14_method_13_code
def yX12_here : MethodName := ⟨RX12, "here", "()I"⟩
abbrev cX12_eats : ByteArray := prog_14_method_14_code
def yX12_eats : MethodName := ⟨RX12, "eats", "(I)V"⟩
abbrev cX12_eats4 : ByteArray := prog_14_method_15_code
def yX12_eats4 : MethodName := ⟨RX12, "eats4", "(IIII)V"⟩
abbrev cX12_digit : ByteArray := prog_14_method_16_code
def yX12_digit : MethodName := ⟨RX12, "digit", "(II)I"⟩
abbrev cX12_endRead : ByteArray := prog_14_method_17_code
def yX12_endRead : MethodName := ⟨RX12, "endRead", "()I"⟩
abbrev cX12_fieldRead : ByteArray := prog_14_method_18_code
def yX12_fieldRead : MethodName := ⟨RX12, "fieldRead", "()I"⟩
abbrev cX12_testRead : ByteArray := prog_14_method_19_code
def yX12_testRead : MethodName := ⟨RX12, "testRead", "(I)I"⟩
abbrev cX12_read : ByteArray := prog_14_method_20_code
def yX12_read : MethodName := ⟨RX12, "read", "(I)I"⟩
abbrev cX12_holds : ByteArray := prog_14_method_21_code
def yX12_holds : MethodName := ⟨RX12, "holds", "(II)Z"⟩
abbrev cX12_fitsText : ByteArray := prog_14_method_22_code
def yX12_fitsText : MethodName := ⟨RX12, "fitsText", "(II)Z"⟩
abbrev cX12_rule : ByteArray := prog_14_method_23_code
def yX12_rule : MethodName := ⟨RX12, "rule", "(IIIII)I"⟩
abbrev cX12_strike : ByteArray := prog_14_method_24_code
def yX12_strike : MethodName := ⟨RX12, "strike", "(II)I"⟩
abbrev cX12_fall : ByteArray := prog_14_method_25_code
def yX12_fall : MethodName := ⟨RX12, "fall", "(I)I"⟩
abbrev cX12_ruleOf : ByteArray := prog_14_method_26_code
def yX12_ruleOf : MethodName := ⟨RX12, "ruleOf", "(II)I"⟩
abbrev cX12_fits : ByteArray := prog_14_method_27_code
def yX12_fits : MethodName := ⟨RX12, "fits", "(II)I"⟩
abbrev cX12_isInForce : ByteArray := prog_14_method_28_code
def yX12_isInForce : MethodName := ⟨RX12, "isInForce", "(III)Z"⟩
abbrev cX12_answerBy : ByteArray := prog_14_method_29_code
def yX12_answerBy : MethodName := ⟨RX12, "answerBy", "(IIIIII)I"⟩
abbrev cX12_answerOf : ByteArray := prog_14_method_30_code
def yX12_answerOf : MethodName := ⟨RX12, "answerOf", "(IIII)I"⟩
abbrev cX12_isAsked : ByteArray := prog_14_method_31_code
def yX12_isAsked : MethodName := ⟨RX12, "isAsked", "(IIII)Z"⟩
abbrev cX12_answer : ByteArray := prog_14_method_32_code
def yX12_answer : MethodName := ⟨RX12, "answer", "(IIII)I"⟩
abbrev cX12_why : ByteArray := prog_14_method_33_code
def yX12_why : MethodName := ⟨RX12, "why", "(IIIII)I"⟩
abbrev cX12_district : ByteArray := prog_14_method_34_code
def yX12_district : MethodName := ⟨RX12, "district", "(II)I"⟩
abbrev cX12_carried : ByteArray := prog_14_method_35_code
def yX12_carried : MethodName := ⟨RX12, "carried", "(II)I"⟩
abbrev cX12_isCode : ByteArray := prog_14_method_36_code
def yX12_isCode : MethodName := ⟨RX12, "isCode", "(II)Z"⟩
abbrev cX12_lawOf : ByteArray := prog_14_method_37_code
def yX12_lawOf : MethodName := ⟨RX12, "lawOf", "(IIIII)I"⟩
abbrev cX12_law : ByteArray := prog_14_method_38_code
def yX12_law : MethodName := ⟨RX12, "law", "(IIIII)I"⟩
abbrev cX12_deed : ByteArray := prog_14_method_39_code
def yX12_deed : MethodName := ⟨RX12, "deed", "(II)I"⟩
abbrev cX12_endOf : ByteArray := prog_14_method_40_code
def yX12_endOf : MethodName := ⟨RX12, "endOf", "(III)I"⟩
abbrev cX12_deedEnd : ByteArray := prog_14_method_41_code
def yX12_deedEnd : MethodName := ⟨RX12, "deedEnd", "(III)I"⟩
abbrev cX12_lost : ByteArray := prog_14_method_42_code
def yX12_lost : MethodName := ⟨RX12, "lost", "(II)I"⟩
abbrev cX12_goes : ByteArray := prog_14_method_43_code
def yX12_goes : MethodName := ⟨RX12, "goes", "(II)I"⟩
abbrev cX12_courts : ByteArray := prog_14_method_44_code
def yX12_courts : MethodName := ⟨RX12, "courts", "(I)I"⟩
abbrev cX12_court : ByteArray := prog_14_method_45_code
def yX12_court : MethodName := ⟨RX12, "court", "(IIII)I"⟩
abbrev cX12_shows : ByteArray := prog_14_method_46_code
def yX12_shows : MethodName := ⟨RX12, "shows", "(II)Z"⟩
abbrev cX12_many : ByteArray := prog_14_method_47_code
def yX12_many : MethodName := ⟨RX12, "many", "(I)I"⟩
abbrev cX12_toldOf : ByteArray := prog_14_method_48_code
def yX12_toldOf : MethodName := ⟨RX12, "toldOf", "(I)I"⟩
abbrev cX12_unlike : ByteArray := prog_14_method_49_code
def yX12_unlike : MethodName := ⟨RX12, "unlike", "(III)I"⟩
abbrev cX12_wrong : ByteArray := prog_14_method_50_code
def yX12_wrong : MethodName := ⟨RX12, "wrong", "(III)I"⟩
abbrev cX12_hears : ByteArray := prog_14_method_51_code
def yX12_hears : MethodName := ⟨RX12, "hears", "(III)I"⟩
abbrev cX12_heard : ByteArray := prog_14_method_52_code
def yX12_heard : MethodName := ⟨RX12, "heard", "(III)I"⟩
abbrev cX12_read_ : ByteArray := prog_14_method_53_code
def yX12_read_ : MethodName := ⟨RX12, "read", "(IIII)I"⟩
abbrev cX12_formHolds : ByteArray := prog_14_method_54_code
def yX12_formHolds : MethodName := ⟨RX12, "formHolds", "(II)Z"⟩
abbrev cX12_isLeft : ByteArray := prog_14_method_55_code
def yX12_isLeft : MethodName := ⟨RX12, "isLeft", "(II)Z"⟩
abbrev cX12_findLeft : ByteArray := prog_14_method_56_code
def yX12_findLeft : MethodName := ⟨RX12, "findLeft", "(I)I"⟩
abbrev cX12_left : ByteArray := prog_14_method_57_code
def yX12_left : MethodName := ⟨RX12, "left", "(I)I"⟩
abbrev cX12_form : ByteArray := prog_14_method_58_code
def yX12_form : MethodName := ⟨RX12, "form", "(II)I"⟩
abbrev cX12_parts : ByteArray := prog_14_method_59_code
def yX12_parts : MethodName := ⟨RX12, "parts", "(II)I"⟩
abbrev cX12_quarrel : ByteArray := prog_14_method_60_code
def yX12_quarrel : MethodName := ⟨RX12, "quarrel", "(II)I"⟩
abbrev cX12_isUnder : ByteArray := prog_14_method_61_code
def yX12_isUnder : MethodName := ⟨RX12, "isUnder", "(II)Z"⟩
abbrev cX12_moves : ByteArray := prog_14_method_62_code
def yX12_moves : MethodName := ⟨RX12, "moves", "(II)I"⟩
abbrev cX12_person : ByteArray := prog_14_method_63_code
def yX12_person : MethodName := ⟨RX12, "person", "(IIIIII)I"⟩
abbrev cX12_isChild : ByteArray := prog_14_method_64_code
def yX12_isChild : MethodName := ⟨RX12, "isChild", "(II)Z"⟩
abbrev cX12_childrenOf : ByteArray := prog_14_method_65_code
def yX12_childrenOf : MethodName := ⟨RX12, "childrenOf", "(I)I"⟩
abbrev cX12_eldestOf : ByteArray := prog_14_method_66_code
def yX12_eldestOf : MethodName := ⟨RX12, "eldestOf", "(I)I"⟩
abbrev cX12_evenly : ByteArray := prog_14_method_67_code
def yX12_evenly : MethodName := ⟨RX12, "evenly", "(III)V"⟩
abbrev cX12_goesBy : ByteArray := prog_14_method_68_code
def yX12_goesBy : MethodName := ⟨RX12, "goesBy", "(III)V"⟩
abbrev cX12_partsGoods : ByteArray := prog_14_method_69_code
def yX12_partsGoods : MethodName := ⟨RX12, "partsGoods", "(II)V"⟩
abbrev cX12_die : ByteArray := prog_14_method_70_code
def yX12_die : MethodName := ⟨RX12, "die", "(I)I"⟩
abbrev cX12_settle : ByteArray := prog_14_method_71_code
def yX12_settle : MethodName := ⟨RX12, "settle", "(I)I"⟩
abbrev cX12_personOf : ByteArray := prog_14_method_72_code
def yX12_personOf : MethodName := ⟨RX12, "personOf", "(II)I"⟩
abbrev cX12_chest : ByteArray := prog_14_method_73_code
def yX12_chest : MethodName := ⟨RX12, "chest", "(I)I"⟩
abbrev cX12_way : ByteArray := prog_14_method_74_code
def yX12_way : MethodName := ⟨RX12, "way", "(II)I"⟩
abbrev cX12_findAnswers : ByteArray := prog_14_method_75_code
def yX12_findAnswers : MethodName := ⟨RX12, "findAnswers", "()V"⟩
abbrev cX12_keptBy : ByteArray := prog_14_method_76_code
def yX12_keptBy : MethodName := ⟨RX12, "keptBy", "()I"⟩
abbrev cX12_keeps : ByteArray := prog_14_method_77_code
def yX12_keeps : MethodName := ⟨RX12, "keeps", "(I)I"⟩
abbrev cX12_near : ByteArray := prog_14_method_78_code
def yX12_near : MethodName := ⟨RX12, "near", "(I)I"⟩
abbrev cX12_line : ByteArray := prog_14_method_79_code
def yX12_line : MethodName := ⟨RX12, "line", "(I)I"⟩
abbrev cX12_section : ByteArray := prog_14_method_80_code
def yX12_section : MethodName := ⟨RX12, "section", "()I"⟩
abbrev cX12_like : ByteArray := prog_14_method_81_code
def yX12_like : MethodName := ⟨RX12, "like", "(III)I"⟩
abbrev cX12_yesTo : ByteArray := prog_14_method_82_code
def yX12_yesTo : MethodName := ⟨RX12, "yesTo", "(I)I"⟩
abbrev cX12_yes : ByteArray := prog_14_method_83_code
def yX12_yes : MethodName := ⟨RX12, "yes", "(I)I"⟩
abbrev cX12_least : ByteArray := prog_14_method_84_code
def yX12_least : MethodName := ⟨RX12, "least", "(I)I"⟩
abbrev cX12_goesRound : ByteArray := prog_14_method_85_code
def yX12_goesRound : MethodName := ⟨RX12, "goesRound", "(II)Z"⟩
abbrev cX12_teach : ByteArray := prog_14_method_86_code
def yX12_teach : MethodName := ⟨RX12, "teach", "(III)I"⟩
abbrev cX12_mayNext : ByteArray := prog_14_method_87_code
def yX12_mayNext : MethodName := ⟨RX12, "mayNext", "(II)Z"⟩
abbrev cX12_timeOf : ByteArray := prog_14_method_88_code
def yX12_timeOf : MethodName := ⟨RX12, "timeOf", "(I)I"⟩
abbrev cX12_findRow : ByteArray := prog_14_method_89_code
def yX12_findRow : MethodName := ⟨RX12, "findRow", "()V"⟩
abbrev cX12_waits : ByteArray := prog_14_method_90_code
def yX12_waits : MethodName := ⟨RX12, "waits", "()I"⟩
abbrev cX12_taught : ByteArray := prog_14_method_91_code
def yX12_taught : MethodName := ⟨RX12, "taught", "(I)I"⟩
abbrev cX12_runs : ByteArray := prog_14_method_92_code
def yX12_runs : MethodName := ⟨RX12, "runs", "(I)V"⟩
abbrev cX12_holds10 : ByteArray := prog_14_method_93_code
def yX12_holds10 : MethodName := ⟨RX12, "holds10", "(I)I"⟩
abbrev cX12_actHolds : ByteArray := prog_14_method_94_code
def yX12_actHolds : MethodName := ⟨RX12, "actHolds", "(I)I"⟩
abbrev cX12_hangs11 : ByteArray := prog_14_method_95_code
def yX12_hangs11 : MethodName := ⟨RX12, "hangs11", "(I)I"⟩
abbrev cX12_hangs20 : ByteArray := prog_14_method_96_code
def yX12_hangs20 : MethodName := ⟨RX12, "hangs20", "(I)I"⟩
abbrev cX12_actHangs : ByteArray := prog_14_method_97_code
def yX12_actHangs : MethodName := ⟨RX12, "actHangs", "(I)I"⟩
abbrev cX12_saves12 : ByteArray := prog_14_method_98_code
def yX12_saves12 : MethodName := ⟨RX12, "saves12", "(I)I"⟩
abbrev cX12_actSaves : ByteArray := prog_14_method_99_code
def yX12_actSaves : MethodName := ⟨RX12, "actSaves", "(I)I"⟩
abbrev cX12_act : ByteArray := prog_14_method_100_code
def yX12_act : MethodName := ⟨RX12, "act", "(III)I"⟩
abbrev cX12_trace : ByteArray := prog_14_method_101_code
def yX12_trace : MethodName := ⟨RX12, "trace", "(I)I"⟩
abbrev cX12_above : ByteArray := prog_14_method_102_code
def yX12_above : MethodName := ⟨RX12, "above", "(I)I"⟩
abbrev cX12_taken : ByteArray := prog_14_method_103_code
def yX12_taken : MethodName := ⟨RX12, "taken", "(II)I"⟩
abbrev cX12_count : ByteArray := prog_14_method_104_code
def yX12_count : MethodName := ⟨RX12, "count", "(I)I"⟩
abbrev cX12_sheet : ByteArray := prog_14_method_105_code
def yX12_sheet : MethodName := ⟨RX12, "sheet", "(III)I"⟩
abbrev cX12_cell : ByteArray := prog_14_method_106_code
def yX12_cell : MethodName := ⟨RX12, "cell", "(III)I"⟩
abbrev cX12_copy : ByteArray := prog_14_method_107_code
def yX12_copy : MethodName := ⟨RX12, "copy", "(IIIII)I"⟩
def RJx145de : String := "java/io/Serializable"
def TJx145de : u_T := fun k => match k with
  | _ => ("", "", "", false)
def tyJx145de : Nat → FieldType := fun k => match k with
  | _ => .int
abbrev wsJx145de0 : List Cond := u_ws RJx145de TJx145de 0
theorem nmJx145de : ∀ a, a < 0 → ∀ b, b < 0 → a ≠ b → (TJx145de a).2.1 ≠ (TJx145de b).2.1 := by decide +kernel
theorem tyJx145de_ok : ∀ k, k < 0 → parseFieldDescriptor (TJx145de k).2.2.1 = some (tyJx145de k) := by decide +kernel
def RJx9f9b0 : String := "java/lang/CharSequence"
def TJx9f9b0 : u_T := fun k => match k with
  | _ => ("", "", "", false)
def tyJx9f9b0 : Nat → FieldType := fun k => match k with
  | _ => .int
abbrev wsJx9f9b00 : List Cond := u_ws RJx9f9b0 TJx9f9b0 0
theorem nmJx9f9b0 : ∀ a, a < 0 → ∀ b, b < 0 → a ≠ b → (TJx9f9b0 a).2.1 ≠ (TJx9f9b0 b).2.1 := by decide +kernel
theorem tyJx9f9b0_ok : ∀ k, k < 0 → parseFieldDescriptor (TJx9f9b0 k).2.2.1 = some (tyJx9f9b0 k) := by decide +kernel
def RJxb160c : String := "java/lang/Comparable"
def TJxb160c : u_T := fun k => match k with
  | _ => ("", "", "", false)
def tyJxb160c : Nat → FieldType := fun k => match k with
  | _ => .int
abbrev wsJxb160c0 : List Cond := u_ws RJxb160c TJxb160c 0
theorem nmJxb160c : ∀ a, a < 0 → ∀ b, b < 0 → a ≠ b → (TJxb160c a).2.1 ≠ (TJxb160c b).2.1 := by decide +kernel
theorem tyJxb160c_ok : ∀ k, k < 0 → parseFieldDescriptor (TJxb160c k).2.2.1 = some (tyJxb160c k) := by decide +kernel
def RJ6 : String := "java/lang/Integer"
def TJ6 : u_T := fun k => match k with
  | _ => ("", "", "", false)
def tyJ6 : Nat → FieldType := fun k => match k with
  | _ => .int
abbrev wsJ60 : List Cond := u_ws RJ6 TJ6 0
theorem nmJ6 : ∀ a, a < 0 → ∀ b, b < 0 → a ≠ b → (TJ6 a).2.1 ≠ (TJ6 b).2.1 := by decide +kernel
theorem tyJ6_ok : ∀ k, k < 0 → parseFieldDescriptor (TJ6 k).2.2.1 = some (tyJ6 k) := by decide +kernel
abbrev cJ6_bitCount_0f7a4 : ByteArray := prog_15_method_49_code
def yJ6_bitCount_0f7a4 : MethodName := ⟨RJ6, "bitCount", "(I)I"⟩
def RJ13 : String := "java/lang/Long"
def TJ13 : u_T := fun k => match k with
  | _ => ("", "", "", false)
def tyJ13 : Nat → FieldType := fun k => match k with
  | _ => .int
abbrev wsJ130 : List Cond := u_ws RJ13 TJ13 0
theorem nmJ13 : ∀ a, a < 0 → ∀ b, b < 0 → a ≠ b → (TJ13 a).2.1 ≠ (TJ13 b).2.1 := by decide +kernel
theorem tyJ13_ok : ∀ k, k < 0 → parseFieldDescriptor (TJ13 k).2.2.1 = some (tyJ13 k) := by decide +kernel
abbrev cJ13_bitCount_95d88 : ByteArray := prog_16_method_50_code
def yJ13_bitCount_95d88 : MethodName := ⟨RJ13, "bitCount", "(J)I"⟩
def RJ9 : String := "java/lang/Math"
def TJ9 : u_T := fun k => match k with
  | _ => ("", "", "", false)
def tyJ9 : Nat → FieldType := fun k => match k with
  | _ => .int
abbrev wsJ90 : List Cond := u_ws RJ9 TJ9 0
theorem nmJ9 : ∀ a, a < 0 → ∀ b, b < 0 → a ≠ b → (TJ9 a).2.1 ≠ (TJ9 b).2.1 := by decide +kernel
theorem tyJ9_ok : ∀ k, k < 0 → parseFieldDescriptor (TJ9 k).2.2.1 = some (tyJ9 k) := by decide +kernel
abbrev cJ9_max_7cf53 : ByteArray := prog_17_method_65_code
def yJ9_max_7cf53 : MethodName := ⟨RJ9, "max", "(II)I"⟩
abbrev cJ9_min_7cf53 : ByteArray := prog_17_method_69_code
def yJ9_min_7cf53 : MethodName := ⟨RJ9, "min", "(II)I"⟩
def RJ0 : String := "java/lang/String"
def TJ0 : u_T := fun k => match k with
  | _ => ("", "", "", false)
def tyJ0 : Nat → FieldType := fun k => match k with
  | _ => .int
abbrev wsJ00 : List Cond := u_ws RJ0 TJ0 0
theorem nmJ0 : ∀ a, a < 0 → ∀ b, b < 0 → a ≠ b → (TJ0 a).2.1 ≠ (TJ0 b).2.1 := by decide +kernel
theorem tyJ0_ok : ∀ k, k < 0 → parseFieldDescriptor (TJ0 k).2.2.1 = some (tyJ0 k) := by decide +kernel
abbrev cJ0_length_8abf5 : ByteArray := prog_18_method_54_code
def yJ0_length_8abf5 : MethodName := ⟨RJ0, "length", "()I"⟩
abbrev cJ0_charAt_5068e : ByteArray := prog_18_method_56_code
def yJ0_charAt_5068e : MethodName := ⟨RJ0, "charAt", "(I)C"⟩
abbrev cJ0_coder_7d493 : ByteArray := prog_18_method_152_code
def yJ0_coder_7d493 : MethodName := ⟨RJ0, "coder", "()B"⟩
abbrev cJ0_isLatin1_aae02 : ByteArray := prog_18_method_154_code
def yJ0_isLatin1_aae02 : MethodName := ⟨RJ0, "isLatin1", "()Z"⟩
abbrev cJ0_checkIndex_df160 : ByteArray := prog_18_method_155_code
def yJ0_checkIndex_df160 : MethodName := ⟨RJ0, "checkIndex", "(II)V"⟩
def RJ1 : String := "java/lang/StringLatin1"
def TJ1 : u_T := fun k => match k with
  | _ => ("", "", "", false)
def tyJ1 : Nat → FieldType := fun k => match k with
  | _ => .int
abbrev wsJ10 : List Cond := u_ws RJ1 TJ1 0
theorem nmJ1 : ∀ a, a < 0 → ∀ b, b < 0 → a ≠ b → (TJ1 a).2.1 ≠ (TJ1 b).2.1 := by decide +kernel
theorem tyJ1_ok : ∀ k, k < 0 → parseFieldDescriptor (TJ1 k).2.2.1 = some (tyJ1 k) := by decide +kernel
abbrev cJ1_charAt_3b067 : ByteArray := prog_19_method_2_code
def yJ1_charAt_3b067 : MethodName := ⟨RJ1, "charAt", "([BI)C"⟩
def RJ2 : String := "java/lang/StringUTF16"
def TJ2 : u_T := fun k => match k with
  | _ => ("", "", "", false)
def tyJ2 : Nat → FieldType := fun k => match k with
  | _ => .int
abbrev wsJ20 : List Cond := u_ws RJ2 TJ2 0
theorem nmJ2 : ∀ a, a < 0 → ∀ b, b < 0 → a ≠ b → (TJ2 a).2.1 ≠ (TJ2 b).2.1 := by decide +kernel
theorem tyJ2_ok : ∀ k, k < 0 → parseFieldDescriptor (TJ2 k).2.2.1 = some (tyJ2 k) := by decide +kernel
abbrev cJ2_getChar_3b067 : ByteArray := prog_20_method_5_code
def yJ2_getChar_3b067 : MethodName := ⟨RJ2, "getChar", "([BI)C"⟩
abbrev cJ2_length_9d52b : ByteArray := prog_20_method_6_code
def yJ2_length_9d52b : MethodName := ⟨RJ2, "length", "([B)I"⟩
abbrev cJ2_charAt_3b067 : ByteArray := prog_20_method_83_code
def yJ2_charAt_3b067 : MethodName := ⟨RJ2, "charAt", "([BI)C"⟩
abbrev cJ2_checkIndex_2214a : ByteArray := prog_20_method_91_code
def yJ2_checkIndex_2214a : MethodName := ⟨RJ2, "checkIndex", "(I[B)V"⟩
def RJ10 : String := "java/lang/System"
def TJ10 : u_T := fun k => match k with
  | _ => ("", "", "", false)
def tyJ10 : Nat → FieldType := fun k => match k with
  | _ => .int
abbrev wsJ100 : List Cond := u_ws RJ10 TJ10 0
theorem nmJ10 : ∀ a, a < 0 → ∀ b, b < 0 → a ≠ b → (TJ10 a).2.1 ≠ (TJ10 b).2.1 := by decide +kernel
theorem tyJ10_ok : ∀ k, k < 0 → parseFieldDescriptor (TJ10 k).2.2.1 = some (tyJ10 k) := by decide +kernel
def RJxfd54e : String := "java/lang/constant/Constable"
def TJxfd54e : u_T := fun k => match k with
  | _ => ("", "", "", false)
def tyJxfd54e : Nat → FieldType := fun k => match k with
  | _ => .int
abbrev wsJxfd54e0 : List Cond := u_ws RJxfd54e TJxfd54e 0
theorem nmJxfd54e : ∀ a, a < 0 → ∀ b, b < 0 → a ≠ b → (TJxfd54e a).2.1 ≠ (TJxfd54e b).2.1 := by decide +kernel
theorem tyJxfd54e_ok : ∀ k, k < 0 → parseFieldDescriptor (TJxfd54e k).2.2.1 = some (tyJxfd54e k) := by decide +kernel
def RJx3cf43 : String := "java/lang/constant/ConstantDesc"
def TJx3cf43 : u_T := fun k => match k with
  | _ => ("", "", "", false)
def tyJx3cf43 : Nat → FieldType := fun k => match k with
  | _ => .int
abbrev wsJx3cf430 : List Cond := u_ws RJx3cf43 TJx3cf43 0
theorem nmJx3cf43 : ∀ a, a < 0 → ∀ b, b < 0 → a ≠ b → (TJx3cf43 a).2.1 ≠ (TJx3cf43 b).2.1 := by decide +kernel
theorem tyJx3cf43_ok : ∀ k, k < 0 → parseFieldDescriptor (TJx3cf43 k).2.2.1 = some (tyJx3cf43 k) := by decide +kernel
def RJ7 : String := "java/util/Arrays"
def TJ7 : u_T := fun k => match k with
  | _ => ("", "", "", false)
def tyJ7 : Nat → FieldType := fun k => match k with
  | _ => .int
abbrev wsJ70 : List Cond := u_ws RJ7 TJ7 0
theorem nmJ7 : ∀ a, a < 0 → ∀ b, b < 0 → a ≠ b → (TJ7 a).2.1 ≠ (TJ7 b).2.1 := by decide +kernel
theorem tyJ7_ok : ∀ k, k < 0 → parseFieldDescriptor (TJ7 k).2.2.1 = some (tyJ7 k) := by decide +kernel
abbrev cJ7_fill_d0a16 : ByteArray := prog_22_method_101_code
def yJ7_fill_d0a16 : MethodName := ⟨RJ7, "fill", "([JJ)V"⟩
abbrev cJ7_fill_53178 : ByteArray := prog_22_method_103_code
def yJ7_fill_53178 : MethodName := ⟨RJ7, "fill", "([II)V"⟩
def RJ3 : String := "jdk/internal/util/Preconditions"
def TJ3 : u_T := fun k => match k with
  | _ => ("", "", "", false)
def tyJ3 : Nat → FieldType := fun k => match k with
  | _ => .int
abbrev wsJ30 : List Cond := u_ws RJ3 TJ3 0
theorem nmJ3 : ∀ a, a < 0 → ∀ b, b < 0 → a ≠ b → (TJ3 a).2.1 ≠ (TJ3 b).2.1 := by decide +kernel
theorem tyJ3_ok : ∀ k, k < 0 → parseFieldDescriptor (TJ3 k).2.2.1 = some (tyJ3 k) := by decide +kernel
abbrev cJ3_checkIndex_8e157 : ByteArray := prog_23_method_11_code
def yJ3_checkIndex_8e157 : MethodName := ⟨RJ3, "checkIndex", "(IILjava/util/function/BiFunction;)I"⟩
def RL : String := "OneCodeLaw"
abbrev cL_law : ByteArray := code
def yL_law : MethodName := ⟨RL, "law", "([I)Z"⟩
