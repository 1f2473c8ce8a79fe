section
-- ===== PART A: goes FIRST, ahead of the names: the tables' words, and 'selects' of the private methods out of them =====
/-- a private method of a class that the tables say can be made, by its rows of tables_1 -/
def lw_okq (q : MethodName × Nat) : Prop := (q.1.cls ≠ "java/lang/invoke/MethodHandle" ∧ q.1.cls ≠ "java/lang/invoke/VarHandle") ∧ Cond.instantiable q.1.cls q.2 ∈ tables_1 ∧ Cond.privateMethod q.1 ∈ tables_1 ∧ Cond.instanceMethod q.1 ∈ tables_1
theorem lw_p0 : lw_okq (⟨"TownExchange$Calls", "hold", "(LTownExchange$Line;II)V"⟩, 4) := ⟨⟨by decide +kernel, by decide +kernel⟩, List.mem_of_getElem? (i := 85) (by decide +kernel), List.mem_of_getElem? (i := 526) (by decide +kernel), List.mem_of_getElem? (i := 527) (by decide +kernel)⟩
theorem lw_p1 : lw_okq (⟨"TownExchange$Calls", "stepFinal", "(LTownExchange$Line;I)V"⟩, 4) := ⟨⟨by decide +kernel, by decide +kernel⟩, List.mem_of_getElem? (i := 85) (by decide +kernel), List.mem_of_getElem? (i := 563) (by decide +kernel), List.mem_of_getElem? (i := 564) (by decide +kernel)⟩
theorem lw_p2 : lw_okq (⟨"TownExchange$Calls", "hunt", "(LTownExchange$Line;II)V"⟩, 4) := ⟨⟨by decide +kernel, by decide +kernel⟩, List.mem_of_getElem? (i := 85) (by decide +kernel), List.mem_of_getElem? (i := 572) (by decide +kernel), List.mem_of_getElem? (i := 573) (by decide +kernel)⟩
theorem lw_p3 : lw_okq (⟨"TownExchange$Tariff", "firstMet", "()I"⟩, 13) := ⟨⟨by decide +kernel, by decide +kernel⟩, List.mem_of_getElem? (i := 288) (by decide +kernel), List.mem_of_getElem? (i := 611) (by decide +kernel), List.mem_of_getElem? (i := 612) (by decide +kernel)⟩
theorem lw_p4 : lw_okq (⟨"TownExchange$Tariff", "resultOf", "(II)I"⟩, 13) := ⟨⟨by decide +kernel, by decide +kernel⟩, List.mem_of_getElem? (i := 288) (by decide +kernel), List.mem_of_getElem? (i := 615) (by decide +kernel), List.mem_of_getElem? (i := 616) (by decide +kernel)⟩
theorem lw_p5 : lw_okq (⟨"TownExchange$Tariff", "operand", "(I)I"⟩, 13) := ⟨⟨by decide +kernel, by decide +kernel⟩, List.mem_of_getElem? (i := 288) (by decide +kernel), List.mem_of_getElem? (i := 619) (by decide +kernel), List.mem_of_getElem? (i := 620) (by decide +kernel)⟩
theorem lw_p6 : lw_okq (⟨"TownExchange", "today", "()I"⟩, 10) := ⟨⟨by decide +kernel, by decide +kernel⟩, List.mem_of_getElem? (i := 28) (by decide +kernel), List.mem_of_getElem? (i := 627) (by decide +kernel), List.mem_of_getElem? (i := 628) (by decide +kernel)⟩
theorem lw_p7 : lw_okq (⟨"TownExchange$Tape", "runFrom", "(ICC)I"⟩, 6) := ⟨⟨by decide +kernel, by decide +kernel⟩, List.mem_of_getElem? (i := 260) (by decide +kernel), List.mem_of_getElem? (i := 676) (by decide +kernel), List.mem_of_getElem? (i := 677) (by decide +kernel)⟩
theorem lw_p8 : lw_okq (⟨"TownExchange$Tape", "wordRead", "()LTownExchange$Word;"⟩, 6) := ⟨⟨by decide +kernel, by decide +kernel⟩, List.mem_of_getElem? (i := 260) (by decide +kernel), List.mem_of_getElem? (i := 683) (by decide +kernel), List.mem_of_getElem? (i := 684) (by decide +kernel)⟩
theorem lw_p9 : lw_okq (⟨"TownExchange$Tariff", "passFirst", "()Z"⟩, 13) := ⟨⟨by decide +kernel, by decide +kernel⟩, List.mem_of_getElem? (i := 288) (by decide +kernel), List.mem_of_getElem? (i := 806) (by decide +kernel), List.mem_of_getElem? (i := 807) (by decide +kernel)⟩
theorem lw_p10 : lw_okq (⟨"TownExchange$Tariff", "fail", "(I)Z"⟩, 13) := ⟨⟨by decide +kernel, by decide +kernel⟩, List.mem_of_getElem? (i := 288) (by decide +kernel), List.mem_of_getElem? (i := 812) (by decide +kernel), List.mem_of_getElem? (i := 813) (by decide +kernel)⟩
theorem lw_p11 : lw_okq (⟨"TownExchange$Tariff", "readLet", "()Z"⟩, 13) := ⟨⟨by decide +kernel, by decide +kernel⟩, List.mem_of_getElem? (i := 288) (by decide +kernel), List.mem_of_getElem? (i := 817) (by decide +kernel), List.mem_of_getElem? (i := 818) (by decide +kernel)⟩
theorem lw_p12 : lw_okq (⟨"TownExchange$Tariff", "slotOf", "(J)I"⟩, 13) := ⟨⟨by decide +kernel, by decide +kernel⟩, List.mem_of_getElem? (i := 288) (by decide +kernel), List.mem_of_getElem? (i := 830) (by decide +kernel), List.mem_of_getElem? (i := 831) (by decide +kernel)⟩
theorem lw_p13 : lw_okq (⟨"TownExchange$Tariff", "passSign", "(C)Z"⟩, 13) := ⟨⟨by decide +kernel, by decide +kernel⟩, List.mem_of_getElem? (i := 288) (by decide +kernel), List.mem_of_getElem? (i := 834) (by decide +kernel), List.mem_of_getElem? (i := 835) (by decide +kernel)⟩
theorem lw_p14 : lw_okq (⟨"TownExchange$Tariff", "readOperations", "(II)Z"⟩, 13) := ⟨⟨by decide +kernel, by decide +kernel⟩, List.mem_of_getElem? (i := 288) (by decide +kernel), List.mem_of_getElem? (i := 842) (by decide +kernel), List.mem_of_getElem? (i := 843) (by decide +kernel)⟩
theorem lw_p15 : lw_okq (⟨"TownExchange$Tariff", "readPart", "(I)Z"⟩, 13) := ⟨⟨by decide +kernel, by decide +kernel⟩, List.mem_of_getElem? (i := 288) (by decide +kernel), List.mem_of_getElem? (i := 846) (by decide +kernel), List.mem_of_getElem? (i := 847) (by decide +kernel)⟩
def lw_privs_1 : List (MethodName × Nat) := [(⟨"TownExchange$Calls", "hold", "(LTownExchange$Line;II)V"⟩, 4), (⟨"TownExchange$Calls", "stepFinal", "(LTownExchange$Line;I)V"⟩, 4), (⟨"TownExchange$Calls", "hunt", "(LTownExchange$Line;II)V"⟩, 4), (⟨"TownExchange$Tariff", "firstMet", "()I"⟩, 13), (⟨"TownExchange$Tariff", "resultOf", "(II)I"⟩, 13), (⟨"TownExchange$Tariff", "operand", "(I)I"⟩, 13), (⟨"TownExchange", "today", "()I"⟩, 10), (⟨"TownExchange$Tape", "runFrom", "(ICC)I"⟩, 6), (⟨"TownExchange$Tape", "wordRead", "()LTownExchange$Word;"⟩, 6), (⟨"TownExchange$Tariff", "passFirst", "()Z"⟩, 13), (⟨"TownExchange$Tariff", "fail", "(I)Z"⟩, 13), (⟨"TownExchange$Tariff", "readLet", "()Z"⟩, 13), (⟨"TownExchange$Tariff", "slotOf", "(J)I"⟩, 13), (⟨"TownExchange$Tariff", "passSign", "(C)Z"⟩, 13), (⟨"TownExchange$Tariff", "readOperations", "(II)Z"⟩, 13), (⟨"TownExchange$Tariff", "readPart", "(I)Z"⟩, 13)]
theorem lw_r1 : ∀ q ∈ lw_privs_1, lw_okq q := List.forall_mem_cons.mpr ⟨lw_p0, List.forall_mem_cons.mpr ⟨lw_p1, List.forall_mem_cons.mpr ⟨lw_p2, List.forall_mem_cons.mpr ⟨lw_p3, List.forall_mem_cons.mpr ⟨lw_p4, List.forall_mem_cons.mpr ⟨lw_p5, List.forall_mem_cons.mpr ⟨lw_p6, List.forall_mem_cons.mpr ⟨lw_p7, List.forall_mem_cons.mpr ⟨lw_p8, List.forall_mem_cons.mpr ⟨lw_p9, List.forall_mem_cons.mpr ⟨lw_p10, List.forall_mem_cons.mpr ⟨lw_p11, List.forall_mem_cons.mpr ⟨lw_p12, List.forall_mem_cons.mpr ⟨lw_p13, List.forall_mem_cons.mpr ⟨lw_p14, List.forall_mem_cons.mpr ⟨lw_p15, fun _ h => absurd h List.not_mem_nil⟩⟩⟩⟩⟩⟩⟩⟩⟩⟩⟩⟩⟩⟩⟩⟩
theorem lw_p16 : lw_okq (⟨"TownExchange$Tariff", "readWithin", "(ZI)Z"⟩, 13) := ⟨⟨by decide +kernel, by decide +kernel⟩, List.mem_of_getElem? (i := 288) (by decide +kernel), List.mem_of_getElem? (i := 860) (by decide +kernel), List.mem_of_getElem? (i := 861) (by decide +kernel)⟩
theorem lw_p17 : lw_okq (⟨"TownExchange$Tariff", "put", "(I)V"⟩, 13) := ⟨⟨by decide +kernel, by decide +kernel⟩, List.mem_of_getElem? (i := 288) (by decide +kernel), List.mem_of_getElem? (i := 864) (by decide +kernel), List.mem_of_getElem? (i := 865) (by decide +kernel)⟩
theorem lw_p18 : lw_okq (⟨"TownExchange$Tariff", "operationAt", "(I)I"⟩, 13) := ⟨⟨by decide +kernel, by decide +kernel⟩, List.mem_of_getElem? (i := 288) (by decide +kernel), List.mem_of_getElem? (i := 872) (by decide +kernel), List.mem_of_getElem? (i := 873) (by decide +kernel)⟩
theorem lw_p19 : lw_okq (⟨"TownExchange$Tariff", "readUnit", "()Z"⟩, 13) := ⟨⟨by decide +kernel, by decide +kernel⟩, List.mem_of_getElem? (i := 288) (by decide +kernel), List.mem_of_getElem? (i := 880) (by decide +kernel), List.mem_of_getElem? (i := 881) (by decide +kernel)⟩
theorem lw_p20 : lw_okq (⟨"TownExchange$Tariff", "isNumberWithin", "(II)Z"⟩, 13) := ⟨⟨by decide +kernel, by decide +kernel⟩, List.mem_of_getElem? (i := 288) (by decide +kernel), List.mem_of_getElem? (i := 884) (by decide +kernel), List.mem_of_getElem? (i := 885) (by decide +kernel)⟩
theorem lw_p21 : lw_okq (⟨"TownExchange$Tariff", "passWord", "(LTownExchange$Word;)Z"⟩, 13) := ⟨⟨by decide +kernel, by decide +kernel⟩, List.mem_of_getElem? (i := 288) (by decide +kernel), List.mem_of_getElem? (i := 890) (by decide +kernel), List.mem_of_getElem? (i := 891) (by decide +kernel)⟩
theorem lw_p22 : lw_okq (⟨"TownExchange$Ledger", "unitsKnown", "(II)I"⟩, 9) := ⟨⟨by decide +kernel, by decide +kernel⟩, List.mem_of_getElem? (i := 224) (by decide +kernel), List.mem_of_getElem? (i := 914) (by decide +kernel), List.mem_of_getElem? (i := 915) (by decide +kernel)⟩
theorem lw_p23 : lw_okq (⟨"TownExchange", "mayDial", "(III)Z"⟩, 10) := ⟨⟨by decide +kernel, by decide +kernel⟩, List.mem_of_getElem? (i := 28) (by decide +kernel), List.mem_of_getElem? (i := 922) (by decide +kernel), List.mem_of_getElem? (i := 923) (by decide +kernel)⟩
theorem lw_p24 : lw_okq (⟨"TownExchange", "blocksNext", "(IIIIII)Z"⟩, 10) := ⟨⟨by decide +kernel, by decide +kernel⟩, List.mem_of_getElem? (i := 28) (by decide +kernel), List.mem_of_getElem? (i := 943) (by decide +kernel), List.mem_of_getElem? (i := 944) (by decide +kernel)⟩
theorem lw_p25 : lw_okq (⟨"TownExchange$Relay", "canLay", "(LTownExchange$Wish;)Z"⟩, 6) := ⟨⟨by decide +kernel, by decide +kernel⟩, List.mem_of_getElem? (i := 111) (by decide +kernel), List.mem_of_getElem? (i := 961) (by decide +kernel), List.mem_of_getElem? (i := 962) (by decide +kernel)⟩
theorem lw_p26 : lw_okq (⟨"TownExchange$Relay", "layOver", "(LTownExchange$Wish;II)Z"⟩, 6) := ⟨⟨by decide +kernel, by decide +kernel⟩, List.mem_of_getElem? (i := 111) (by decide +kernel), List.mem_of_getElem? (i := 965) (by decide +kernel), List.mem_of_getElem? (i := 966) (by decide +kernel)⟩
theorem lw_p27 : lw_okq (⟨"TownExchange$Relay", "goesOn", "(LTownExchange$Wish;II)Z"⟩, 6) := ⟨⟨by decide +kernel, by decide +kernel⟩, List.mem_of_getElem? (i := 111) (by decide +kernel), List.mem_of_getElem? (i := 971) (by decide +kernel), List.mem_of_getElem? (i := 972) (by decide +kernel)⟩
theorem lw_p28 : lw_okq (⟨"TownExchange$Relay", "restIsLaid", "(LTownExchange$Wish;)Z"⟩, 6) := ⟨⟨by decide +kernel, by decide +kernel⟩, List.mem_of_getElem? (i := 111) (by decide +kernel), List.mem_of_getElem? (i := 980) (by decide +kernel), List.mem_of_getElem? (i := 981) (by decide +kernel)⟩
theorem lw_p29 : lw_okq (⟨"TownExchange$Relay", "laysBoth", "(LTownExchange$Line;)Z"⟩, 6) := ⟨⟨by decide +kernel, by decide +kernel⟩, List.mem_of_getElem? (i := 111) (by decide +kernel), List.mem_of_getElem? (i := 995) (by decide +kernel), List.mem_of_getElem? (i := 996) (by decide +kernel)⟩
theorem lw_p30 : lw_okq (⟨"TownExchange$Loss", "countEnd", "(IIII)V"⟩, 4) := ⟨⟨by decide +kernel, by decide +kernel⟩, List.mem_of_getElem? (i := 163) (by decide +kernel), List.mem_of_getElem? (i := 1016) (by decide +kernel), List.mem_of_getElem? (i := 1017) (by decide +kernel)⟩
theorem lw_p31 : lw_okq (⟨"TownExchange$Loss", "leadsWithin", "(IIIII)Z"⟩, 4) := ⟨⟨by decide +kernel, by decide +kernel⟩, List.mem_of_getElem? (i := 163) (by decide +kernel), List.mem_of_getElem? (i := 1025) (by decide +kernel), List.mem_of_getElem? (i := 1026) (by decide +kernel)⟩
def lw_privs_2 : List (MethodName × Nat) := [(⟨"TownExchange$Tariff", "readWithin", "(ZI)Z"⟩, 13), (⟨"TownExchange$Tariff", "put", "(I)V"⟩, 13), (⟨"TownExchange$Tariff", "operationAt", "(I)I"⟩, 13), (⟨"TownExchange$Tariff", "readUnit", "()Z"⟩, 13), (⟨"TownExchange$Tariff", "isNumberWithin", "(II)Z"⟩, 13), (⟨"TownExchange$Tariff", "passWord", "(LTownExchange$Word;)Z"⟩, 13), (⟨"TownExchange$Ledger", "unitsKnown", "(II)I"⟩, 9), (⟨"TownExchange", "mayDial", "(III)Z"⟩, 10), (⟨"TownExchange", "blocksNext", "(IIIIII)Z"⟩, 10), (⟨"TownExchange$Relay", "canLay", "(LTownExchange$Wish;)Z"⟩, 6), (⟨"TownExchange$Relay", "layOver", "(LTownExchange$Wish;II)Z"⟩, 6), (⟨"TownExchange$Relay", "goesOn", "(LTownExchange$Wish;II)Z"⟩, 6), (⟨"TownExchange$Relay", "restIsLaid", "(LTownExchange$Wish;)Z"⟩, 6), (⟨"TownExchange$Relay", "laysBoth", "(LTownExchange$Line;)Z"⟩, 6), (⟨"TownExchange$Loss", "countEnd", "(IIII)V"⟩, 4), (⟨"TownExchange$Loss", "leadsWithin", "(IIIII)Z"⟩, 4)]
theorem lw_r2 : ∀ q ∈ lw_privs_2, lw_okq q := List.forall_mem_cons.mpr ⟨lw_p16, List.forall_mem_cons.mpr ⟨lw_p17, List.forall_mem_cons.mpr ⟨lw_p18, List.forall_mem_cons.mpr ⟨lw_p19, List.forall_mem_cons.mpr ⟨lw_p20, List.forall_mem_cons.mpr ⟨lw_p21, List.forall_mem_cons.mpr ⟨lw_p22, List.forall_mem_cons.mpr ⟨lw_p23, List.forall_mem_cons.mpr ⟨lw_p24, List.forall_mem_cons.mpr ⟨lw_p25, List.forall_mem_cons.mpr ⟨lw_p26, List.forall_mem_cons.mpr ⟨lw_p27, List.forall_mem_cons.mpr ⟨lw_p28, List.forall_mem_cons.mpr ⟨lw_p29, List.forall_mem_cons.mpr ⟨lw_p30, List.forall_mem_cons.mpr ⟨lw_p31, fun _ h => absurd h List.not_mem_nil⟩⟩⟩⟩⟩⟩⟩⟩⟩⟩⟩⟩⟩⟩⟩⟩
theorem lw_p32 : lw_okq (⟨"TownExchange$Trouble", "markSound", "()V"⟩, 11) := ⟨⟨by decide +kernel, by decide +kernel⟩, List.mem_of_getElem? (i := 182) (by decide +kernel), List.mem_of_getElem? (i := 1064) (by decide +kernel), List.mem_of_getElem? (i := 1065) (by decide +kernel)⟩
theorem lw_p33 : lw_okq (⟨"TownExchange$Trouble", "choose", "(II)V"⟩, 11) := ⟨⟨by decide +kernel, by decide +kernel⟩, List.mem_of_getElem? (i := 182) (by decide +kernel), List.mem_of_getElem? (i := 1068) (by decide +kernel), List.mem_of_getElem? (i := 1069) (by decide +kernel)⟩
theorem lw_p34 : lw_okq (⟨"TownExchange$Trouble", "firstUnexplained", "(I)I"⟩, 11) := ⟨⟨by decide +kernel, by decide +kernel⟩, List.mem_of_getElem? (i := 182) (by decide +kernel), List.mem_of_getElem? (i := 1072) (by decide +kernel), List.mem_of_getElem? (i := 1073) (by decide +kernel)⟩
theorem lw_p35 : lw_okq (⟨"TownExchange$Trouble", "isExplained", "(II)Z"⟩, 11) := ⟨⟨by decide +kernel, by decide +kernel⟩, List.mem_of_getElem? (i := 182) (by decide +kernel), List.mem_of_getElem? (i := 1076) (by decide +kernel), List.mem_of_getElem? (i := 1077) (by decide +kernel)⟩
theorem lw_p36 : lw_okq (⟨"TownExchange$Trouble", "addSet", "(I)V"⟩, 11) := ⟨⟨by decide +kernel, by decide +kernel⟩, List.mem_of_getElem? (i := 182) (by decide +kernel), List.mem_of_getElem? (i := 1080) (by decide +kernel), List.mem_of_getElem? (i := 1081) (by decide +kernel)⟩
theorem lw_p37 : lw_okq (⟨"TownExchange$Trouble", "comesFirst", "(I)Z"⟩, 11) := ⟨⟨by decide +kernel, by decide +kernel⟩, List.mem_of_getElem? (i := 182) (by decide +kernel), List.mem_of_getElem? (i := 1084) (by decide +kernel), List.mem_of_getElem? (i := 1085) (by decide +kernel)⟩
theorem lw_p38 : lw_okq (⟨"java/lang/Throwable", "fillInStackTrace", "(I)Ljava/lang/Throwable;"⟩, 6) := ⟨⟨by decide +kernel, by decide +kernel⟩, List.mem_of_getElem? (i := 1179) (by decide +kernel), List.mem_of_getElem? (i := 1177) (by decide +kernel), List.mem_of_getElem? (i := 1178) (by decide +kernel)⟩
theorem lw_p39 : lw_okq (⟨"TownExchangeModel", "isSelectors", "(I)Z"⟩, 82) := ⟨⟨by decide +kernel, by decide +kernel⟩, List.mem_of_getElem? (i := 1213) (by decide +kernel), List.mem_of_getElem? (i := 1487) (by decide +kernel), List.mem_of_getElem? (i := 1488) (by decide +kernel)⟩
theorem lw_p40 : lw_okq (⟨"TownExchangeModel", "isEnd", "(I)Z"⟩, 82) := ⟨⟨by decide +kernel, by decide +kernel⟩, List.mem_of_getElem? (i := 1213) (by decide +kernel), List.mem_of_getElem? (i := 1491) (by decide +kernel), List.mem_of_getElem? (i := 1492) (by decide +kernel)⟩
theorem lw_p41 : lw_okq (⟨"TownExchangeModel", "isSwitch", "(I)Z"⟩, 82) := ⟨⟨by decide +kernel, by decide +kernel⟩, List.mem_of_getElem? (i := 1213) (by decide +kernel), List.mem_of_getElem? (i := 1495) (by decide +kernel), List.mem_of_getElem? (i := 1496) (by decide +kernel)⟩
theorem lw_p42 : lw_okq (⟨"TownExchangeModel", "lineOf", "(II)I"⟩, 82) := ⟨⟨by decide +kernel, by decide +kernel⟩, List.mem_of_getElem? (i := 1213) (by decide +kernel), List.mem_of_getElem? (i := 1510) (by decide +kernel), List.mem_of_getElem? (i := 1511) (by decide +kernel)⟩
theorem lw_p43 : lw_okq (⟨"TownExchangeModel", "isLine", "(I)Z"⟩, 82) := ⟨⟨by decide +kernel, by decide +kernel⟩, List.mem_of_getElem? (i := 1213) (by decide +kernel), List.mem_of_getElem? (i := 1526) (by decide +kernel), List.mem_of_getElem? (i := 1527) (by decide +kernel)⟩
theorem lw_p44 : lw_okq (⟨"TownExchangeModel", "firstFree", "(I)I"⟩, 82) := ⟨⟨by decide +kernel, by decide +kernel⟩, List.mem_of_getElem? (i := 1213) (by decide +kernel), List.mem_of_getElem? (i := 1530) (by decide +kernel), List.mem_of_getElem? (i := 1531) (by decide +kernel)⟩
theorem lw_p45 : lw_okq (⟨"TownExchangeModel", "isFree", "(I)Z"⟩, 82) := ⟨⟨by decide +kernel, by decide +kernel⟩, List.mem_of_getElem? (i := 1213) (by decide +kernel), List.mem_of_getElem? (i := 1534) (by decide +kernel), List.mem_of_getElem? (i := 1535) (by decide +kernel)⟩
theorem lw_p46 : lw_okq (⟨"TownExchangeModel", "hold", "(II)V"⟩, 82) := ⟨⟨by decide +kernel, by decide +kernel⟩, List.mem_of_getElem? (i := 1213) (by decide +kernel), List.mem_of_getElem? (i := 1538) (by decide +kernel), List.mem_of_getElem? (i := 1539) (by decide +kernel)⟩
theorem lw_p47 : lw_okq (⟨"TownExchangeModel", "head", "(I)I"⟩, 82) := ⟨⟨by decide +kernel, by decide +kernel⟩, List.mem_of_getElem? (i := 1213) (by decide +kernel), List.mem_of_getElem? (i := 1546) (by decide +kernel), List.mem_of_getElem? (i := 1547) (by decide +kernel)⟩
def lw_privs_3 : List (MethodName × Nat) := [(⟨"TownExchange$Trouble", "markSound", "()V"⟩, 11), (⟨"TownExchange$Trouble", "choose", "(II)V"⟩, 11), (⟨"TownExchange$Trouble", "firstUnexplained", "(I)I"⟩, 11), (⟨"TownExchange$Trouble", "isExplained", "(II)Z"⟩, 11), (⟨"TownExchange$Trouble", "addSet", "(I)V"⟩, 11), (⟨"TownExchange$Trouble", "comesFirst", "(I)Z"⟩, 11), (⟨"java/lang/Throwable", "fillInStackTrace", "(I)Ljava/lang/Throwable;"⟩, 6), (⟨"TownExchangeModel", "isSelectors", "(I)Z"⟩, 82), (⟨"TownExchangeModel", "isEnd", "(I)Z"⟩, 82), (⟨"TownExchangeModel", "isSwitch", "(I)Z"⟩, 82), (⟨"TownExchangeModel", "lineOf", "(II)I"⟩, 82), (⟨"TownExchangeModel", "isLine", "(I)Z"⟩, 82), (⟨"TownExchangeModel", "firstFree", "(I)I"⟩, 82), (⟨"TownExchangeModel", "isFree", "(I)Z"⟩, 82), (⟨"TownExchangeModel", "hold", "(II)V"⟩, 82), (⟨"TownExchangeModel", "head", "(I)I"⟩, 82)]
theorem lw_r3 : ∀ q ∈ lw_privs_3, lw_okq q := List.forall_mem_cons.mpr ⟨lw_p32, List.forall_mem_cons.mpr ⟨lw_p33, List.forall_mem_cons.mpr ⟨lw_p34, List.forall_mem_cons.mpr ⟨lw_p35, List.forall_mem_cons.mpr ⟨lw_p36, List.forall_mem_cons.mpr ⟨lw_p37, List.forall_mem_cons.mpr ⟨lw_p38, List.forall_mem_cons.mpr ⟨lw_p39, List.forall_mem_cons.mpr ⟨lw_p40, List.forall_mem_cons.mpr ⟨lw_p41, List.forall_mem_cons.mpr ⟨lw_p42, List.forall_mem_cons.mpr ⟨lw_p43, List.forall_mem_cons.mpr ⟨lw_p44, List.forall_mem_cons.mpr ⟨lw_p45, List.forall_mem_cons.mpr ⟨lw_p46, List.forall_mem_cons.mpr ⟨lw_p47, fun _ h => absurd h List.not_mem_nil⟩⟩⟩⟩⟩⟩⟩⟩⟩⟩⟩⟩⟩⟩⟩⟩
theorem lw_p48 : lw_okq (⟨"TownExchangeModel", "isEnding", "(I)Z"⟩, 82) := ⟨⟨by decide +kernel, by decide +kernel⟩, List.mem_of_getElem? (i := 1213) (by decide +kernel), List.mem_of_getElem? (i := 1550) (by decide +kernel), List.mem_of_getElem? (i := 1551) (by decide +kernel)⟩
theorem lw_p49 : lw_okq (⟨"TownExchangeModel", "goesTo", "(II)I"⟩, 82) := ⟨⟨by decide +kernel, by decide +kernel⟩, List.mem_of_getElem? (i := 1213) (by decide +kernel), List.mem_of_getElem? (i := 1554) (by decide +kernel), List.mem_of_getElem? (i := 1555) (by decide +kernel)⟩
theorem lw_p50 : lw_okq (⟨"TownExchangeModel", "unitsOf", "(I)I"⟩, 82) := ⟨⟨by decide +kernel, by decide +kernel⟩, List.mem_of_getElem? (i := 1213) (by decide +kernel), List.mem_of_getElem? (i := 1566) (by decide +kernel), List.mem_of_getElem? (i := 1567) (by decide +kernel)⟩
theorem lw_p51 : lw_okq (⟨"TownExchangeModel", "worth", "(I)I"⟩, 82) := ⟨⟨by decide +kernel, by decide +kernel⟩, List.mem_of_getElem? (i := 1213) (by decide +kernel), List.mem_of_getElem? (i := 1571) (by decide +kernel), List.mem_of_getElem? (i := 1572) (by decide +kernel)⟩
theorem lw_p52 : lw_okq (⟨"TownExchangeModel", "opens", "(I)V"⟩, 82) := ⟨⟨by decide +kernel, by decide +kernel⟩, List.mem_of_getElem? (i := 1213) (by decide +kernel), List.mem_of_getElem? (i := 1575) (by decide +kernel), List.mem_of_getElem? (i := 1576) (by decide +kernel)⟩
theorem lw_p53 : lw_okq (⟨"TownExchangeModel", "sums", "(I)V"⟩, 82) := ⟨⟨by decide +kernel, by decide +kernel⟩, List.mem_of_getElem? (i := 1213) (by decide +kernel), List.mem_of_getElem? (i := 1579) (by decide +kernel), List.mem_of_getElem? (i := 1580) (by decide +kernel)⟩
theorem lw_p54 : lw_okq (⟨"TownExchangeModel", "tests", "(I)V"⟩, 82) := ⟨⟨by decide +kernel, by decide +kernel⟩, List.mem_of_getElem? (i := 1213) (by decide +kernel), List.mem_of_getElem? (i := 1583) (by decide +kernel), List.mem_of_getElem? (i := 1584) (by decide +kernel)⟩
theorem lw_p55 : lw_okq (⟨"TownExchangeModel", "unitsBy", "(II)I"⟩, 82) := ⟨⟨by decide +kernel, by decide +kernel⟩, List.mem_of_getElem? (i := 1213) (by decide +kernel), List.mem_of_getElem? (i := 1595) (by decide +kernel), List.mem_of_getElem? (i := 1596) (by decide +kernel)⟩
theorem lw_p56 : lw_okq (⟨"TownExchangeModel", "next", "()V"⟩, 82) := ⟨⟨by decide +kernel, by decide +kernel⟩, List.mem_of_getElem? (i := 1213) (by decide +kernel), List.mem_of_getElem? (i := 1608) (by decide +kernel), List.mem_of_getElem? (i := 1609) (by decide +kernel)⟩
theorem lw_p57 : lw_okq (⟨"TownExchangeModel", "signAt", "(I)I"⟩, 82) := ⟨⟨by decide +kernel, by decide +kernel⟩, List.mem_of_getElem? (i := 1213) (by decide +kernel), List.mem_of_getElem? (i := 1612) (by decide +kernel), List.mem_of_getElem? (i := 1613) (by decide +kernel)⟩
theorem lw_p58 : lw_okq (⟨"TownExchangeModel", "readsLine", "()Z"⟩, 82) := ⟨⟨by decide +kernel, by decide +kernel⟩, List.mem_of_getElem? (i := 1213) (by decide +kernel), List.mem_of_getElem? (i := 1618) (by decide +kernel), List.mem_of_getElem? (i := 1619) (by decide +kernel)⟩
theorem lw_p59 : lw_okq (⟨"TownExchangeModel", "isWord", "(J)Z"⟩, 82) := ⟨⟨by decide +kernel, by decide +kernel⟩, List.mem_of_getElem? (i := 1213) (by decide +kernel), List.mem_of_getElem? (i := 1623) (by decide +kernel), List.mem_of_getElem? (i := 1624) (by decide +kernel)⟩
theorem lw_p60 : lw_okq (⟨"TownExchangeModel", "fails", "(I)Z"⟩, 82) := ⟨⟨by decide +kernel, by decide +kernel⟩, List.mem_of_getElem? (i := 1213) (by decide +kernel), List.mem_of_getElem? (i := 1628) (by decide +kernel), List.mem_of_getElem? (i := 1629) (by decide +kernel)⟩
theorem lw_p61 : lw_okq (⟨"TownExchangeModel", "isOwn", "()Z"⟩, 82) := ⟨⟨by decide +kernel, by decide +kernel⟩, List.mem_of_getElem? (i := 1213) (by decide +kernel), List.mem_of_getElem? (i := 1632) (by decide +kernel), List.mem_of_getElem? (i := 1633) (by decide +kernel)⟩
theorem lw_p62 : lw_okq (⟨"TownExchangeModel", "fact", "()I"⟩, 82) := ⟨⟨by decide +kernel, by decide +kernel⟩, List.mem_of_getElem? (i := 1213) (by decide +kernel), List.mem_of_getElem? (i := 1641) (by decide +kernel), List.mem_of_getElem? (i := 1642) (by decide +kernel)⟩
theorem lw_p63 : lw_okq (⟨"TownExchangeModel", "nameAt", "()I"⟩, 82) := ⟨⟨by decide +kernel, by decide +kernel⟩, List.mem_of_getElem? (i := 1213) (by decide +kernel), List.mem_of_getElem? (i := 1651) (by decide +kernel), List.mem_of_getElem? (i := 1652) (by decide +kernel)⟩
def lw_privs_4 : List (MethodName × Nat) := [(⟨"TownExchangeModel", "isEnding", "(I)Z"⟩, 82), (⟨"TownExchangeModel", "goesTo", "(II)I"⟩, 82), (⟨"TownExchangeModel", "unitsOf", "(I)I"⟩, 82), (⟨"TownExchangeModel", "worth", "(I)I"⟩, 82), (⟨"TownExchangeModel", "opens", "(I)V"⟩, 82), (⟨"TownExchangeModel", "sums", "(I)V"⟩, 82), (⟨"TownExchangeModel", "tests", "(I)V"⟩, 82), (⟨"TownExchangeModel", "unitsBy", "(II)I"⟩, 82), (⟨"TownExchangeModel", "next", "()V"⟩, 82), (⟨"TownExchangeModel", "signAt", "(I)I"⟩, 82), (⟨"TownExchangeModel", "readsLine", "()Z"⟩, 82), (⟨"TownExchangeModel", "isWord", "(J)Z"⟩, 82), (⟨"TownExchangeModel", "fails", "(I)Z"⟩, 82), (⟨"TownExchangeModel", "isOwn", "()Z"⟩, 82), (⟨"TownExchangeModel", "fact", "()I"⟩, 82), (⟨"TownExchangeModel", "nameAt", "()I"⟩, 82)]
theorem lw_r4 : ∀ q ∈ lw_privs_4, lw_okq q := List.forall_mem_cons.mpr ⟨lw_p48, List.forall_mem_cons.mpr ⟨lw_p49, List.forall_mem_cons.mpr ⟨lw_p50, List.forall_mem_cons.mpr ⟨lw_p51, List.forall_mem_cons.mpr ⟨lw_p52, List.forall_mem_cons.mpr ⟨lw_p53, List.forall_mem_cons.mpr ⟨lw_p54, List.forall_mem_cons.mpr ⟨lw_p55, List.forall_mem_cons.mpr ⟨lw_p56, List.forall_mem_cons.mpr ⟨lw_p57, List.forall_mem_cons.mpr ⟨lw_p58, List.forall_mem_cons.mpr ⟨lw_p59, List.forall_mem_cons.mpr ⟨lw_p60, List.forall_mem_cons.mpr ⟨lw_p61, List.forall_mem_cons.mpr ⟨lw_p62, List.forall_mem_cons.mpr ⟨lw_p63, fun _ h => absurd h List.not_mem_nil⟩⟩⟩⟩⟩⟩⟩⟩⟩⟩⟩⟩⟩⟩⟩⟩
theorem lw_p64 : lw_okq (⟨"TownExchangeModel", "isSign", "(I)Z"⟩, 82) := ⟨⟨by decide +kernel, by decide +kernel⟩, List.mem_of_getElem? (i := 1213) (by decide +kernel), List.mem_of_getElem? (i := 1655) (by decide +kernel), List.mem_of_getElem? (i := 1656) (by decide +kernel)⟩
theorem lw_p65 : lw_okq (⟨"TownExchangeModel", "reads", "(I)Z"⟩, 82) := ⟨⟨by decide +kernel, by decide +kernel⟩, List.mem_of_getElem? (i := 1213) (by decide +kernel), List.mem_of_getElem? (i := 1659) (by decide +kernel), List.mem_of_getElem? (i := 1660) (by decide +kernel)⟩
theorem lw_p66 : lw_okq (⟨"TownExchangeModel", "puts", "(I)V"⟩, 82) := ⟨⟨by decide +kernel, by decide +kernel⟩, List.mem_of_getElem? (i := 1213) (by decide +kernel), List.mem_of_getElem? (i := 1663) (by decide +kernel), List.mem_of_getElem? (i := 1664) (by decide +kernel)⟩
theorem lw_p67 : lw_okq (⟨"TownExchangeModel", "canTry", "(III)Z"⟩, 82) := ⟨⟨by decide +kernel, by decide +kernel⟩, List.mem_of_getElem? (i := 1213) (by decide +kernel), List.mem_of_getElem? (i := 1671) (by decide +kernel), List.mem_of_getElem? (i := 1672) (by decide +kernel)⟩
theorem lw_p68 : lw_okq (⟨"TownExchangeModel", "clears", "()V"⟩, 82) := ⟨⟨by decide +kernel, by decide +kernel⟩, List.mem_of_getElem? (i := 1213) (by decide +kernel), List.mem_of_getElem? (i := 1676) (by decide +kernel), List.mem_of_getElem? (i := 1677) (by decide +kernel)⟩
theorem lw_p69 : lw_okq (⟨"TownExchangeModel", "meets", "(III)I"⟩, 82) := ⟨⟨by decide +kernel, by decide +kernel⟩, List.mem_of_getElem? (i := 1213) (by decide +kernel), List.mem_of_getElem? (i := 1680) (by decide +kernel), List.mem_of_getElem? (i := 1681) (by decide +kernel)⟩
theorem lw_p70 : lw_okq (⟨"TownExchangeModel", "isQuiet", "(I)Z"⟩, 82) := ⟨⟨by decide +kernel, by decide +kernel⟩, List.mem_of_getElem? (i := 1213) (by decide +kernel), List.mem_of_getElem? (i := 1684) (by decide +kernel), List.mem_of_getElem? (i := 1685) (by decide +kernel)⟩
theorem lw_p71 : lw_okq (⟨"TownExchangeModel", "tries", "(I)V"⟩, 82) := ⟨⟨by decide +kernel, by decide +kernel⟩, List.mem_of_getElem? (i := 1213) (by decide +kernel), List.mem_of_getElem? (i := 1688) (by decide +kernel), List.mem_of_getElem? (i := 1689) (by decide +kernel)⟩
theorem lw_p72 : lw_okq (⟨"TownExchangeModel", "canLay", "(IIII)Z"⟩, 82) := ⟨⟨by decide +kernel, by decide +kernel⟩, List.mem_of_getElem? (i := 1213) (by decide +kernel), List.mem_of_getElem? (i := 1703) (by decide +kernel), List.mem_of_getElem? (i := 1704) (by decide +kernel)⟩
theorem lw_p73 : lw_okq (⟨"TownExchangeModel", "lays", "(IIIIII)I"⟩, 82) := ⟨⟨by decide +kernel, by decide +kernel⟩, List.mem_of_getElem? (i := 1213) (by decide +kernel), List.mem_of_getElem? (i := 1707) (by decide +kernel), List.mem_of_getElem? (i := 1708) (by decide +kernel)⟩
theorem lw_p74 : lw_okq (⟨"TownExchangeModel", "mayUse", "(II)Z"⟩, 82) := ⟨⟨by decide +kernel, by decide +kernel⟩, List.mem_of_getElem? (i := 1213) (by decide +kernel), List.mem_of_getElem? (i := 1711) (by decide +kernel), List.mem_of_getElem? (i := 1712) (by decide +kernel)⟩
theorem lw_p75 : lw_okq (⟨"TownExchangeModel", "takes", "(I)V"⟩, 82) := ⟨⟨by decide +kernel, by decide +kernel⟩, List.mem_of_getElem? (i := 1213) (by decide +kernel), List.mem_of_getElem? (i := 1715) (by decide +kernel), List.mem_of_getElem? (i := 1716) (by decide +kernel)⟩
theorem lw_p76 : lw_okq (⟨"TownExchangeModel", "gives", "()V"⟩, 82) := ⟨⟨by decide +kernel, by decide +kernel⟩, List.mem_of_getElem? (i := 1213) (by decide +kernel), List.mem_of_getElem? (i := 1719) (by decide +kernel), List.mem_of_getElem? (i := 1720) (by decide +kernel)⟩
theorem lw_p77 : lw_okq (⟨"TownExchangeModel", "counts", "(III)Z"⟩, 82) := ⟨⟨by decide +kernel, by decide +kernel⟩, List.mem_of_getElem? (i := 1213) (by decide +kernel), List.mem_of_getElem? (i := 1723) (by decide +kernel), List.mem_of_getElem? (i := 1724) (by decide +kernel)⟩
theorem lw_p78 : lw_okq (⟨"TownExchangeModel", "canMove", "(IIII)Z"⟩, 82) := ⟨⟨by decide +kernel, by decide +kernel⟩, List.mem_of_getElem? (i := 1213) (by decide +kernel), List.mem_of_getElem? (i := 1727) (by decide +kernel), List.mem_of_getElem? (i := 1728) (by decide +kernel)⟩
theorem lw_p79 : lw_okq (⟨"TownExchangeModel", "canLose", "(III)Z"⟩, 82) := ⟨⟨by decide +kernel, by decide +kernel⟩, List.mem_of_getElem? (i := 1213) (by decide +kernel), List.mem_of_getElem? (i := 1735) (by decide +kernel), List.mem_of_getElem? (i := 1736) (by decide +kernel)⟩
def lw_privs_5 : List (MethodName × Nat) := [(⟨"TownExchangeModel", "isSign", "(I)Z"⟩, 82), (⟨"TownExchangeModel", "reads", "(I)Z"⟩, 82), (⟨"TownExchangeModel", "puts", "(I)V"⟩, 82), (⟨"TownExchangeModel", "canTry", "(III)Z"⟩, 82), (⟨"TownExchangeModel", "clears", "()V"⟩, 82), (⟨"TownExchangeModel", "meets", "(III)I"⟩, 82), (⟨"TownExchangeModel", "isQuiet", "(I)Z"⟩, 82), (⟨"TownExchangeModel", "tries", "(I)V"⟩, 82), (⟨"TownExchangeModel", "canLay", "(IIII)Z"⟩, 82), (⟨"TownExchangeModel", "lays", "(IIIIII)I"⟩, 82), (⟨"TownExchangeModel", "mayUse", "(II)Z"⟩, 82), (⟨"TownExchangeModel", "takes", "(I)V"⟩, 82), (⟨"TownExchangeModel", "gives", "()V"⟩, 82), (⟨"TownExchangeModel", "counts", "(III)Z"⟩, 82), (⟨"TownExchangeModel", "canMove", "(IIII)Z"⟩, 82), (⟨"TownExchangeModel", "canLose", "(III)Z"⟩, 82)]
theorem lw_r5 : ∀ q ∈ lw_privs_5, lw_okq q := List.forall_mem_cons.mpr ⟨lw_p64, List.forall_mem_cons.mpr ⟨lw_p65, List.forall_mem_cons.mpr ⟨lw_p66, List.forall_mem_cons.mpr ⟨lw_p67, List.forall_mem_cons.mpr ⟨lw_p68, List.forall_mem_cons.mpr ⟨lw_p69, List.forall_mem_cons.mpr ⟨lw_p70, List.forall_mem_cons.mpr ⟨lw_p71, List.forall_mem_cons.mpr ⟨lw_p72, List.forall_mem_cons.mpr ⟨lw_p73, List.forall_mem_cons.mpr ⟨lw_p74, List.forall_mem_cons.mpr ⟨lw_p75, List.forall_mem_cons.mpr ⟨lw_p76, List.forall_mem_cons.mpr ⟨lw_p77, List.forall_mem_cons.mpr ⟨lw_p78, List.forall_mem_cons.mpr ⟨lw_p79, fun _ h => absurd h List.not_mem_nil⟩⟩⟩⟩⟩⟩⟩⟩⟩⟩⟩⟩⟩⟩⟩⟩
theorem lw_p80 : lw_okq (⟨"TownExchangeModel", "losing", "(IIII)I"⟩, 82) := ⟨⟨by decide +kernel, by decide +kernel⟩, List.mem_of_getElem? (i := 1213) (by decide +kernel), List.mem_of_getElem? (i := 1739) (by decide +kernel), List.mem_of_getElem? (i := 1740) (by decide +kernel)⟩
theorem lw_p81 : lw_okq (⟨"TownExchangeModel", "fewest", "()I"⟩, 82) := ⟨⟨by decide +kernel, by decide +kernel⟩, List.mem_of_getElem? (i := 1213) (by decide +kernel), List.mem_of_getElem? (i := 1759) (by decide +kernel), List.mem_of_getElem? (i := 1760) (by decide +kernel)⟩
theorem lw_p82 : lw_okq (⟨"TownExchangeModel", "found", "(I)V"⟩, 82) := ⟨⟨by decide +kernel, by decide +kernel⟩, List.mem_of_getElem? (i := 1213) (by decide +kernel), List.mem_of_getElem? (i := 1763) (by decide +kernel), List.mem_of_getElem? (i := 1764) (by decide +kernel)⟩
theorem lw_p83 : lw_okq (⟨"TownExchangeModel", "explains", "(I)Z"⟩, 82) := ⟨⟨by decide +kernel, by decide +kernel⟩, List.mem_of_getElem? (i := 1213) (by decide +kernel), List.mem_of_getElem? (i := 1767) (by decide +kernel), List.mem_of_getElem? (i := 1768) (by decide +kernel)⟩
def lw_privs_6 : List (MethodName × Nat) := [(⟨"TownExchangeModel", "losing", "(IIII)I"⟩, 82), (⟨"TownExchangeModel", "fewest", "()I"⟩, 82), (⟨"TownExchangeModel", "found", "(I)V"⟩, 82), (⟨"TownExchangeModel", "explains", "(I)Z"⟩, 82)]
theorem lw_r6 : ∀ q ∈ lw_privs_6, lw_okq q := List.forall_mem_cons.mpr ⟨lw_p80, List.forall_mem_cons.mpr ⟨lw_p81, List.forall_mem_cons.mpr ⟨lw_p82, List.forall_mem_cons.mpr ⟨lw_p83, fun _ h => absurd h List.not_mem_nil⟩⟩⟩⟩
def lw_privs : List (MethodName × Nat) := lw_privs_1 ++ (lw_privs_2 ++ (lw_privs_3 ++ (lw_privs_4 ++ (lw_privs_5 ++ (lw_privs_6)))))
def lw_tbl : List Cond := k2_sels lw_privs ++ tables_1
theorem lw_privs_ok : ∀ q ∈ lw_privs, lw_okq q := by
  show ∀ q ∈ lw_privs_1 ++ (lw_privs_2 ++ (lw_privs_3 ++ (lw_privs_4 ++ (lw_privs_5 ++ (lw_privs_6))))), lw_okq q
  exact List.forall_mem_append.mpr ⟨lw_r1, List.forall_mem_append.mpr ⟨lw_r2, List.forall_mem_append.mpr ⟨lw_r3, List.forall_mem_append.mpr ⟨lw_r4, List.forall_mem_append.mpr ⟨lw_r5, lw_r6⟩⟩⟩⟩⟩
end
section
/-! ===== BEGIN words of one list among another's, by their places ===== -/
theorem goodIn_r {big : List Cond} (ws : List Cond) (ps : List Nat) (hp : ws = ps.filterMap (fun i => big[i]?)) (h : ws.all goodWord = true) : GoodIn big ws := by
  intro w hw
  have h1 := List.all_eq_true.mp h w hw
  rw [hp] at hw
  obtain ⟨i, -, hi⟩ := List.mem_filterMap.mp hw
  have hm : w ∈ big := by first | exact List.mem_of_getElem? hi | exact List.getElem?_mem hi
  exact ⟨hm, good_of_word h1⟩
theorem goodIn_app {big a b : List Cond} (ha : GoodIn big a) (hb : GoodIn big b) : GoodIn big (a ++ b) := fun w h => (List.mem_append.mp h).elim (ha w) (hb w)
theorem goodIn_ca {big a b : List Cond} {c : Cond} (ha : GoodIn big (c :: a)) (hb : GoodIn big b) : GoodIn big (c :: (a ++ b)) := fun w h => (List.mem_cons.mp h).elim (fun e => ha w (List.mem_cons.mpr (Or.inl e))) (fun h => (List.mem_append.mp h).elim (fun h => ha w (List.mem_cons.mpr (Or.inr h))) (hb w))
theorem goodIn_sub {big ws : List Cond} (hm : ∀ w ∈ ws, w ∈ big) (h : ws.all goodWord = true) : GoodIn big ws := fun w hw => ⟨hm w hw, good_of_word (List.all_eq_true.mp h w hw)⟩
/-! ===== END ===== -/
/-! ===== BEGIN printed: names, fields, word lists, decode rows ===== -/
def RX0 : String := "TownExchange$Calls"
def TX0 : u_T := fun k => match k with
  | 0 => ("TownExchange$Calls", "plant", "LTownExchange$Plant;", true)
  | 1 => ("TownExchange$Calls", "lines", "[LTownExchange$Line;", true)
  | 2 => ("TownExchange$Calls", "numbered", "[I", true)
  | _ => ("TownExchange$Calls", "size", "I", false)
def tyX0 : Nat → FieldType := fun k => match k with
  | 0 => .object "TownExchange$Plant"
  | 1 => .array (.object "TownExchange$Line")
  | 2 => .array .int
  | _ => .int
abbrev wsX00 : List Cond := u_ws RX0 TX0 4
theorem nmX0 : ∀ a, a < 4 → ∀ b, b < 4 → a ≠ b → (TX0 a).2.1 ≠ (TX0 b).2.1 := by decide +kernel
theorem tyX0_ok : ∀ k, k < 4 → parseFieldDescriptor (TX0 k).2.2.1 = some (tyX0 k) := by decide +kernel
abbrev cX0_init : ByteArray := prog_2_method_1_code
def yX0_init : MethodName := ⟨RX0, "<init>", "(LTownExchange$Plant;)V"⟩
abbrev cX0_addLine : ByteArray := prog_2_method_2_code
def yX0_addLine : MethodName := ⟨RX0, "addLine", "(III)I"⟩
abbrev cX0_isLine : ByteArray := prog_2_method_3_code
def yX0_isLine : MethodName := ⟨RX0, "isLine", "(I)Z"⟩
abbrev cX0_isQuiet : ByteArray := prog_2_method_4_code
def yX0_isQuiet : MethodName := ⟨RX0, "isQuiet", "(I)Z"⟩
abbrev cX0_isCalling : ByteArray := prog_2_method_5_code
def yX0_isCalling : MethodName := ⟨RX0, "isCalling", "(I)Z"⟩
abbrev cX0_callingLines : ByteArray := prog_2_method_6_code
def yX0_callingLines : MethodName := ⟨RX0, "callingLines", "()I"⟩
abbrev cX0_lineAt : ByteArray := prog_2_method_7_code
def yX0_lineAt : MethodName := ⟨RX0, "lineAt", "(II)I"⟩
abbrev cX0_take : ByteArray := prog_2_method_8_code
def yX0_take : MethodName := ⟨RX0, "take", "(LTownExchange$Line;)I"⟩
abbrev cX0_step : ByteArray := prog_2_method_9_code
def yX0_step : MethodName := ⟨RX0, "step", "(LTownExchange$Line;I)I"⟩
abbrev cX0_stepFinal : ByteArray := prog_2_method_10_code
def yX0_stepFinal : MethodName := ⟨RX0, "stepFinal", "(LTownExchange$Line;I)V"⟩
abbrev cX0_hunt : ByteArray := prog_2_method_11_code
def yX0_hunt : MethodName := ⟨RX0, "hunt", "(LTownExchange$Line;II)V"⟩
abbrev cX0_hold : ByteArray := prog_2_method_12_code
def yX0_hold : MethodName := ⟨RX0, "hold", "(LTownExchange$Line;II)V"⟩
abbrev cX0_make : ByteArray := prog_2_method_13_code
def yX0_make : MethodName := ⟨RX0, "make", "(LTownExchange$Line;II)I"⟩
abbrev cX0_release : ByteArray := prog_2_method_14_code
def yX0_release : MethodName := ⟨RX0, "release", "(LTownExchange$Line;)V"⟩
abbrev cX0_setHolder : ByteArray := prog_2_method_15_code
def yX0_setHolder : MethodName := ⟨RX0, "setHolder", "(LTownExchange$Line;I)V"⟩
def RX1 : String := "TownExchange$Ledger"
def TX1 : u_T := fun k => match k with
  | 0 => ("TownExchange$Ledger", "size", "I", false)
  | 1 => ("TownExchange$Ledger", "callers", "[I", true)
  | 2 => ("TownExchange$Ledger", "units", "[I", true)
  | 3 => ("TownExchange$Ledger", "days", "[I", true)
  | 4 => ("TownExchange$Ledger", "ended", "[I", true)
  | 5 => ("TownExchange$Ledger", "words", "I", false)
  | 6 => ("TownExchange$Ledger", "wordCalls", "[I", true)
  | 7 => ("TownExchange$Ledger", "wordUnits", "[I", true)
  | _ => ("TownExchange$Ledger", "wordDays", "[I", true)
def tyX1 : Nat → FieldType := fun k => match k with
  | 0 => .int
  | 1 => .array .int
  | 2 => .array .int
  | 3 => .array .int
  | 4 => .array .int
  | 5 => .int
  | 6 => .array .int
  | 7 => .array .int
  | _ => .array .int
abbrev wsX10 : List Cond := u_ws RX1 TX1 9
theorem nmX1 : ∀ a, a < 9 → ∀ b, b < 9 → a ≠ b → (TX1 a).2.1 ≠ (TX1 b).2.1 := by decide +kernel
theorem tyX1_ok : ∀ k, k < 9 → parseFieldDescriptor (TX1 k).2.2.1 = some (tyX1 k) := by decide +kernel
abbrev cX1_init : ByteArray := prog_3_method_1_code
def yX1_init : MethodName := ⟨RX1, "<init>", "()V"⟩
abbrev cX1_write : ByteArray := prog_3_method_2_code
def yX1_write : MethodName := ⟨RX1, "write", "(IIII)V"⟩
abbrev cX1_tell : ByteArray := prog_3_method_3_code
def yX1_tell : MethodName := ⟨RX1, "tell", "(III)Z"⟩
abbrev cX1_sum : ByteArray := prog_3_method_4_code
def yX1_sum : MethodName := ⟨RX1, "sum", "(IIII)I"⟩
abbrev cX1_unitsKnown : ByteArray := prog_3_method_5_code
def yX1_unitsKnown : MethodName := ⟨RX1, "unitsKnown", "(II)I"⟩
abbrev cX1_show : ByteArray := prog_3_method_6_code
def yX1_show : MethodName := ⟨RX1, "show", "(II)I"⟩
def RX2 : String := "TownExchange$Line"
def TX2 : u_T := fun k => match k with
  | 0 => ("TownExchange$Line", "index", "I", true)
  | 1 => ("TownExchange$Line", "home", "I", true)
  | 2 => ("TownExchange$Line", "condition", "I", false)
  | 3 => ("TownExchange$Line", "state", "I", false)
  | 4 => ("TownExchange$Line", "holds", "[I", true)
  | 5 => ("TownExchange$Line", "held", "I", false)
  | 6 => ("TownExchange$Line", "taken", "I", false)
  | 7 => ("TownExchange$Line", "digits", "[I", true)
  | 8 => ("TownExchange$Line", "atHead", "I", false)
  | 9 => ("TownExchange$Line", "numberAtHead", "I", false)
  | 10 => ("TownExchange$Line", "partner", "I", false)
  | _ => ("TownExchange$Line", "answeredAt", "I", false)
def tyX2 : Nat → FieldType := fun k => match k with
  | 0 => .int
  | 1 => .int
  | 2 => .int
  | 3 => .int
  | 4 => .array .int
  | 5 => .int
  | 6 => .int
  | 7 => .array .int
  | 8 => .int
  | 9 => .int
  | 10 => .int
  | _ => .int
abbrev wsX20 : List Cond := u_ws RX2 TX2 12
theorem nmX2 : ∀ a, a < 12 → ∀ b, b < 12 → a ≠ b → (TX2 a).2.1 ≠ (TX2 b).2.1 := by decide +kernel
theorem tyX2_ok : ∀ k, k < 12 → parseFieldDescriptor (TX2 k).2.2.1 = some (tyX2 k) := by decide +kernel
abbrev cX2_init : ByteArray := prog_4_method_1_code
def yX2_init : MethodName := ⟨RX2, "<init>", "(II)V"⟩
abbrev cX2_head : ByteArray := prog_4_method_2_code
def yX2_head : MethodName := ⟨RX2, "head", "()I"⟩
abbrev cX2_ofCall : ByteArray := prog_4_method_3_code
def yX2_ofCall : MethodName := ⟨RX2, "ofCall", "(I)I"⟩
abbrev cX2_noteDigit : ByteArray := prog_4_method_4_code
def yX2_noteDigit : MethodName := ⟨RX2, "noteDigit", "(I)V"⟩
abbrev cX2_addHeld : ByteArray := prog_4_method_5_code
def yX2_addHeld : MethodName := ⟨RX2, "addHeld", "(I)V"⟩
abbrev cX2_clear : ByteArray := prog_4_method_6_code
def yX2_clear : MethodName := ⟨RX2, "clear", "()V"⟩
def RX3 : String := "TownExchange$Loss"
def TX3 : u_T := fun k => match k with
  | 0 => ("TownExchange$Loss", "plant", "LTownExchange$Plant;", true)
  | 1 => ("TownExchange$Loss", "own", "[I", true)
  | 2 => ("TownExchange$Loss", "wanting", "[I", true)
  | _ => ("TownExchange$Loss", "shared", "I", false)
def tyX3 : Nat → FieldType := fun k => match k with
  | 0 => .object "TownExchange$Plant"
  | 1 => .array .int
  | 2 => .array .int
  | _ => .int
abbrev wsX30 : List Cond := u_ws RX3 TX3 4
theorem nmX3 : ∀ a, a < 4 → ∀ b, b < 4 → a ≠ b → (TX3 a).2.1 ≠ (TX3 b).2.1 := by decide +kernel
theorem tyX3_ok : ∀ k, k < 4 → parseFieldDescriptor (TX3 k).2.2.1 = some (tyX3 k) := by decide +kernel
abbrev cX3_init : ByteArray := prog_5_method_1_code
def yX3_init : MethodName := ⟨RX3, "<init>", "(LTownExchange$Plant;)V"⟩
abbrev cX3_measure : ByteArray := prog_5_method_2_code
def yX3_measure : MethodName := ⟨RX3, "measure", "(III)Z"⟩
abbrev cX3_countEnd : ByteArray := prog_5_method_3_code
def yX3_countEnd : MethodName := ⟨RX3, "countEnd", "(IIII)V"⟩
abbrev cX3_leadsWithin : ByteArray := prog_5_method_4_code
def yX3_leadsWithin : MethodName := ⟨RX3, "leadsWithin", "(IIIII)Z"⟩
abbrev cX3_waysLost : ByteArray := prog_5_method_5_code
def yX3_waysLost : MethodName := ⟨RX3, "waysLost", "(II)I"⟩
abbrev cX3_sharedMore : ByteArray := prog_5_method_6_code
def yX3_sharedMore : MethodName := ⟨RX3, "sharedMore", "(II)I"⟩
abbrev cX3_ways : ByteArray := prog_5_method_7_code
def yX3_ways : MethodName := ⟨RX3, "ways", "(II)I"⟩
def RX4 : String := "TownExchange$Plant"
def TX4 : u_T := fun k => match k with
  | 0 => ("TownExchange$Plant", "racks", "I", false)
  | 1 => ("TownExchange$Plant", "kinds", "[I", true)
  | 2 => ("TownExchange$Plant", "switches", "[I", true)
  | 3 => ("TownExchange$Plant", "sections", "[I", true)
  | 4 => ("TownExchange$Plant", "outlets", "[I", true)
  | 5 => ("TownExchange$Plant", "out", "[Z", true)
  | 6 => ("TownExchange$Plant", "faulty", "[Z", true)
  | 7 => ("TownExchange$Plant", "holders", "[I", true)
  | _ => ("TownExchange$Plant", "zones", "[I", true)
def tyX4 : Nat → FieldType := fun k => match k with
  | 0 => .int
  | 1 => .array .int
  | 2 => .array .int
  | 3 => .array .int
  | 4 => .array .int
  | 5 => .array .boolean
  | 6 => .array .boolean
  | 7 => .array .int
  | _ => .array .int
abbrev wsX40 : List Cond := u_ws RX4 TX4 9
theorem nmX4 : ∀ a, a < 9 → ∀ b, b < 9 → a ≠ b → (TX4 a).2.1 ≠ (TX4 b).2.1 := by decide +kernel
theorem tyX4_ok : ∀ k, k < 9 → parseFieldDescriptor (TX4 k).2.2.1 = some (tyX4 k) := by decide +kernel
abbrev cX4_init : ByteArray := prog_6_method_1_code
def yX4_init : MethodName := ⟨RX4, "<init>", "()V"⟩
abbrev cX4_addRack : ByteArray := prog_6_method_2_code
def yX4_addRack : MethodName := ⟨RX4, "addRack", "(III)I"⟩
abbrev cX4_lead : ByteArray := prog_6_method_3_code
def yX4_lead : MethodName := ⟨RX4, "lead", "(IIIII)Z"⟩
abbrev cX4_tellZone : ByteArray := prog_6_method_4_code
def yX4_tellZone : MethodName := ⟨RX4, "tellZone", "(II)Z"⟩
abbrev cX4_isRackOf : ByteArray := prog_6_method_5_code
def yX4_isRackOf : MethodName := ⟨RX4, "isRackOf", "(II)Z"⟩
abbrev cX4_isLevel : ByteArray := prog_6_method_6_code
def yX4_isLevel : MethodName := ⟨RX4, "isLevel", "(II)Z"⟩
abbrev cX4_isSwitch : ByteArray := prog_6_method_7_code
def yX4_isSwitch : MethodName := ⟨RX4, "isSwitch", "(I)Z"⟩
abbrev cX4_isEnd : ByteArray := prog_6_method_8_code
def yX4_isEnd : MethodName := ⟨RX4, "isEnd", "(I)Z"⟩
abbrev cX4_isJunction : ByteArray := prog_6_method_9_code
def yX4_isJunction : MethodName := ⟨RX4, "isJunction", "(I)Z"⟩
abbrev cX4_isFinal : ByteArray := prog_6_method_10_code
def yX4_isFinal : MethodName := ⟨RX4, "isFinal", "(I)Z"⟩
abbrev cX4_zoneOf : ByteArray := prog_6_method_11_code
def yX4_zoneOf : MethodName := ⟨RX4, "zoneOf", "(I)I"⟩
abbrev cX4_spot : ByteArray := prog_6_method_12_code
def yX4_spot : MethodName := ⟨RX4, "spot", "(III)I"⟩
abbrev cX4_leadsTo : ByteArray := prog_6_method_13_code
def yX4_leadsTo : MethodName := ⟨RX4, "leadsTo", "(IIII)I"⟩
abbrev cX4_leadsFrom : ByteArray := prog_6_method_14_code
def yX4_leadsFrom : MethodName := ⟨RX4, "leadsFrom", "(III)I"⟩
abbrev cX4_isOut : ByteArray := prog_6_method_15_code
def yX4_isOut : MethodName := ⟨RX4, "isOut", "(I)Z"⟩
abbrev cX4_isFaulty : ByteArray := prog_6_method_16_code
def yX4_isFaulty : MethodName := ⟨RX4, "isFaulty", "(I)Z"⟩
abbrev cX4_canTake : ByteArray := prog_6_method_17_code
def yX4_canTake : MethodName := ⟨RX4, "canTake", "(I)Z"⟩
abbrev cX4_heldWithin : ByteArray := prog_6_method_18_code
def yX4_heldWithin : MethodName := ⟨RX4, "heldWithin", "(II)I"⟩
abbrev cX4_allSwitches : ByteArray := prog_6_method_19_code
def yX4_allSwitches : MethodName := ⟨RX4, "allSwitches", "()I"⟩
def RX5 : String := "TownExchange$Relay"
def TX5 : u_T := fun k => match k with
  | 0 => ("TownExchange$Relay", "plant", "LTownExchange$Plant;", true)
  | 1 => ("TownExchange$Relay", "calls", "LTownExchange$Calls;", true)
  | 2 => ("TownExchange$Relay", "wanted", "LTownExchange$Wish;", true)
  | 3 => ("TownExchange$Relay", "moved", "LTownExchange$Wish;", true)
  | 4 => ("TownExchange$Relay", "together", "Z", false)
  | _ => ("TownExchange$Relay", "movedLine", "I", false)
def tyX5 : Nat → FieldType := fun k => match k with
  | 0 => .object "TownExchange$Plant"
  | 1 => .object "TownExchange$Calls"
  | 2 => .object "TownExchange$Wish"
  | 3 => .object "TownExchange$Wish"
  | 4 => .boolean
  | _ => .int
abbrev wsX50 : List Cond := u_ws RX5 TX5 6
theorem nmX5 : ∀ a, a < 6 → ∀ b, b < 6 → a ≠ b → (TX5 a).2.1 ≠ (TX5 b).2.1 := by decide +kernel
theorem tyX5_ok : ∀ k, k < 6 → parseFieldDescriptor (TX5 k).2.2.1 = some (tyX5 k) := by decide +kernel
abbrev cX5_init : ByteArray := prog_7_method_1_code
def yX5_init : MethodName := ⟨RX5, "<init>", "(LTownExchange$Plant;LTownExchange$Calls;)V"⟩
abbrev cX5_fewestMoved : ByteArray := prog_7_method_2_code
def yX5_fewestMoved : MethodName := ⟨RX5, "fewestMoved", "(III)I"⟩
abbrev cX5_canMove : ByteArray := prog_7_method_3_code
def yX5_canMove : MethodName := ⟨RX5, "canMove", "(LTownExchange$Line;)Z"⟩
abbrev cX5_laysBoth : ByteArray := prog_7_method_4_code
def yX5_laysBoth : MethodName := ⟨RX5, "laysBoth", "(LTownExchange$Line;)Z"⟩
abbrev cX5_canLay : ByteArray := prog_7_method_5_code
def yX5_canLay : MethodName := ⟨RX5, "canLay", "(LTownExchange$Wish;)Z"⟩
abbrev cX5_layOver : ByteArray := prog_7_method_6_code
def yX5_layOver : MethodName := ⟨RX5, "layOver", "(LTownExchange$Wish;II)Z"⟩
abbrev cX5_goesOn : ByteArray := prog_7_method_7_code
def yX5_goesOn : MethodName := ⟨RX5, "goesOn", "(LTownExchange$Wish;II)Z"⟩
abbrev cX5_restIsLaid : ByteArray := prog_7_method_8_code
def yX5_restIsLaid : MethodName := ⟨RX5, "restIsLaid", "(LTownExchange$Wish;)Z"⟩
def RX6 : String := "TownExchange$Tape"
def TX6 : u_T := fun k => match k with
  | 0 => ("TownExchange$Tape", "signs", "[C", true)
  | 1 => ("TownExchange$Tape", "size", "I", false)
  | 2 => ("TownExchange$Tape", "kind", "I", false)
  | 3 => ("TownExchange$Tape", "place", "I", false)
  | 4 => ("TownExchange$Tape", "length", "I", false)
  | _ => ("TownExchange$Tape", "word", "LTownExchange$Word;", false)
def tyX6 : Nat → FieldType := fun k => match k with
  | 0 => .array .char
  | 1 => .int
  | 2 => .int
  | 3 => .int
  | 4 => .int
  | _ => .object "TownExchange$Word"
abbrev wsX60 : List Cond := u_ws RX6 TX6 6
theorem nmX6 : ∀ a, a < 6 → ∀ b, b < 6 → a ≠ b → (TX6 a).2.1 ≠ (TX6 b).2.1 := by decide +kernel
theorem tyX6_ok : ∀ k, k < 6 → parseFieldDescriptor (TX6 k).2.2.1 = some (tyX6 k) := by decide +kernel
abbrev cX6_init : ByteArray := prog_8_method_1_code
def yX6_init : MethodName := ⟨RX6, "<init>", "()V"⟩
abbrev cX6_addSigns : ByteArray := prog_8_method_2_code
def yX6_addSigns : MethodName := ⟨RX6, "addSigns", "(J)V"⟩
abbrev cX6_rewind : ByteArray := prog_8_method_3_code
def yX6_rewind : MethodName := ⟨RX6, "rewind", "()V"⟩
abbrev cX6_next : ByteArray := prog_8_method_4_code
def yX6_next : MethodName := ⟨RX6, "next", "()V"⟩
abbrev cX6_runFrom : ByteArray := prog_8_method_5_code
def yX6_runFrom : MethodName := ⟨RX6, "runFrom", "(ICC)I"⟩
abbrev cX6_isAtEnd : ByteArray := prog_8_method_6_code
def yX6_isAtEnd : MethodName := ⟨RX6, "isAtEnd", "()Z"⟩
abbrev cX6_isNumber : ByteArray := prog_8_method_7_code
def yX6_isNumber : MethodName := ⟨RX6, "isNumber", "()Z"⟩
abbrev cX6_isSign : ByteArray := prog_8_method_8_code
def yX6_isSign : MethodName := ⟨RX6, "isSign", "(C)Z"⟩
abbrev cX6_isWord : ByteArray := prog_8_method_9_code
def yX6_isWord : MethodName := ⟨RX6, "isWord", "(LTownExchange$Word;)Z"⟩
abbrev cX6_isName : ByteArray := prog_8_method_10_code
def yX6_isName : MethodName := ⟨RX6, "isName", "()Z"⟩
abbrev cX6_value : ByteArray := prog_8_method_11_code
def yX6_value : MethodName := ⟨RX6, "value", "()I"⟩
abbrev cX6_wordRead : ByteArray := prog_8_method_12_code
def yX6_wordRead : MethodName := ⟨RX6, "wordRead", "()LTownExchange$Word;"⟩
abbrev cX6_number : ByteArray := prog_8_method_13_code
def yX6_number : MethodName := ⟨RX6, "number", "()I"⟩
abbrev cX6_letters : ByteArray := prog_8_method_14_code
def yX6_letters : MethodName := ⟨RX6, "letters", "()J"⟩
def RX7 : String := "TownExchange$Tariff"
def TX7 : u_T := fun k => match k with
  | 0 => ("TownExchange$Tariff", "tape", "LTownExchange$Tape;", true)
  | 1 => ("TownExchange$Tariff", "fault", "I", false)
  | 2 => ("TownExchange$Tariff", "lines", "I", false)
  | 3 => ("TownExchange$Tariff", "lineUnits", "[I", true)
  | 4 => ("TownExchange$Tariff", "lineEach", "[I", true)
  | 5 => ("TownExchange$Tariff", "codeBeyond", "[I", true)
  | 6 => ("TownExchange$Tariff", "code", "[I", true)
  | 7 => ("TownExchange$Tariff", "codeSize", "I", false)
  | 8 => ("TownExchange$Tariff", "names", "I", false)
  | 9 => ("TownExchange$Tariff", "nameLetters", "[J", true)
  | 10 => ("TownExchange$Tariff", "nameValues", "[I", true)
  | 11 => ("TownExchange$Tariff", "values", "[I", true)
  | _ => ("TownExchange$Tariff", "stack", "[I", true)
def tyX7 : Nat → FieldType := fun k => match k with
  | 0 => .object "TownExchange$Tape"
  | 1 => .int
  | 2 => .int
  | 3 => .array .int
  | 4 => .array .int
  | 5 => .array .int
  | 6 => .array .int
  | 7 => .int
  | 8 => .int
  | 9 => .array .long
  | 10 => .array .int
  | 11 => .array .int
  | _ => .array .int
abbrev wsX70 : List Cond := u_ws RX7 TX7 13
theorem nmX7 : ∀ a, a < 13 → ∀ b, b < 13 → a ≠ b → (TX7 a).2.1 ≠ (TX7 b).2.1 := by decide +kernel
theorem tyX7_ok : ∀ k, k < 13 → parseFieldDescriptor (TX7 k).2.2.1 = some (tyX7 k) := by decide +kernel
abbrev cX7_init : ByteArray := prog_9_method_1_code
def yX7_init : MethodName := ⟨RX7, "<init>", "(LTownExchange$Tape;)V"⟩
abbrev cX7_readTape : ByteArray := prog_9_method_2_code
def yX7_readTape : MethodName := ⟨RX7, "readTape", "()I"⟩
abbrev cX7_passFirst : ByteArray := prog_9_method_3_code
def yX7_passFirst : MethodName := ⟨RX7, "passFirst", "()Z"⟩
abbrev cX7_readLet : ByteArray := prog_9_method_4_code
def yX7_readLet : MethodName := ⟨RX7, "readLet", "()Z"⟩
abbrev cX7_readUnit : ByteArray := prog_9_method_5_code
def yX7_readUnit : MethodName := ⟨RX7, "readUnit", "()Z"⟩
abbrev cX7_fail : ByteArray := prog_9_method_6_code
def yX7_fail : MethodName := ⟨RX7, "fail", "(I)Z"⟩
abbrev cX7_passSign : ByteArray := prog_9_method_7_code
def yX7_passSign : MethodName := ⟨RX7, "passSign", "(C)Z"⟩
abbrev cX7_passWord : ByteArray := prog_9_method_8_code
def yX7_passWord : MethodName := ⟨RX7, "passWord", "(LTownExchange$Word;)Z"⟩
abbrev cX7_isNumberWithin : ByteArray := prog_9_method_9_code
def yX7_isNumberWithin : MethodName := ⟨RX7, "isNumberWithin", "(II)Z"⟩
abbrev cX7_slotOf : ByteArray := prog_9_method_10_code
def yX7_slotOf : MethodName := ⟨RX7, "slotOf", "(J)I"⟩
abbrev cX7_readOperations : ByteArray := prog_9_method_11_code
def yX7_readOperations : MethodName := ⟨RX7, "readOperations", "(II)Z"⟩
abbrev cX7_operationAt : ByteArray := prog_9_method_12_code
def yX7_operationAt : MethodName := ⟨RX7, "operationAt", "(I)I"⟩
abbrev cX7_readPart : ByteArray := prog_9_method_13_code
def yX7_readPart : MethodName := ⟨RX7, "readPart", "(I)Z"⟩
abbrev cX7_readWithin : ByteArray := prog_9_method_14_code
def yX7_readWithin : MethodName := ⟨RX7, "readWithin", "(ZI)Z"⟩
abbrev cX7_put : ByteArray := prog_9_method_15_code
def yX7_put : MethodName := ⟨RX7, "put", "(I)V"⟩
abbrev cX7_unitsOf : ByteArray := prog_9_method_16_code
def yX7_unitsOf : MethodName := ⟨RX7, "unitsOf", "(IIII)I"⟩
abbrev cX7_firstMet : ByteArray := prog_9_method_17_code
def yX7_firstMet : MethodName := ⟨RX7, "firstMet", "()I"⟩
abbrev cX7_resultOf : ByteArray := prog_9_method_18_code
def yX7_resultOf : MethodName := ⟨RX7, "resultOf", "(II)I"⟩
abbrev cX7_operand : ByteArray := prog_9_method_19_code
def yX7_operand : MethodName := ⟨RX7, "operand", "(I)I"⟩
abbrev cX7_joined : ByteArray := prog_9_method_20_code
def yX7_joined : MethodName := ⟨RX7, "joined", "(III)I"⟩
def RX8 : String := "TownExchange$Trouble"
def TX8 : u_T := fun k => match k with
  | 0 => ("TownExchange$Trouble", "plant", "LTownExchange$Plant;", true)
  | 1 => ("TownExchange$Trouble", "tests", "I", false)
  | 2 => ("TownExchange$Trouble", "met", "[I", true)
  | 3 => ("TownExchange$Trouble", "metSize", "[I", true)
  | 4 => ("TownExchange$Trouble", "failed", "[Z", true)
  | 5 => ("TownExchange$Trouble", "sound", "[Z", true)
  | 6 => ("TownExchange$Trouble", "chosen", "[I", true)
  | 7 => ("TownExchange$Trouble", "sorted", "[I", true)
  | 8 => ("TownExchange$Trouble", "best", "[I", true)
  | 9 => ("TownExchange$Trouble", "found", "I", false)
  | _ => ("TownExchange$Trouble", "foundWith", "[I", true)
def tyX8 : Nat → FieldType := fun k => match k with
  | 0 => .object "TownExchange$Plant"
  | 1 => .int
  | 2 => .array .int
  | 3 => .array .int
  | 4 => .array .boolean
  | 5 => .array .boolean
  | 6 => .array .int
  | 7 => .array .int
  | 8 => .array .int
  | 9 => .int
  | _ => .array .int
abbrev wsX80 : List Cond := u_ws RX8 TX8 11
theorem nmX8 : ∀ a, a < 11 → ∀ b, b < 11 → a ≠ b → (TX8 a).2.1 ≠ (TX8 b).2.1 := by decide +kernel
theorem tyX8_ok : ∀ k, k < 11 → parseFieldDescriptor (TX8 k).2.2.1 = some (tyX8 k) := by decide +kernel
abbrev cX8_init : ByteArray := prog_10_method_1_code
def yX8_init : MethodName := ⟨RX8, "<init>", "(LTownExchange$Plant;)V"⟩
abbrev cX8_note : ByteArray := prog_10_method_2_code
def yX8_note : MethodName := ⟨RX8, "note", "(LTownExchange$Line;Z)V"⟩
abbrev cX8_fewest : ByteArray := prog_10_method_3_code
def yX8_fewest : MethodName := ⟨RX8, "fewest", "()I"⟩
abbrev cX8_isInAllSets : ByteArray := prog_10_method_4_code
def yX8_isInAllSets : MethodName := ⟨RX8, "isInAllSets", "(I)Z"⟩
abbrev cX8_markSound : ByteArray := prog_10_method_5_code
def yX8_markSound : MethodName := ⟨RX8, "markSound", "()V"⟩
abbrev cX8_choose : ByteArray := prog_10_method_6_code
def yX8_choose : MethodName := ⟨RX8, "choose", "(II)V"⟩
abbrev cX8_firstUnexplained : ByteArray := prog_10_method_7_code
def yX8_firstUnexplained : MethodName := ⟨RX8, "firstUnexplained", "(I)I"⟩
abbrev cX8_isExplained : ByteArray := prog_10_method_8_code
def yX8_isExplained : MethodName := ⟨RX8, "isExplained", "(II)Z"⟩
abbrev cX8_addSet : ByteArray := prog_10_method_9_code
def yX8_addSet : MethodName := ⟨RX8, "addSet", "(I)V"⟩
abbrev cX8_comesFirst : ByteArray := prog_10_method_10_code
def yX8_comesFirst : MethodName := ⟨RX8, "comesFirst", "(I)Z"⟩
def RX9 : String := "TownExchange$Wish"
def TX9 : u_T := fun k => match k with
  | 0 => ("TownExchange$Wish", "line", "I", false)
  | 1 => ("TownExchange$Wish", "home", "I", false)
  | 2 => ("TownExchange$Wish", "goal", "I", false)
  | 3 => ("TownExchange$Wish", "many", "I", false)
  | _ => ("TownExchange$Wish", "digits", "[I", true)
def tyX9 : Nat → FieldType := fun k => match k with
  | 0 => .int
  | 1 => .int
  | 2 => .int
  | 3 => .int
  | _ => .array .int
abbrev wsX90 : List Cond := u_ws RX9 TX9 5
theorem nmX9 : ∀ a, a < 5 → ∀ b, b < 5 → a ≠ b → (TX9 a).2.1 ≠ (TX9 b).2.1 := by decide +kernel
theorem tyX9_ok : ∀ k, k < 5 → parseFieldDescriptor (TX9 k).2.2.1 = some (tyX9 k) := by decide +kernel
abbrev cX9_init : ByteArray := prog_11_method_1_code
def yX9_init : MethodName := ⟨RX9, "<init>", "()V"⟩
abbrev cX9_toRing : ByteArray := prog_11_method_2_code
def yX9_toRing : MethodName := ⟨RX9, "toRing", "(LTownExchange$Line;II)V"⟩
abbrev cX9_again : ByteArray := prog_11_method_3_code
def yX9_again : MethodName := ⟨RX9, "again", "(LTownExchange$Line;)V"⟩
abbrev cX9_ringsOverJunction : ByteArray := prog_11_method_4_code
def yX9_ringsOverJunction : MethodName := ⟨RX9, "ringsOverJunction", "(I)Z"⟩
abbrev cX9_ringsAtFinal : ByteArray := prog_11_method_5_code
def yX9_ringsAtFinal : MethodName := ⟨RX9, "ringsAtFinal", "(LTownExchange$Calls;II)Z"⟩
def RX10 : String := "TownExchange$Word"
def TX10 : u_T := fun k => match k with
  | _ => ("", "", "", false)
def tyX10 : Nat → FieldType := fun k => match k with
  | _ => .int
abbrev wsX100 : List Cond := u_ws RX10 TX10 0
theorem nmX10 : ∀ a, a < 0 → ∀ b, b < 0 → a ≠ b → (TX10 a).2.1 ≠ (TX10 b).2.1 := by decide +kernel
theorem tyX10_ok : ∀ k, k < 0 → parseFieldDescriptor (TX10 k).2.2.1 = some (tyX10 k) := by decide +kernel
def RX11 : String := "TownExchange"
def TX11 : u_T := fun k => match k with
  | 0 => ("TownExchange", "plant", "LTownExchange$Plant;", true)
  | 1 => ("TownExchange", "calls", "LTownExchange$Calls;", true)
  | 2 => ("TownExchange", "relay", "LTownExchange$Relay;", true)
  | 3 => ("TownExchange", "loss", "LTownExchange$Loss;", true)
  | 4 => ("TownExchange", "trouble", "LTownExchange$Trouble;", true)
  | 5 => ("TownExchange", "ledger", "LTownExchange$Ledger;", true)
  | 6 => ("TownExchange", "tape", "LTownExchange$Tape;", true)
  | 7 => ("TownExchange", "tariff", "LTownExchange$Tariff;", false)
  | 8 => ("TownExchange", "spareTariff", "LTownExchange$Tariff;", false)
  | _ => ("TownExchange", "now", "I", false)
def tyX11 : Nat → FieldType := fun k => match k with
  | 0 => .object "TownExchange$Plant"
  | 1 => .object "TownExchange$Calls"
  | 2 => .object "TownExchange$Relay"
  | 3 => .object "TownExchange$Loss"
  | 4 => .object "TownExchange$Trouble"
  | 5 => .object "TownExchange$Ledger"
  | 6 => .object "TownExchange$Tape"
  | 7 => .object "TownExchange$Tariff"
  | 8 => .object "TownExchange$Tariff"
  | _ => .int
abbrev wsX110 : List Cond := u_ws RX11 TX11 10
theorem nmX11 : ∀ a, a < 10 → ∀ b, b < 10 → a ≠ b → (TX11 a).2.1 ≠ (TX11 b).2.1 := by decide +kernel
theorem tyX11_ok : ∀ k, k < 10 → parseFieldDescriptor (TX11 k).2.2.1 = some (tyX11 k) := by decide +kernel
abbrev cX11_init : ByteArray := prog_1_method_1_code
def yX11_init : MethodName := ⟨RX11, "<init>", "()V"⟩
abbrev cX11_seconds : ByteArray := prog_1_method_2_code
def yX11_seconds : MethodName := ⟨RX11, "seconds", "(I)I"⟩
abbrev cX11_rack : ByteArray := prog_1_method_3_code
def yX11_rack : MethodName := ⟨RX11, "rack", "(III)I"⟩
abbrev cX11_outlet : ByteArray := prog_1_method_4_code
def yX11_outlet : MethodName := ⟨RX11, "outlet", "(IIIII)Z"⟩
abbrev cX11_zone : ByteArray := prog_1_method_5_code
def yX11_zone : MethodName := ⟨RX11, "zone", "(II)Z"⟩
abbrev cX11_line : ByteArray := prog_1_method_6_code
def yX11_line : MethodName := ⟨RX11, "line", "(III)I"⟩
abbrev cX11_out : ByteArray := prog_1_method_7_code
def yX11_out : MethodName := ⟨RX11, "out", "(IZ)Z"⟩
abbrev cX11_faulty : ByteArray := prog_1_method_8_code
def yX11_faulty : MethodName := ⟨RX11, "faulty", "(IZ)Z"⟩
abbrev cX11_lift : ByteArray := prog_1_method_9_code
def yX11_lift : MethodName := ⟨RX11, "lift", "(I)I"⟩
abbrev cX11_dial : ByteArray := prog_1_method_10_code
def yX11_dial : MethodName := ⟨RX11, "dial", "(II)I"⟩
abbrev cX11_answer : ByteArray := prog_1_method_11_code
def yX11_answer : MethodName := ⟨RX11, "answer", "(I)Z"⟩
abbrev cX11_end : ByteArray := prog_1_method_12_code
def yX11_end : MethodName := ⟨RX11, "end", "(I)I"⟩
abbrev cX11_feed : ByteArray := prog_1_method_13_code
def yX11_feed : MethodName := ⟨RX11, "feed", "(JJJ)I"⟩
abbrev cX11_tariff : ByteArray := prog_1_method_14_code
def yX11_tariff : MethodName := ⟨RX11, "tariff", "()I"⟩
abbrev cX11_word : ByteArray := prog_1_method_15_code
def yX11_word : MethodName := ⟨RX11, "word", "(II)Z"⟩
abbrev cX11_bill : ByteArray := prog_1_method_16_code
def yX11_bill : MethodName := ⟨RX11, "bill", "(IIII)I"⟩
abbrev cX11_would : ByteArray := prog_1_method_17_code
def yX11_would : MethodName := ⟨RX11, "would", "(III)I"⟩
abbrev cX11_block : ByteArray := prog_1_method_18_code
def yX11_block : MethodName := ⟨RX11, "block", "(IIIIII)I"⟩
abbrev cX11_laid : ByteArray := prog_1_method_19_code
def yX11_laid : MethodName := ⟨RX11, "laid", "(IIII)I"⟩
abbrev cX11_lost : ByteArray := prog_1_method_20_code
def yX11_lost : MethodName := ⟨RX11, "lost", "(III)I"⟩
abbrev cX11_more : ByteArray := prog_1_method_21_code
def yX11_more : MethodName := ⟨RX11, "more", "(IIII)I"⟩
abbrev cX11_test : ByteArray := prog_1_method_22_code
def yX11_test : MethodName := ⟨RX11, "test", "(III)I"⟩
abbrev cX11_explain : ByteArray := prog_1_method_23_code
def yX11_explain : MethodName := ⟨RX11, "explain", "(I)I"⟩
abbrev cX11_sure : ByteArray := prog_1_method_24_code
def yX11_sure : MethodName := ⟨RX11, "sure", "(I)I"⟩
abbrev cX11_forget : ByteArray := prog_1_method_25_code
def yX11_forget : MethodName := ⟨RX11, "forget", "()I"⟩
abbrev cX11_look : ByteArray := prog_1_method_26_code
def yX11_look : MethodName := ⟨RX11, "look", "(II)I"⟩
abbrev cX11_path : ByteArray := prog_1_method_27_code
def yX11_path : MethodName := ⟨RX11, "path", "(II)I"⟩
abbrev cX11_held : ByteArray := prog_1_method_28_code
def yX11_held : MethodName := ⟨RX11, "held", "(I)I"⟩
abbrev cX11_book : ByteArray := prog_1_method_29_code
def yX11_book : MethodName := ⟨RX11, "book", "(II)I"⟩
abbrev cX11_count : ByteArray := prog_1_method_30_code
def yX11_count : MethodName := ⟨RX11, "count", "(I)I"⟩
abbrev cX11_today : ByteArray := prog_1_method_31_code
def yX11_today : MethodName := ⟨RX11, "today", "()I"⟩
abbrev cX11_mayDial : ByteArray := prog_1_method_32_code
def yX11_mayDial : MethodName := ⟨RX11, "mayDial", "(III)Z"⟩
abbrev cX11_blocksNext : ByteArray := prog_1_method_33_code
def yX11_blocksNext : MethodName := ⟨RX11, "blocksNext", "(IIIIII)Z"⟩
abbrev cX11_digitAt : ByteArray := prog_1_method_34_code
def yX11_digitAt : MethodName := ⟨RX11, "digitAt", "(III)I"⟩
def RX12 : String := "TownExchangeModel"
def TX12 : u_T := fun k => match k with
  | 0 => ("TownExchangeModel", "thrown", "I", false)
  | 1 => ("TownExchangeModel", "now", "I", false)
  | 2 => ("TownExchangeModel", "racks", "I", false)
  | 3 => ("TownExchangeModel", "kind", "[I", true)
  | 4 => ("TownExchangeModel", "switches", "[I", true)
  | 5 => ("TownExchangeModel", "sections", "[I", true)
  | 6 => ("TownExchangeModel", "outlet", "[I", true)
  | 7 => ("TownExchangeModel", "zone", "[I", true)
  | 8 => ("TownExchangeModel", "holder", "[I", true)
  | 9 => ("TownExchangeModel", "isOut", "[Z", true)
  | 10 => ("TownExchangeModel", "isFaulty", "[Z", true)
  | 11 => ("TownExchangeModel", "lines", "I", false)
  | 12 => ("TownExchangeModel", "home", "[I", true)
  | 13 => ("TownExchangeModel", "last", "[I", true)
  | 14 => ("TownExchangeModel", "number", "[I", true)
  | 15 => ("TownExchangeModel", "is", "[I", true)
  | 16 => ("TownExchangeModel", "state", "[I", true)
  | 17 => ("TownExchangeModel", "rings", "[I", true)
  | 18 => ("TownExchangeModel", "taken", "[I", true)
  | 19 => ("TownExchangeModel", "digits", "[I", true)
  | 20 => ("TownExchangeModel", "atEnd", "[I", true)
  | 21 => ("TownExchangeModel", "firstAt", "[I", true)
  | 22 => ("TownExchangeModel", "answered", "[I", true)
  | 23 => ("TownExchangeModel", "holds", "[I", true)
  | 24 => ("TownExchangeModel", "path", "[I", true)
  | 25 => ("TownExchangeModel", "triedEnd", "[Z", true)
  | 26 => ("TownExchangeModel", "triedLine", "[Z", true)
  | 27 => ("TownExchangeModel", "calls", "I", false)
  | 28 => ("TownExchangeModel", "callLine", "[I", true)
  | 29 => ("TownExchangeModel", "callUnits", "[I", true)
  | 30 => ("TownExchangeModel", "callDay", "[I", true)
  | 31 => ("TownExchangeModel", "callEnd", "[I", true)
  | 32 => ("TownExchangeModel", "words", "I", false)
  | 33 => ("TownExchangeModel", "wordCall", "[I", true)
  | 34 => ("TownExchangeModel", "wordUnits", "[I", true)
  | 35 => ("TownExchangeModel", "wordDay", "[I", true)
  | 36 => ("TownExchangeModel", "taped", "I", false)
  | 37 => ("TownExchangeModel", "tape", "[I", true)
  | 38 => ("TownExchangeModel", "size", "I", false)
  | 39 => ("TownExchangeModel", "place", "I", false)
  | 40 => ("TownExchangeModel", "begin", "I", false)
  | 41 => ("TownExchangeModel", "token", "I", false)
  | 42 => ("TownExchangeModel", "word", "J", false)
  | 43 => ("TownExchangeModel", "told", "I", false)
  | 44 => ("TownExchangeModel", "wrong", "I", false)
  | 45 => ("TownExchangeModel", "tariffLines", "[I", true)
  | 46 => ("TownExchangeModel", "lineName", "[I", true)
  | 47 => ("TownExchangeModel", "lineUnits", "[I", true)
  | 48 => ("TownExchangeModel", "lineEach", "[I", true)
  | 49 => ("TownExchangeModel", "lineFrom", "[I", true)
  | 50 => ("TownExchangeModel", "lineTo", "[I", true)
  | 51 => ("TownExchangeModel", "names", "[I", true)
  | 52 => ("TownExchangeModel", "name", "[J", true)
  | 53 => ("TownExchangeModel", "codes", "[I", true)
  | 54 => ("TownExchangeModel", "code", "I", false)
  | 55 => ("TownExchangeModel", "opened", "[I", true)
  | 56 => ("TownExchangeModel", "compared", "[Z", true)
  | 57 => ("TownExchangeModel", "kept", "[I", true)
  | 58 => ("TownExchangeModel", "keptBy", "[I", true)
  | 59 => ("TownExchangeModel", "first", "[I", true)
  | 60 => ("TownExchangeModel", "against", "[I", true)
  | 61 => ("TownExchangeModel", "sum", "[I", true)
  | 62 => ("TownExchangeModel", "sumBy", "[I", true)
  | 63 => ("TownExchangeModel", "term", "[I", true)
  | 64 => ("TownExchangeModel", "times", "[Z", true)
  | 65 => ("TownExchangeModel", "byNot", "[I", true)
  | 66 => ("TownExchangeModel", "valueOf", "[I", true)
  | 67 => ("TownExchangeModel", "named", "[I", true)
  | 68 => ("TownExchangeModel", "wouldHold", "I", false)
  | 69 => ("TownExchangeModel", "would", "[I", true)
  | 70 => ("TownExchangeModel", "choice", "[I", true)
  | 71 => ("TownExchangeModel", "laidBy", "[I", true)
  | 72 => ("TownExchangeModel", "laidCount", "I", false)
  | 73 => ("TownExchangeModel", "kepts", "[I", true)
  | 74 => ("TownExchangeModel", "isEndOf", "[Z", true)
  | 75 => ("TownExchangeModel", "tests", "I", false)
  | 76 => ("TownExchangeModel", "failed", "[Z", true)
  | 77 => ("TownExchangeModel", "testHolds", "[Z", true)
  | 78 => ("TownExchangeModel", "set", "[I", true)
  | 79 => ("TownExchangeModel", "sets", "[I", true)
  | 80 => ("TownExchangeModel", "leastSet", "[I", true)
  | _ => ("TownExchangeModel", "setCount", "I", false)
def tyX12 : Nat → FieldType := fun k => match k with
  | 0 => .int
  | 1 => .int
  | 2 => .int
  | 3 => .array .int
  | 4 => .array .int
  | 5 => .array .int
  | 6 => .array .int
  | 7 => .array .int
  | 8 => .array .int
  | 9 => .array .boolean
  | 10 => .array .boolean
  | 11 => .int
  | 12 => .array .int
  | 13 => .array .int
  | 14 => .array .int
  | 15 => .array .int
  | 16 => .array .int
  | 17 => .array .int
  | 18 => .array .int
  | 19 => .array .int
  | 20 => .array .int
  | 21 => .array .int
  | 22 => .array .int
  | 23 => .array .int
  | 24 => .array .int
  | 25 => .array .boolean
  | 26 => .array .boolean
  | 27 => .int
  | 28 => .array .int
  | 29 => .array .int
  | 30 => .array .int
  | 31 => .array .int
  | 32 => .int
  | 33 => .array .int
  | 34 => .array .int
  | 35 => .array .int
  | 36 => .int
  | 37 => .array .int
  | 38 => .int
  | 39 => .int
  | 40 => .int
  | 41 => .int
  | 42 => .long
  | 43 => .int
  | 44 => .int
  | 45 => .array .int
  | 46 => .array .int
  | 47 => .array .int
  | 48 => .array .int
  | 49 => .array .int
  | 50 => .array .int
  | 51 => .array .int
  | 52 => .array .long
  | 53 => .array .int
  | 54 => .int
  | 55 => .array .int
  | 56 => .array .boolean
  | 57 => .array .int
  | 58 => .array .int
  | 59 => .array .int
  | 60 => .array .int
  | 61 => .array .int
  | 62 => .array .int
  | 63 => .array .int
  | 64 => .array .boolean
  | 65 => .array .int
  | 66 => .array .int
  | 67 => .array .int
  | 68 => .int
  | 69 => .array .int
  | 70 => .array .int
  | 71 => .array .int
  | 72 => .int
  | 73 => .array .int
  | 74 => .array .boolean
  | 75 => .int
  | 76 => .array .boolean
  | 77 => .array .boolean
  | 78 => .array .int
  | 79 => .array .int
  | 80 => .array .int
  | _ => .int
abbrev wsX120 : List Cond := u_ws RX12 TX12 82
theorem nmX12 : ∀ a, a < 82 → ∀ b, b < 82 → a ≠ b → (TX12 a).2.1 ≠ (TX12 b).2.1 := by decide +kernel
theorem tyX12_ok : ∀ k, k < 82 → parseFieldDescriptor (TX12 k).2.2.1 = some (tyX12 k) := by decide +kernel
abbrev cX12_init : ByteArray := prog_14_method_1_code
def yX12_init : MethodName := ⟨RX12, "<init>", "()V"⟩
abbrev cX12_thrown : ByteArray := prog_14_method_2_code
def yX12_thrown : MethodName := ⟨RX12, "thrown", "()I"⟩
abbrev cX12_within : ByteArray := prog_14_method_3_code
def yX12_within : MethodName := ⟨RX12, "within", "(III)Z"⟩
abbrev cX12_isSwitch : ByteArray := prog_14_method_4_code
def yX12_isSwitch : MethodName := ⟨RX12, "isSwitch", "(I)Z"⟩
abbrev cX12_isEnd : ByteArray := prog_14_method_5_code
def yX12_isEnd : MethodName := ⟨RX12, "isEnd", "(I)Z"⟩
abbrev cX12_isLine : ByteArray := prog_14_method_6_code
def yX12_isLine : MethodName := ⟨RX12, "isLine", "(I)Z"⟩
abbrev cX12_isSelectors : ByteArray := prog_14_method_7_code
def yX12_isSelectors : MethodName := ⟨RX12, "isSelectors", "(I)Z"⟩
abbrev cX12_seconds : ByteArray := prog_14_method_8_code
def yX12_seconds : MethodName := ⟨RX12, "seconds", "(I)I"⟩
abbrev cX12_rack : ByteArray := prog_14_method_9_code
def yX12_rack : MethodName := ⟨RX12, "rack", "(III)I"⟩
abbrev cX12_outletAt : ByteArray := prog_14_method_10_code
def yX12_outletAt : MethodName := ⟨RX12, "outletAt", "(IIII)I"⟩
abbrev cX12_outlet : ByteArray := prog_14_method_11_code
def yX12_outlet : MethodName := ⟨RX12, "outlet", "(IIIII)Z"⟩
abbrev cX12_zone : ByteArray := prog_14_method_12_code
def yX12_zone : MethodName := ⟨RX12, "zone", "(II)Z"⟩
abbrev cX12_lineOf : ByteArray := prog_14_method_13_code
def yX12_lineOf : MethodName := ⟨RX12, "lineOf", "(II)I"⟩
abbrev cX12_line : ByteArray := prog_14_method_14_code
def yX12_line : MethodName := ⟨RX12, "line", "(III)I"⟩
abbrev cX12_out : ByteArray := prog_14_method_15_code
def yX12_out : MethodName := ⟨RX12, "out", "(IZ)Z"⟩
abbrev cX12_faulty : ByteArray := prog_14_method_16_code
def yX12_faulty : MethodName := ⟨RX12, "faulty", "(IZ)Z"⟩
abbrev cX12_isFree : ByteArray := prog_14_method_17_code
def yX12_isFree : MethodName := ⟨RX12, "isFree", "(I)Z"⟩
abbrev cX12_isQuiet : ByteArray := prog_14_method_18_code
def yX12_isQuiet : MethodName := ⟨RX12, "isQuiet", "(I)Z"⟩
abbrev cX12_firstFree : ByteArray := prog_14_method_19_code
def yX12_firstFree : MethodName := ⟨RX12, "firstFree", "(I)I"⟩
abbrev cX12_goesTo : ByteArray := prog_14_method_20_code
def yX12_goesTo : MethodName := ⟨RX12, "goesTo", "(II)I"⟩
abbrev cX12_hold : ByteArray := prog_14_method_21_code
def yX12_hold : MethodName := ⟨RX12, "hold", "(II)V"⟩
abbrev cX12_lift : ByteArray := prog_14_method_22_code
def yX12_lift : MethodName := ⟨RX12, "lift", "(I)I"⟩
abbrev cX12_head : ByteArray := prog_14_method_23_code
def yX12_head : MethodName := ⟨RX12, "head", "(I)I"⟩
abbrev cX12_isEnding : ByteArray := prog_14_method_24_code
def yX12_isEnding : MethodName := ⟨RX12, "isEnding", "(I)Z"⟩
abbrev cX12_dial : ByteArray := prog_14_method_25_code
def yX12_dial : MethodName := ⟨RX12, "dial", "(II)I"⟩
abbrev cX12_answer : ByteArray := prog_14_method_26_code
def yX12_answer : MethodName := ⟨RX12, "answer", "(I)Z"⟩
abbrev cX12_end : ByteArray := prog_14_method_27_code
def yX12_end : MethodName := ⟨RX12, "end", "(I)I"⟩
abbrev cX12_word : ByteArray := prog_14_method_28_code
def yX12_word : MethodName := ⟨RX12, "word", "(II)Z"⟩
abbrev cX12_unitsBy : ByteArray := prog_14_method_29_code
def yX12_unitsBy : MethodName := ⟨RX12, "unitsBy", "(II)I"⟩
abbrev cX12_bill : ByteArray := prog_14_method_30_code
def yX12_bill : MethodName := ⟨RX12, "bill", "(IIII)I"⟩
abbrev cX12_feed : ByteArray := prog_14_method_31_code
def yX12_feed : MethodName := ⟨RX12, "feed", "(JJJ)I"⟩
abbrev cX12_signAt : ByteArray := prog_14_method_32_code
def yX12_signAt : MethodName := ⟨RX12, "signAt", "(I)I"⟩
abbrev cX12_next : ByteArray := prog_14_method_33_code
def yX12_next : MethodName := ⟨RX12, "next", "()V"⟩
abbrev cX12_isWord : ByteArray := prog_14_method_34_code
def yX12_isWord : MethodName := ⟨RX12, "isWord", "(J)Z"⟩
abbrev cX12_isSign : ByteArray := prog_14_method_35_code
def yX12_isSign : MethodName := ⟨RX12, "isSign", "(I)Z"⟩
abbrev cX12_fails : ByteArray := prog_14_method_36_code
def yX12_fails : MethodName := ⟨RX12, "fails", "(I)Z"⟩
abbrev cX12_puts : ByteArray := prog_14_method_37_code
def yX12_puts : MethodName := ⟨RX12, "puts", "(I)V"⟩
abbrev cX12_fact : ByteArray := prog_14_method_38_code
def yX12_fact : MethodName := ⟨RX12, "fact", "()I"⟩
abbrev cX12_isOwn : ByteArray := prog_14_method_39_code
def yX12_isOwn : MethodName := ⟨RX12, "isOwn", "()Z"⟩
abbrev cX12_nameAt : ByteArray := prog_14_method_40_code
def yX12_nameAt : MethodName := ⟨RX12, "nameAt", "()I"⟩
abbrev cX12_reads : ByteArray := prog_14_method_41_code
def yX12_reads : MethodName := ⟨RX12, "reads", "(I)Z"⟩
abbrev cX12_readsLine : ByteArray := prog_14_method_42_code
def yX12_readsLine : MethodName := ⟨RX12, "readsLine", "()Z"⟩
abbrev cX12_tariff : ByteArray := prog_14_method_43_code
def yX12_tariff : MethodName := ⟨RX12, "tariff", "()I"⟩
abbrev cX12_opens : ByteArray := prog_14_method_44_code
def yX12_opens : MethodName := ⟨RX12, "opens", "(I)V"⟩
abbrev cX12_sums : ByteArray := prog_14_method_45_code
def yX12_sums : MethodName := ⟨RX12, "sums", "(I)V"⟩
abbrev cX12_tests : ByteArray := prog_14_method_46_code
def yX12_tests : MethodName := ⟨RX12, "tests", "(I)V"⟩
abbrev cX12_worth : ByteArray := prog_14_method_47_code
def yX12_worth : MethodName := ⟨RX12, "worth", "(I)I"⟩
abbrev cX12_unitsOf : ByteArray := prog_14_method_48_code
def yX12_unitsOf : MethodName := ⟨RX12, "unitsOf", "(I)I"⟩
abbrev cX12_clears : ByteArray := prog_14_method_49_code
def yX12_clears : MethodName := ⟨RX12, "clears", "()V"⟩
abbrev cX12_digitOf : ByteArray := prog_14_method_50_code
def yX12_digitOf : MethodName := ⟨RX12, "digitOf", "(III)I"⟩
abbrev cX12_tries : ByteArray := prog_14_method_51_code
def yX12_tries : MethodName := ⟨RX12, "tries", "(I)V"⟩
abbrev cX12_meets : ByteArray := prog_14_method_52_code
def yX12_meets : MethodName := ⟨RX12, "meets", "(III)I"⟩
abbrev cX12_canTry : ByteArray := prog_14_method_53_code
def yX12_canTry : MethodName := ⟨RX12, "canTry", "(III)Z"⟩
abbrev cX12_would : ByteArray := prog_14_method_54_code
def yX12_would : MethodName := ⟨RX12, "would", "(III)I"⟩
abbrev cX12_block : ByteArray := prog_14_method_55_code
def yX12_block : MethodName := ⟨RX12, "block", "(IIIIII)I"⟩
abbrev cX12_mayUse : ByteArray := prog_14_method_56_code
def yX12_mayUse : MethodName := ⟨RX12, "mayUse", "(II)Z"⟩
abbrev cX12_lays : ByteArray := prog_14_method_57_code
def yX12_lays : MethodName := ⟨RX12, "lays", "(IIIIII)I"⟩
abbrev cX12_takes : ByteArray := prog_14_method_58_code
def yX12_takes : MethodName := ⟨RX12, "takes", "(I)V"⟩
abbrev cX12_gives : ByteArray := prog_14_method_59_code
def yX12_gives : MethodName := ⟨RX12, "gives", "()V"⟩
abbrev cX12_counts : ByteArray := prog_14_method_60_code
def yX12_counts : MethodName := ⟨RX12, "counts", "(III)Z"⟩
abbrev cX12_canLay : ByteArray := prog_14_method_61_code
def yX12_canLay : MethodName := ⟨RX12, "canLay", "(IIII)Z"⟩
abbrev cX12_canMove : ByteArray := prog_14_method_62_code
def yX12_canMove : MethodName := ⟨RX12, "canMove", "(IIII)Z"⟩
abbrev cX12_laid : ByteArray := prog_14_method_63_code
def yX12_laid : MethodName := ⟨RX12, "laid", "(IIII)I"⟩
abbrev cX12_ways : ByteArray := prog_14_method_64_code
def yX12_ways : MethodName := ⟨RX12, "ways", "(II)I"⟩
abbrev cX12_losing : ByteArray := prog_14_method_65_code
def yX12_losing : MethodName := ⟨RX12, "losing", "(IIII)I"⟩
abbrev cX12_canLose : ByteArray := prog_14_method_66_code
def yX12_canLose : MethodName := ⟨RX12, "canLose", "(III)Z"⟩
abbrev cX12_lost : ByteArray := prog_14_method_67_code
def yX12_lost : MethodName := ⟨RX12, "lost", "(III)I"⟩
abbrev cX12_more : ByteArray := prog_14_method_68_code
def yX12_more : MethodName := ⟨RX12, "more", "(IIII)I"⟩
abbrev cX12_test : ByteArray := prog_14_method_69_code
def yX12_test : MethodName := ⟨RX12, "test", "(III)I"⟩
abbrev cX12_explains : ByteArray := prog_14_method_70_code
def yX12_explains : MethodName := ⟨RX12, "explains", "(I)Z"⟩
abbrev cX12_found : ByteArray := prog_14_method_71_code
def yX12_found : MethodName := ⟨RX12, "found", "(I)V"⟩
abbrev cX12_fewest : ByteArray := prog_14_method_72_code
def yX12_fewest : MethodName := ⟨RX12, "fewest", "()I"⟩
abbrev cX12_explain : ByteArray := prog_14_method_73_code
def yX12_explain : MethodName := ⟨RX12, "explain", "(I)I"⟩
abbrev cX12_sure : ByteArray := prog_14_method_74_code
def yX12_sure : MethodName := ⟨RX12, "sure", "(I)I"⟩
abbrev cX12_forget : ByteArray := prog_14_method_75_code
def yX12_forget : MethodName := ⟨RX12, "forget", "()I"⟩
abbrev cX12_look : ByteArray := prog_14_method_76_code
def yX12_look : MethodName := ⟨RX12, "look", "(II)I"⟩
abbrev cX12_path : ByteArray := prog_14_method_77_code
def yX12_path : MethodName := ⟨RX12, "path", "(II)I"⟩
abbrev cX12_held : ByteArray := prog_14_method_78_code
def yX12_held : MethodName := ⟨RX12, "held", "(I)I"⟩
abbrev cX12_book : ByteArray := prog_14_method_79_code
def yX12_book : MethodName := ⟨RX12, "book", "(II)I"⟩
abbrev cX12_count : ByteArray := prog_14_method_80_code
def yX12_count : MethodName := ⟨RX12, "count", "(I)I"⟩
def RJx145de : String := "java/io/Serializable"
def TJx145de : u_T := fun k => match k with
  | _ => ("", "", "", false)
def tyJx145de : Nat → FieldType := fun k => match k with
  | _ => .int
abbrev wsJx145de0 : List Cond := u_ws RJx145de TJx145de 0
theorem nmJx145de : ∀ a, a < 0 → ∀ b, b < 0 → a ≠ b → (TJx145de a).2.1 ≠ (TJx145de b).2.1 := by decide +kernel
theorem tyJx145de_ok : ∀ k, k < 0 → parseFieldDescriptor (TJx145de k).2.2.1 = some (tyJx145de k) := by decide +kernel
def RJx9f9b0 : String := "java/lang/CharSequence"
def TJx9f9b0 : u_T := fun k => match k with
  | _ => ("", "", "", false)
def tyJx9f9b0 : Nat → FieldType := fun k => match k with
  | _ => .int
abbrev wsJx9f9b00 : List Cond := u_ws RJx9f9b0 TJx9f9b0 0
theorem nmJx9f9b0 : ∀ a, a < 0 → ∀ b, b < 0 → a ≠ b → (TJx9f9b0 a).2.1 ≠ (TJx9f9b0 b).2.1 := by decide +kernel
theorem tyJx9f9b0_ok : ∀ k, k < 0 → parseFieldDescriptor (TJx9f9b0 k).2.2.1 = some (tyJx9f9b0 k) := by decide +kernel
def RJ11 : String := "java/lang/Character"
def TJ11 : u_T := fun k => match k with
  | _ => ("", "", "", false)
def tyJ11 : Nat → FieldType := fun k => match k with
  | _ => .int
abbrev wsJ110 : List Cond := u_ws RJ11 TJ11 0
theorem nmJ11 : ∀ a, a < 0 → ∀ b, b < 0 → a ≠ b → (TJ11 a).2.1 ≠ (TJ11 b).2.1 := by decide +kernel
theorem tyJ11_ok : ∀ k, k < 0 → parseFieldDescriptor (TJ11 k).2.2.1 = some (tyJ11 k) := by decide +kernel
abbrev cJ11_isValidCodePoint_9a6ad : ByteArray := prog_17_method_11_code
def yJ11_isValidCodePoint_9a6ad : MethodName := ⟨RJ11, "isValidCodePoint", "(I)Z"⟩
abbrev cJ11_highSurrogate_5068e : ByteArray := prog_17_method_28_code
def yJ11_highSurrogate_5068e : MethodName := ⟨RJ11, "highSurrogate", "(I)C"⟩
abbrev cJ11_lowSurrogate_5068e : ByteArray := prog_17_method_29_code
def yJ11_lowSurrogate_5068e : MethodName := ⟨RJ11, "lowSurrogate", "(I)C"⟩
def RJxb160c : String := "java/lang/Comparable"
def TJxb160c : u_T := fun k => match k with
  | _ => ("", "", "", false)
def tyJxb160c : Nat → FieldType := fun k => match k with
  | _ => .int
abbrev wsJxb160c0 : List Cond := u_ws RJxb160c TJxb160c 0
theorem nmJxb160c : ∀ a, a < 0 → ∀ b, b < 0 → a ≠ b → (TJxb160c a).2.1 ≠ (TJxb160c b).2.1 := by decide +kernel
theorem tyJxb160c_ok : ∀ k, k < 0 → parseFieldDescriptor (TJxb160c k).2.2.1 = some (tyJxb160c k) := by decide +kernel
def RJx29ce0 : String := "java/lang/Enum"
def TJx29ce0 : u_T := fun k => match k with
  | _ => ("", "", "", false)
def tyJx29ce0 : Nat → FieldType := fun k => match k with
  | _ => .int
abbrev wsJx29ce00 : List Cond := u_ws RJx29ce0 TJx29ce0 0
theorem nmJx29ce0 : ∀ a, a < 0 → ∀ b, b < 0 → a ≠ b → (TJx29ce0 a).2.1 ≠ (TJx29ce0 b).2.1 := by decide +kernel
theorem tyJx29ce0_ok : ∀ k, k < 0 → parseFieldDescriptor (TJx29ce0 k).2.2.1 = some (tyJx29ce0 k) := by decide +kernel
def RJ9 : String := "java/lang/Math"
def TJ9 : u_T := fun k => match k with
  | _ => ("", "", "", false)
def tyJ9 : Nat → FieldType := fun k => match k with
  | _ => .int
abbrev wsJ90 : List Cond := u_ws RJ9 TJ9 0
theorem nmJ9 : ∀ a, a < 0 → ∀ b, b < 0 → a ≠ b → (TJ9 a).2.1 ≠ (TJ9 b).2.1 := by decide +kernel
theorem tyJ9_ok : ∀ k, k < 0 → parseFieldDescriptor (TJ9 k).2.2.1 = some (tyJ9 k) := by decide +kernel
abbrev cJ9_max_7cf53 : ByteArray := prog_21_method_65_code
def yJ9_max_7cf53 : MethodName := ⟨RJ9, "max", "(II)I"⟩
abbrev cJ9_min_7cf53 : ByteArray := prog_21_method_69_code
def yJ9_min_7cf53 : MethodName := ⟨RJ9, "min", "(II)I"⟩
def RJ0 : String := "java/lang/String"
def TJ0 : u_T := fun k => match k with
  | _ => ("", "", "", false)
def tyJ0 : Nat → FieldType := fun k => match k with
  | _ => .int
abbrev wsJ00 : List Cond := u_ws RJ0 TJ0 0
theorem nmJ0 : ∀ a, a < 0 → ∀ b, b < 0 → a ≠ b → (TJ0 a).2.1 ≠ (TJ0 b).2.1 := by decide +kernel
theorem tyJ0_ok : ∀ k, k < 0 → parseFieldDescriptor (TJ0 k).2.2.1 = some (tyJ0 k) := by decide +kernel
abbrev cJ0_length_8abf5 : ByteArray := prog_23_method_54_code
def yJ0_length_8abf5 : MethodName := ⟨RJ0, "length", "()I"⟩
abbrev cJ0_charAt_5068e : ByteArray := prog_23_method_56_code
def yJ0_charAt_5068e : MethodName := ⟨RJ0, "charAt", "(I)C"⟩
abbrev cJ0_indexOf_0f7a4 : ByteArray := prog_23_method_79_code
def yJ0_indexOf_0f7a4 : MethodName := ⟨RJ0, "indexOf", "(I)I"⟩
abbrev cJ0_indexOf_7cf53 : ByteArray := prog_23_method_80_code
def yJ0_indexOf_7cf53 : MethodName := ⟨RJ0, "indexOf", "(II)I"⟩
abbrev cJ0_coder_7d493 : ByteArray := prog_23_method_152_code
def yJ0_coder_7d493 : MethodName := ⟨RJ0, "coder", "()B"⟩
abbrev cJ0_isLatin1_aae02 : ByteArray := prog_23_method_154_code
def yJ0_isLatin1_aae02 : MethodName := ⟨RJ0, "isLatin1", "()Z"⟩
abbrev cJ0_checkIndex_df160 : ByteArray := prog_23_method_155_code
def yJ0_checkIndex_df160 : MethodName := ⟨RJ0, "checkIndex", "(II)V"⟩
abbrev cJ0_checkBoundsBeginEnd_23922 : ByteArray := prog_23_method_158_code
def yJ0_checkBoundsBeginEnd_23922 : MethodName := ⟨RJ0, "checkBoundsBeginEnd", "(III)V"⟩
def RJ1 : String := "java/lang/StringLatin1"
def TJ1 : u_T := fun k => match k with
  | _ => ("", "", "", false)
def tyJ1 : Nat → FieldType := fun k => match k with
  | _ => .int
abbrev wsJ10 : List Cond := u_ws RJ1 TJ1 0
theorem nmJ1 : ∀ a, a < 0 → ∀ b, b < 0 → a ≠ b → (TJ1 a).2.1 ≠ (TJ1 b).2.1 := by decide +kernel
theorem tyJ1_ok : ∀ k, k < 0 → parseFieldDescriptor (TJ1 k).2.2.1 = some (tyJ1 k) := by decide +kernel
abbrev cJ1_charAt_3b067 : ByteArray := prog_24_method_2_code
def yJ1_charAt_3b067 : MethodName := ⟨RJ1, "charAt", "([BI)C"⟩
abbrev cJ1_canEncode_9a6ad : ByteArray := prog_24_method_4_code
def yJ1_canEncode_9a6ad : MethodName := ⟨RJ1, "canEncode", "(I)Z"⟩
abbrev cJ1_indexOf_4cfef : ByteArray := prog_24_method_22_code
def yJ1_indexOf_4cfef : MethodName := ⟨RJ1, "indexOf", "([BIII)I"⟩
abbrev cJ1_indexOfChar_4cfef : ByteArray := prog_24_method_23_code
def yJ1_indexOfChar_4cfef : MethodName := ⟨RJ1, "indexOfChar", "([BIII)I"⟩
def RJ2 : String := "java/lang/StringUTF16"
def TJ2 : u_T := fun k => match k with
  | _ => ("", "", "", false)
def tyJ2 : Nat → FieldType := fun k => match k with
  | _ => .int
abbrev wsJ20 : List Cond := u_ws RJ2 TJ2 0
theorem nmJ2 : ∀ a, a < 0 → ∀ b, b < 0 → a ≠ b → (TJ2 a).2.1 ≠ (TJ2 b).2.1 := by decide +kernel
theorem tyJ2_ok : ∀ k, k < 0 → parseFieldDescriptor (TJ2 k).2.2.1 = some (tyJ2 k) := by decide +kernel
abbrev cJ2_getChar_3b067 : ByteArray := prog_25_method_5_code
def yJ2_getChar_3b067 : MethodName := ⟨RJ2, "getChar", "([BI)C"⟩
abbrev cJ2_length_9d52b : ByteArray := prog_25_method_6_code
def yJ2_length_9d52b : MethodName := ⟨RJ2, "length", "([B)I"⟩
abbrev cJ2_indexOf_4cfef : ByteArray := prog_25_method_40_code
def yJ2_indexOf_4cfef : MethodName := ⟨RJ2, "indexOf", "([BIII)I"⟩
abbrev cJ2_indexOfChar_4cfef : ByteArray := prog_25_method_47_code
def yJ2_indexOfChar_4cfef : MethodName := ⟨RJ2, "indexOfChar", "([BIII)I"⟩
abbrev cJ2_indexOfCharUnsafe_4cfef : ByteArray := prog_25_method_48_code
def yJ2_indexOfCharUnsafe_4cfef : MethodName := ⟨RJ2, "indexOfCharUnsafe", "([BIII)I"⟩
abbrev cJ2_indexOfSupplementary_4cfef : ByteArray := prog_25_method_49_code
def yJ2_indexOfSupplementary_4cfef : MethodName := ⟨RJ2, "indexOfSupplementary", "([BIII)I"⟩
abbrev cJ2_charAt_3b067 : ByteArray := prog_25_method_83_code
def yJ2_charAt_3b067 : MethodName := ⟨RJ2, "charAt", "([BI)C"⟩
abbrev cJ2_checkIndex_2214a : ByteArray := prog_25_method_91_code
def yJ2_checkIndex_2214a : MethodName := ⟨RJ2, "checkIndex", "(I[B)V"⟩
abbrev cJ2_checkBoundsBeginEnd_d044e : ByteArray := prog_25_method_93_code
def yJ2_checkBoundsBeginEnd_d044e : MethodName := ⟨RJ2, "checkBoundsBeginEnd", "(II[B)V"⟩
def RJ10 : String := "java/lang/System"
def TJ10 : u_T := fun k => match k with
  | _ => ("", "", "", false)
def tyJ10 : Nat → FieldType := fun k => match k with
  | _ => .int
abbrev wsJ100 : List Cond := u_ws RJ10 TJ10 0
theorem nmJ10 : ∀ a, a < 0 → ∀ b, b < 0 → a ≠ b → (TJ10 a).2.1 ≠ (TJ10 b).2.1 := by decide +kernel
theorem tyJ10_ok : ∀ k, k < 0 → parseFieldDescriptor (TJ10 k).2.2.1 = some (tyJ10 k) := by decide +kernel
def RJxfd54e : String := "java/lang/constant/Constable"
def TJxfd54e : u_T := fun k => match k with
  | _ => ("", "", "", false)
def tyJxfd54e : Nat → FieldType := fun k => match k with
  | _ => .int
abbrev wsJxfd54e0 : List Cond := u_ws RJxfd54e TJxfd54e 0
theorem nmJxfd54e : ∀ a, a < 0 → ∀ b, b < 0 → a ≠ b → (TJxfd54e a).2.1 ≠ (TJxfd54e b).2.1 := by decide +kernel
theorem tyJxfd54e_ok : ∀ k, k < 0 → parseFieldDescriptor (TJxfd54e k).2.2.1 = some (tyJxfd54e k) := by decide +kernel
def RJx3cf43 : String := "java/lang/constant/ConstantDesc"
def TJx3cf43 : u_T := fun k => match k with
  | _ => ("", "", "", false)
def tyJx3cf43 : Nat → FieldType := fun k => match k with
  | _ => .int
abbrev wsJx3cf430 : List Cond := u_ws RJx3cf43 TJx3cf43 0
theorem nmJx3cf43 : ∀ a, a < 0 → ∀ b, b < 0 → a ≠ b → (TJx3cf43 a).2.1 ≠ (TJx3cf43 b).2.1 := by decide +kernel
theorem tyJx3cf43_ok : ∀ k, k < 0 → parseFieldDescriptor (TJx3cf43 k).2.2.1 = some (tyJx3cf43 k) := by decide +kernel
def RJ7 : String := "java/util/Arrays"
def TJ7 : u_T := fun k => match k with
  | _ => ("", "", "", false)
def tyJ7 : Nat → FieldType := fun k => match k with
  | _ => .int
abbrev wsJ70 : List Cond := u_ws RJ7 TJ7 0
theorem nmJ7 : ∀ a, a < 0 → ∀ b, b < 0 → a ≠ b → (TJ7 a).2.1 ≠ (TJ7 b).2.1 := by decide +kernel
theorem tyJ7_ok : ∀ k, k < 0 → parseFieldDescriptor (TJ7 k).2.2.1 = some (tyJ7 k) := by decide +kernel
abbrev cJ7_fill_53178 : ByteArray := prog_30_method_103_code
def yJ7_fill_53178 : MethodName := ⟨RJ7, "fill", "([II)V"⟩
def RJ3 : String := "jdk/internal/util/Preconditions"
def TJ3 : u_T := fun k => match k with
  | _ => ("", "", "", false)
def tyJ3 : Nat → FieldType := fun k => match k with
  | _ => .int
abbrev wsJ30 : List Cond := u_ws RJ3 TJ3 0
theorem nmJ3 : ∀ a, a < 0 → ∀ b, b < 0 → a ≠ b → (TJ3 a).2.1 ≠ (TJ3 b).2.1 := by decide +kernel
theorem tyJ3_ok : ∀ k, k < 0 → parseFieldDescriptor (TJ3 k).2.2.1 = some (tyJ3 k) := by decide +kernel
abbrev cJ3_checkIndex_8e157 : ByteArray := prog_32_method_11_code
def yJ3_checkIndex_8e157 : MethodName := ⟨RJ3, "checkIndex", "(IILjava/util/function/BiFunction;)I"⟩
abbrev cJ3_checkFromToIndex_8c36e : ByteArray := prog_32_method_12_code
def yJ3_checkFromToIndex_8c36e : MethodName := ⟨RJ3, "checkFromToIndex", "(IIILjava/util/function/BiFunction;)I"⟩
def RL : String := "TownExchangeLaw"
abbrev cL_look : ByteArray := method_3_code
def yL_look : MethodName := ⟨RL, "look", "(LTownExchange;II[J)I"⟩
abbrev cL_law : ByteArray := code
def yL_law : MethodName := ⟨RL, "law", "([I)Z"⟩
abbrev vwCl : List vw_C := [(RX0, TX0, 4), (RX1, TX1, 9), (RX2, TX2, 12), (RX3, TX3, 4), (RX4, TX4, 9), (RX5, TX5, 6), (RX6, TX6, 6), (RX7, TX7, 13), (RX8, TX8, 11), (RX9, TX9, 5), (RX11, TX11, 10), (RX12, TX12, 82)]
end
section
/-! TABLES of the abstract machine, written by a program (wip/whole/gen) out of the names that the claim prints -/
def zE {α : Type} (x k : Nat) (a b : α) : α := bif Nat.beq x k then a else b
def zH {α : Type} (x k : Nat) (a b : α) : α := bif Nat.blt x k then a else b
def zQ (x k : Nat) (i : Instr) (n : Nat) : Option (Instr × Nat) := bif Nat.beq x k then some (i, n) else none
def zc_0 (pc : Nat) : Option (Instr × Nat) := (zH pc 60 (zH pc 33 (zH pc 16 (zH pc 6 (zH pc 4 (zH pc 1 (zQ pc 0 (.aload_n 0) 1) (zQ pc 1 (.getfield 21) 3)) (zH pc 5 (zQ pc 4 (.iconst 0) 1) (zQ pc 5 (.iload_n 1) 1))) (zH pc 12 (zH pc 9 (zQ pc 6 (.invokevirtual 31) 3) (zQ pc 9 (.ifCond .eq 24) 3)) (zH pc 13 (zQ pc 12 (.aload_n 0) 1) (zQ pc 13 (.getfield 21) 3)))) (zH pc 24 (zH pc 18 (zH pc 17 (zQ pc 16 (.iconst 1) 1) (zQ pc 17 (.iload_n 2) 1)) (zH pc 21 (zQ pc 18 (.invokevirtual 31) 3) (zQ pc 21 (.ifCond .eq 12) 3))) (zH pc 28 (zH pc 25 (zQ pc 24 (.aload_n 0) 1) (zQ pc 25 (.getfield 37) 3)) (zH pc 30 (zQ pc 28 (.bipush 40) 2) (zQ pc 30 (.if_icmp .ne 5) 3))))) (zH pc 46 (zH pc 39 (zH pc 35 (zH pc 34 (zQ pc 33 (.iconst (-1)) 1) (zQ pc 34 .ireturn 1)) (zH pc 36 (zQ pc 35 (.iload_n 3) 1) (zQ pc 36 (.ifCond .lt 24) 3))) (zH pc 42 (zH pc 40 (zQ pc 39 (.iload_n 3) 1) (zQ pc 40 (.bipush 100) 2)) (zH pc 45 (zQ pc 42 (.if_icmp .ge 18) 3) (zQ pc 45 (.aload_n 0) 1)))) (zH pc 53 (zH pc 50 (zH pc 49 (zQ pc 46 (.getfield 17) 3) (zQ pc 49 (.iload_n 2) 1)) (zH pc 52 (zQ pc 50 (.bipush 100) 2) (zQ pc 52 .imul 1))) (zH pc 55 (zH pc 54 (zQ pc 53 (.iload_n 3) 1) (zQ pc 54 .iadd 1)) (zH pc 56 (zQ pc 55 .iaload 1) (zH pc 57 (zQ pc 56 (.iconst (-1)) 1) (zQ pc 57 (.if_icmp .eq 5) 3))))))) (zH pc 90 (zH pc 74 (zH pc 66 (zH pc 62 (zH pc 61 (zQ pc 60 (.iconst (-1)) 1) (zQ pc 61 .ireturn 1)) (zH pc 63 (zQ pc 62 (.aload_n 0) 1) (zQ pc 63 (.getfield 11) 3))) (zH pc 70 (zH pc 67 (zQ pc 66 (.aload_n 0) 1) (zQ pc 67 (.getfield 37) 3)) (zH pc 73 (zQ pc 70 (.new 9) 3) (zQ pc 73 .dup 1)))) (zH pc 82 (zH pc 78 (zH pc 75 (zQ pc 74 (.aload_n 0) 1) (zQ pc 75 (.getfield 37) 3)) (zH pc 79 (zQ pc 78 (.iload_n 1) 1) (zQ pc 79 (.invokespecial 41) 3))) (zH pc 84 (zH pc 83 (zQ pc 82 .aastore 1) (zQ pc 83 (.aload_n 0) 1)) (zH pc 87 (zQ pc 84 (.getfield 17) 3) (zH pc 88 (zQ pc 87 (.iload_n 2) 1) (zQ pc 88 (.bipush 100) 2)))))) (zH pc 100 (zH pc 94 (zH pc 92 (zH pc 91 (zQ pc 90 .imul 1) (zQ pc 91 (.iload_n 3) 1)) (zH pc 93 (zQ pc 92 .iadd 1) (zQ pc 93 (.aload_n 0) 1))) (zH pc 98 (zH pc 97 (zQ pc 94 (.getfield 37) 3) (zQ pc 97 .iastore 1)) (zH pc 99 (zQ pc 98 (.aload_n 0) 1) (zQ pc 99 .dup 1)))) (zH pc 108 (zH pc 104 (zH pc 103 (zQ pc 100 (.getfield 37) 3) (zQ pc 103 (.iconst 1) 1)) (zH pc 105 (zQ pc 104 .iadd 1) (zQ pc 105 (.putfield 37) 3))) (zH pc 112 (zH pc 109 (zQ pc 108 (.aload_n 0) 1) (zQ pc 109 (.getfield 37) 3)) (zH pc 113 (zQ pc 112 (.iconst 1) 1) (zH pc 114 (zQ pc 113 .isub 1) (zQ pc 114 .ireturn 1))))))))
def zc_1 (pc : Nat) : Option (Instr × Nat) := (zH pc 9 (zH pc 4 (zH pc 1 (zQ pc 0 (.iload_n 1) 1) (zQ pc 1 (.ifCond .lt 15) 3)) (zH pc 5 (zQ pc 4 (.iload_n 1) 1) (zH pc 6 (zQ pc 5 (.aload_n 0) 1) (zQ pc 6 (.getfield 37) 3)))) (zH pc 13 (zH pc 12 (zQ pc 9 (.if_icmp .ge 7) 3) (zQ pc 12 (.iconst 1) 1)) (zH pc 16 (zQ pc 13 (.goto 4) 3) (zH pc 17 (zQ pc 16 (.iconst 0) 1) (zQ pc 17 .ireturn 1)))))
def zc_2 (pc : Nat) : Option (Instr × Nat) := (zH pc 16 (zH pc 6 (zH pc 4 (zH pc 1 (zQ pc 0 (.iload_n 1) 1) (zQ pc 1 (.ifCond .lt 27) 3)) (zH pc 5 (zQ pc 4 (.iload_n 1) 1) (zQ pc 5 (.aload_n 0) 1))) (zH pc 12 (zH pc 9 (zQ pc 6 (.getfield 37) 3) (zQ pc 9 (.if_icmp .ge 19) 3)) (zH pc 13 (zQ pc 12 (.aload_n 0) 1) (zQ pc 13 (.getfield 11) 3)))) (zH pc 24 (zH pc 18 (zH pc 17 (zQ pc 16 (.iload_n 1) 1) (zQ pc 17 .aaload 1)) (zH pc 21 (zQ pc 18 (.getfield 44) 3) (zQ pc 21 (.ifCond .ne 7) 3))) (zH pc 28 (zH pc 25 (zQ pc 24 (.iconst 1) 1) (zQ pc 25 (.goto 4) 3)) (zH pc 29 (zQ pc 28 (.iconst 0) 1) (zQ pc 29 .ireturn 1)))))
def zc_3 (pc : Nat) : Option (Instr × Nat) := (zH pc 16 (zH pc 6 (zH pc 4 (zH pc 1 (zQ pc 0 (.iload_n 1) 1) (zQ pc 1 (.ifCond .lt 28) 3)) (zH pc 5 (zQ pc 4 (.iload_n 1) 1) (zQ pc 5 (.aload_n 0) 1))) (zH pc 12 (zH pc 9 (zQ pc 6 (.getfield 37) 3) (zQ pc 9 (.if_icmp .ge 20) 3)) (zH pc 13 (zQ pc 12 (.aload_n 0) 1) (zQ pc 13 (.getfield 11) 3)))) (zH pc 22 (zH pc 18 (zH pc 17 (zQ pc 16 (.iload_n 1) 1) (zQ pc 17 .aaload 1)) (zH pc 21 (zQ pc 18 (.getfield 44) 3) (zQ pc 21 (.iconst 1) 1))) (zH pc 26 (zH pc 25 (zQ pc 22 (.if_icmp .ne 7) 3) (zQ pc 25 (.iconst 1) 1)) (zH pc 29 (zQ pc 26 (.goto 4) 3) (zH pc 30 (zQ pc 29 (.iconst 0) 1) (zQ pc 30 .ireturn 1))))))
def zc_4 (pc : Nat) : Option (Instr × Nat) := (zH pc 15 (zH pc 5 (zH pc 2 (zH pc 1 (zQ pc 0 (.iconst 0) 1) (zQ pc 1 (.istore_n 1) 1)) (zH pc 3 (zQ pc 2 (.iconst 0) 1) (zH pc 4 (zQ pc 3 (.istore_n 2) 1) (zQ pc 4 (.iload_n 2) 1)))) (zH pc 12 (zH pc 6 (zQ pc 5 (.aload_n 0) 1) (zH pc 9 (zQ pc 6 (.getfield 37) 3) (zQ pc 9 (.if_icmp .ge 25) 3))) (zH pc 13 (zQ pc 12 (.iload_n 1) 1) (zH pc 14 (zQ pc 13 (.aload_n 0) 1) (zQ pc 14 (.iload_n 2) 1))))) (zH pc 26 (zH pc 21 (zH pc 18 (zQ pc 15 (.invokevirtual 47) 3) (zQ pc 18 (.ifCond .eq 7) 3)) (zH pc 22 (zQ pc 21 (.iconst 1) 1) (zH pc 25 (zQ pc 22 (.goto 4) 3) (zQ pc 25 (.iconst 0) 1)))) (zH pc 31 (zH pc 27 (zQ pc 26 .iadd 1) (zH pc 28 (zQ pc 27 (.istore_n 1) 1) (zQ pc 28 (.iinc 2 1) 3))) (zH pc 34 (zQ pc 31 (.goto (-27)) 3) (zH pc 35 (zQ pc 34 (.iload_n 1) 1) (zQ pc 35 .ireturn 1))))))
def zc_5 (pc : Nat) : Option (Instr × Nat) := (zH pc 26 (zH pc 14 (zH pc 5 (zH pc 1 (zQ pc 0 (.iload_n 1) 1) (zH pc 4 (zQ pc 1 (.ifCond .lt 23) 3) (zQ pc 4 (.iload_n 1) 1))) (zH pc 10 (zH pc 7 (zQ pc 5 (.bipush 96) 2) (zQ pc 7 (.if_icmp .ge 17) 3)) (zH pc 11 (zQ pc 10 (.iload_n 2) 1) (zQ pc 11 (.ifCond .lt 13) 3)))) (zH pc 20 (zH pc 15 (zQ pc 14 (.iload_n 2) 1) (zH pc 17 (zQ pc 15 (.bipush 100) 2) (zQ pc 17 (.if_icmp .ge 7) 3))) (zH pc 24 (zH pc 21 (zQ pc 20 (.iconst 1) 1) (zQ pc 21 (.goto 4) 3)) (zH pc 25 (zQ pc 24 (.iconst 0) 1) (zQ pc 25 (.istore_n 3) 1))))) (zH pc 38 (zH pc 31 (zH pc 27 (zQ pc 26 (.iload_n 3) 1) (zH pc 30 (zQ pc 27 (.ifCond .eq 20) 3) (zQ pc 30 (.aload_n 0) 1))) (zH pc 35 (zH pc 34 (zQ pc 31 (.getfield 17) 3) (zQ pc 34 (.iload_n 1) 1)) (zH pc 37 (zQ pc 35 (.bipush 8) 2) (zQ pc 37 .idiv 1)))) (zH pc 43 (zH pc 41 (zH pc 40 (zQ pc 38 (.bipush 100) 2) (zQ pc 40 .imul 1)) (zH pc 42 (zQ pc 41 (.iload_n 2) 1) (zQ pc 42 .iadd 1))) (zH pc 47 (zH pc 44 (zQ pc 43 .iaload 1) (zQ pc 44 (.goto 4) 3)) (zH pc 48 (zQ pc 47 (.iconst (-1)) 1) (zQ pc 48 .ireturn 1))))))
def zc_6 (pc : Nat) : Option (Instr × Nat) := (zH pc 29 (zH pc 12 (zH pc 7 (zH pc 4 (zH pc 1 (zQ pc 0 (.aload_n 1) 1) (zQ pc 1 (.getfield 51) 3)) (zH pc 6 (zQ pc 4 (.bipush 8) 2) (zQ pc 6 .imul 1))) (zH pc 9 (zH pc 8 (zQ pc 7 (.istore_n 2) 1) (zQ pc 8 (.iload_n 2) 1)) (zH pc 10 (zQ pc 9 (.istore_n 3) 1) (zH pc 11 (zQ pc 10 (.iload_n 3) 1) (zQ pc 11 (.iload_n 2) 1))))) (zH pc 20 (zH pc 16 (zH pc 13 (zQ pc 12 (.aload_n 0) 1) (zQ pc 13 (.getfield 21) 3)) (zH pc 19 (zQ pc 16 (.getfield 54) 3) (zQ pc 19 (.aload_n 1) 1))) (zH pc 24 (zH pc 23 (zQ pc 20 (.getfield 51) 3) (zQ pc 23 .iaload 1)) (zH pc 25 (zQ pc 24 .iadd 1) (zH pc 28 (zQ pc 25 (.if_icmp .ge 37) 3) (zQ pc 28 (.aload_n 0) 1)))))) (zH pc 46 (zH pc 39 (zH pc 33 (zH pc 32 (zQ pc 29 (.getfield 21) 3) (zQ pc 32 (.iload_n 3) 1)) (zH pc 36 (zQ pc 33 (.invokevirtual 57) 3) (zQ pc 36 (.ifCond .eq 20) 3))) (zH pc 41 (zH pc 40 (zQ pc 39 (.aload_n 1) 1) (zQ pc 40 (.iconst 1) 1)) (zH pc 44 (zQ pc 41 (.putfield 44) 3) (zH pc 45 (zQ pc 44 (.aload_n 0) 1) (zQ pc 45 (.aload_n 1) 1))))) (zH pc 55 (zH pc 48 (zH pc 47 (zQ pc 46 (.iload_n 3) 1) (zQ pc 47 (.iconst 0) 1)) (zH pc 51 (zQ pc 48 (.invokevirtual 60) 3) (zH pc 52 (zQ pc 51 (.aload_n 1) 1) (zQ pc 52 (.getfield 64) 3)))) (zH pc 59 (zH pc 56 (zQ pc 55 .ireturn 1) (zQ pc 56 (.iinc 3 1) 3)) (zH pc 62 (zQ pc 59 (.goto (-49)) 3) (zH pc 64 (zQ pc 62 (.bipush 7) 2) (zQ pc 64 .ireturn 1)))))))
def zc_7 (pc : Nat) : Option (Instr × Nat) := (zH pc 46 (zH pc 22 (zH pc 12 (zH pc 7 (zH pc 1 (zQ pc 0 (.aload_n 1) 1) (zH pc 4 (zQ pc 1 (.getfield 64) 3) (zQ pc 4 (.ifCond .eq 16) 3))) (zH pc 8 (zQ pc 7 (.aload_n 1) 1) (zH pc 11 (zQ pc 8 (.getfield 64) 3) (zQ pc 11 (.iconst 1) 1)))) (zH pc 19 (zH pc 15 (zQ pc 12 (.if_icmp .eq 8) 3) (zH pc 16 (zQ pc 15 (.aload_n 1) 1) (zQ pc 16 (.getfield 64) 3))) (zH pc 20 (zQ pc 19 .ireturn 1) (zH pc 21 (zQ pc 20 (.aload_n 1) 1) (zQ pc 21 (.iload_n 2) 1))))) (zH pc 34 (zH pc 29 (zH pc 25 (zQ pc 22 (.invokevirtual 67) 3) (zH pc 26 (zQ pc 25 (.aload_n 1) 1) (zQ pc 26 (.invokevirtual 71) 3))) (zH pc 30 (zQ pc 29 (.istore_n 3) 1) (zH pc 31 (zQ pc 30 (.aload_n 0) 1) (zQ pc 31 (.getfield 21) 3)))) (zH pc 41 (zH pc 35 (zQ pc 34 (.iload_n 3) 1) (zH pc 38 (zQ pc 35 (.invokevirtual 75) 3) (zQ pc 38 (.ifCond .eq 23) 3))) (zH pc 42 (zQ pc 41 (.aload_n 1) 1) (zH pc 43 (zQ pc 42 (.aload_n 1) 1) (zQ pc 43 (.getfield 78) 3)))))) (zH pc 72 (zH pc 58 (zH pc 51 (zH pc 47 (zQ pc 46 (.iconst 3) 1) (zH pc 50 (zQ pc 47 (.if_icmp .ge 7) 3) (zQ pc 50 (.iconst 1) 1))) (zH pc 54 (zQ pc 51 (.goto 4) 3) (zH pc 55 (zQ pc 54 (.iconst 5) 1) (zQ pc 55 (.putfield 64) 3)))) (zH pc 65 (zH pc 61 (zQ pc 58 (.goto 30) 3) (zH pc 62 (zQ pc 61 (.aload_n 0) 1) (zQ pc 62 (.getfield 21) 3))) (zH pc 66 (zQ pc 65 (.iload_n 3) 1) (zH pc 69 (zQ pc 66 (.invokevirtual 81) 3) (zQ pc 69 (.ifCond .eq 12) 3))))) (zH pc 82 (zH pc 75 (zH pc 73 (zQ pc 72 (.aload_n 0) 1) (zH pc 74 (zQ pc 73 (.aload_n 1) 1) (zQ pc 74 (.iload_n 3) 1))) (zH pc 78 (zQ pc 75 (.invokevirtual 84) 3) (zH pc 81 (zQ pc 78 (.goto 10) 3) (zQ pc 81 (.aload_n 0) 1)))) (zH pc 85 (zH pc 83 (zQ pc 82 (.aload_n 1) 1) (zH pc 84 (zQ pc 83 (.iload_n 3) 1) (zQ pc 84 (.iload_n 2) 1))) (zH pc 89 (zH pc 88 (zQ pc 85 (.invokevirtual 88) 3) (zQ pc 88 (.aload_n 1) 1)) (zH pc 92 (zQ pc 89 (.getfield 64) 3) (zQ pc 92 .ireturn 1)))))))
def zc_8 (pc : Nat) : Option (Instr × Nat) := (zH pc 34 (zH pc 16 (zH pc 9 (zH pc 4 (zH pc 1 (zQ pc 0 (.aload_n 1) 1) (zQ pc 1 (.getfield 78) 3)) (zH pc 5 (zQ pc 4 (.iconst 2) 1) (zH pc 8 (zQ pc 5 (.if_icmp .ge 9) 3) (zQ pc 8 (.aload_n 1) 1)))) (zH pc 13 (zH pc 10 (zQ pc 9 (.iconst 1) 1) (zQ pc 10 (.putfield 64) 3)) (zH pc 14 (zQ pc 13 .return_ 1) (zH pc 15 (zQ pc 14 (.aload_n 0) 1) (zQ pc 15 (.iload_n 2) 1))))) (zH pc 25 (zH pc 20 (zH pc 17 (zQ pc 16 (.aload_n 1) 1) (zQ pc 17 (.getfield 91) 3)) (zH pc 23 (zQ pc 20 (.invokevirtual 94) 3) (zH pc 24 (zQ pc 23 (.istore_n 3) 1) (zQ pc 24 (.aload_n 0) 1)))) (zH pc 29 (zH pc 26 (zQ pc 25 (.iload_n 3) 1) (zQ pc 26 (.invokevirtual 98) 3)) (zH pc 32 (zQ pc 29 (.ifCond .eq 26) 3) (zH pc 33 (zQ pc 32 (.aload_n 1) 1) (zQ pc 33 (.iconst 5) 1)))))) (zH pc 52 (zH pc 43 (zH pc 38 (zH pc 37 (zQ pc 34 (.putfield 64) 3) (zQ pc 37 (.aload_n 1) 1)) (zH pc 39 (zQ pc 38 (.iload_n 3) 1) (zH pc 42 (zQ pc 39 (.putfield 101) 3) (zQ pc 42 (.aload_n 0) 1)))) (zH pc 47 (zH pc 46 (zQ pc 43 (.getfield 11) 3) (zQ pc 46 (.iload_n 3) 1)) (zH pc 48 (zQ pc 47 .aaload 1) (zH pc 49 (zQ pc 48 (.iconst 2) 1) (zQ pc 49 (.putfield 44) 3))))) (zH pc 61 (zH pc 56 (zH pc 55 (zQ pc 52 (.goto 17) 3) (zQ pc 55 (.aload_n 1) 1)) (zH pc 57 (zQ pc 56 (.iload_n 3) 1) (zH pc 58 (zQ pc 57 (.iconst (-1)) 1) (zQ pc 58 (.if_icmp .ne 7) 3)))) (zH pc 65 (zH pc 62 (zQ pc 61 (.iconst 4) 1) (zQ pc 62 (.goto 4) 3)) (zH pc 66 (zQ pc 65 (.iconst 3) 1) (zH pc 69 (zQ pc 66 (.putfield 64) 3) (zQ pc 69 .return_ 1)))))))
def zc_9 (pc : Nat) : Option (Instr × Nat) := (zH pc 41 (zH pc 18 (zH pc 8 (zH pc 3 (zH pc 1 (zQ pc 0 (.iconst 0) 1) (zQ pc 1 (.istore 4) 2)) (zH pc 4 (zQ pc 3 (.iconst 0) 1) (zH pc 6 (zQ pc 4 (.istore 5) 2) (zQ pc 6 (.iload 5) 2)))) (zH pc 13 (zH pc 9 (zQ pc 8 (.iconst 4) 1) (zH pc 12 (zQ pc 9 (.if_icmp .ge 61) 3) (zQ pc 12 (.aload_n 0) 1))) (zH pc 16 (zQ pc 13 (.getfield 21) 3) (zH pc 17 (zQ pc 16 (.iload_n 2) 1) (zQ pc 17 (.iload_n 3) 1))))) (zH pc 29 (zH pc 23 (zH pc 20 (zQ pc 18 (.iload 5) 2) (zQ pc 20 (.invokevirtual 104) 3)) (zH pc 25 (zQ pc 23 (.istore 6) 2) (zH pc 26 (zQ pc 25 (.aload_n 0) 1) (zQ pc 26 (.getfield 21) 3)))) (zH pc 37 (zH pc 31 (zQ pc 29 (.iload 6) 2) (zH pc 34 (zQ pc 31 (.invokevirtual 57) 3) (zQ pc 34 (.ifCond .eq 12) 3))) (zH pc 38 (zQ pc 37 (.aload_n 0) 1) (zH pc 39 (zQ pc 38 (.aload_n 1) 1) (zQ pc 39 (.iload 6) 2)))))) (zH pc 62 (zH pc 51 (zH pc 45 (zH pc 42 (zQ pc 41 (.iconst 1) 1) (zQ pc 42 (.invokevirtual 60) 3)) (zH pc 46 (zQ pc 45 .return_ 1) (zH pc 48 (zQ pc 46 (.iload 4) 2) (zQ pc 48 (.ifCond .ne 9) 3)))) (zH pc 57 (zH pc 53 (zQ pc 51 (.iload 6) 2) (zH pc 54 (zQ pc 53 (.iconst (-1)) 1) (zQ pc 54 (.if_icmp .eq 7) 3))) (zH pc 58 (zQ pc 57 (.iconst 1) 1) (zH pc 61 (zQ pc 58 (.goto 4) 3) (zQ pc 61 (.iconst 0) 1))))) (zH pc 73 (zH pc 67 (zH pc 64 (zQ pc 62 (.istore 4) 2) (zQ pc 64 (.iinc 5 1) 3)) (zH pc 70 (zQ pc 67 (.goto (-61)) 3) (zH pc 71 (zQ pc 70 (.aload_n 1) 1) (zQ pc 71 (.iload 4) 2)))) (zH pc 80 (zH pc 76 (zQ pc 73 (.ifCond .eq 7) 3) (zH pc 77 (zQ pc 76 (.iconst 3) 1) (zQ pc 77 (.goto 4) 3))) (zH pc 81 (zQ pc 80 (.iconst 4) 1) (zH pc 84 (zQ pc 81 (.putfield 64) 3) (zQ pc 84 .return_ 1)))))))
def zc_10 (pc : Nat) : Option (Instr × Nat) := (zH pc 18 (zH pc 9 (zH pc 4 (zH pc 1 (zQ pc 0 (.aload_n 0) 1) (zQ pc 1 (.getfield 21) 3)) (zH pc 7 (zQ pc 4 (.getfield 108) 3) (zH pc 8 (zQ pc 7 (.iload_n 2) 1) (zQ pc 8 (.aload_n 1) 1)))) (zH pc 13 (zH pc 12 (zQ pc 9 (.getfield 111) 3) (zQ pc 12 .iastore 1)) (zH pc 14 (zQ pc 13 (.aload_n 1) 1) (zH pc 15 (zQ pc 14 (.iload_n 2) 1) (zQ pc 15 (.invokevirtual 114) 3))))) (zH pc 27 (zH pc 20 (zH pc 19 (zQ pc 18 (.aload_n 1) 1) (zQ pc 19 (.aload_n 0) 1)) (zH pc 23 (zQ pc 20 (.getfield 21) 3) (zH pc 24 (zQ pc 23 (.iload_n 2) 1) (zQ pc 24 (.invokevirtual 117) 3)))) (zH pc 34 (zH pc 30 (zQ pc 27 (.ifCond .eq 7) 3) (zH pc 31 (zQ pc 30 (.iconst 2) 1) (zQ pc 31 (.goto 4) 3))) (zH pc 35 (zQ pc 34 (.iload_n 3) 1) (zH pc 38 (zQ pc 35 (.putfield 64) 3) (zQ pc 38 .return_ 1))))))
def zc_11 (pc : Nat) : Option (Instr × Nat) := (zH pc 23 (zH pc 10 (zH pc 5 (zH pc 1 (zQ pc 0 (.aload_n 0) 1) (zH pc 2 (zQ pc 1 (.aload_n 1) 1) (zQ pc 2 (.invokevirtual 120) 3))) (zH pc 7 (zQ pc 5 (.istore 4) 2) (zH pc 8 (zQ pc 7 (.iconst 0) 1) (zQ pc 8 (.istore 5) 2)))) (zH pc 16 (zH pc 12 (zQ pc 10 (.iload 5) 2) (zH pc 13 (zQ pc 12 (.iload_n 3) 1) (zQ pc 13 (.if_icmp .ge 30) 3))) (zH pc 18 (zQ pc 16 (.iload 4) 2) (zH pc 20 (zQ pc 18 (.bipush 7) 2) (zQ pc 20 (.if_icmp .eq 23) 3))))) (zH pc 32 (zH pc 26 (zH pc 24 (zQ pc 23 (.aload_n 0) 1) (zH pc 25 (zQ pc 24 (.aload_n 1) 1) (zQ pc 25 (.iload_n 2) 1))) (zH pc 27 (zQ pc 26 (.iload_n 3) 1) (zH pc 29 (zQ pc 27 (.iload 5) 2) (zQ pc 29 (.invokestatic 124) 3)))) (zH pc 40 (zH pc 35 (zQ pc 32 (.invokevirtual 127) 3) (zH pc 37 (zQ pc 35 (.istore 4) 2) (zQ pc 37 (.iinc 5 1) 3))) (zH pc 43 (zQ pc 40 (.goto (-30)) 3) (zH pc 45 (zQ pc 43 (.iload 4) 2) (zQ pc 45 .ireturn 1))))))
def zc_12 (pc : Nat) : Option (Instr × Nat) := (zH pc 20 (zH pc 10 (zH pc 5 (zH pc 1 (zQ pc 0 (.aload_n 1) 1) (zH pc 4 (zQ pc 1 (.getfield 44) 3) (zQ pc 4 (.iconst 1) 1))) (zH pc 8 (zQ pc 5 (.if_icmp .eq 4) 3) (zH pc 9 (zQ pc 8 .return_ 1) (zQ pc 9 (.aload_n 0) 1)))) (zH pc 15 (zH pc 11 (zQ pc 10 (.aload_n 1) 1) (zH pc 12 (zQ pc 11 (.iconst (-1)) 1) (zQ pc 12 (.invokevirtual 131) 3))) (zH pc 16 (zQ pc 15 (.aload_n 0) 1) (zH pc 17 (zQ pc 16 (.aload_n 1) 1) (zQ pc 17 (.getfield 101) 3))))) (zH pc 34 (zH pc 27 (zH pc 23 (zQ pc 20 (.invokevirtual 134) 3) (zH pc 26 (zQ pc 23 (.ifCond .eq 16) 3) (zQ pc 26 (.aload_n 0) 1))) (zH pc 30 (zQ pc 27 (.getfield 11) 3) (zH pc 31 (zQ pc 30 (.aload_n 1) 1) (zQ pc 31 (.getfield 101) 3)))) (zH pc 39 (zH pc 35 (zQ pc 34 .aaload 1) (zH pc 36 (zQ pc 35 (.iconst 0) 1) (zQ pc 36 (.putfield 44) 3))) (zH pc 40 (zQ pc 39 (.aload_n 1) 1) (zH pc 43 (zQ pc 40 (.invokevirtual 137) 3) (zQ pc 43 .return_ 1))))))
def zc_13 (pc : Nat) : Option (Instr × Nat) := (zH pc 17 (zH pc 4 (zH pc 2 (zH pc 1 (zQ pc 0 (.iconst 0) 1) (zQ pc 1 (.istore_n 3) 1)) (zH pc 3 (zQ pc 2 (.iload_n 3) 1) (zQ pc 3 (.aload_n 1) 1))) (zH pc 10 (zH pc 7 (zQ pc 4 (.getfield 140) 3) (zQ pc 7 (.if_icmp .ge 24) 3)) (zH pc 11 (zQ pc 10 (.aload_n 0) 1) (zH pc 14 (zQ pc 11 (.getfield 21) 3) (zQ pc 14 (.getfield 108) 3))))) (zH pc 23 (zH pc 21 (zH pc 18 (zQ pc 17 (.aload_n 1) 1) (zQ pc 18 (.getfield 143) 3)) (zH pc 22 (zQ pc 21 (.iload_n 3) 1) (zQ pc 22 .iaload 1))) (zH pc 25 (zH pc 24 (zQ pc 23 (.iload_n 2) 1) (zQ pc 24 .iastore 1)) (zH pc 28 (zQ pc 25 (.iinc 3 1) 3) (zH pc 31 (zQ pc 28 (.goto (-26)) 3) (zQ pc 31 .return_ 1))))))
def zc_14 (pc : Nat) : Option (Instr × Nat) := (zH pc 32 (zH pc 19 (zH pc 10 (zH pc 4 (zH pc 1 (zQ pc 0 (.aload_n 0) 1) (zQ pc 1 (.getfield 33) 3)) (zH pc 7 (zQ pc 4 (.sipush 200) 3) (zQ pc 7 (.if_icmp .ne 4) 3))) (zH pc 12 (zH pc 11 (zQ pc 10 .return_ 1) (zQ pc 11 (.aload_n 0) 1)) (zH pc 15 (zQ pc 12 (.getfield 11) 3) (zH pc 16 (zQ pc 15 (.aload_n 0) 1) (zQ pc 16 (.getfield 33) 3))))) (zH pc 25 (zH pc 21 (zH pc 20 (zQ pc 19 (.iload_n 1) 1) (zQ pc 20 .iastore 1)) (zH pc 22 (zQ pc 21 (.aload_n 0) 1) (zQ pc 22 (.getfield 15) 3))) (zH pc 29 (zH pc 26 (zQ pc 25 (.aload_n 0) 1) (zQ pc 26 (.getfield 33) 3)) (zH pc 30 (zQ pc 29 (.iload_n 2) 1) (zH pc 31 (zQ pc 30 .iastore 1) (zQ pc 31 (.aload_n 0) 1)))))) (zH pc 49 (zH pc 40 (zH pc 36 (zH pc 35 (zQ pc 32 (.getfield 18) 3) (zQ pc 35 (.aload_n 0) 1)) (zH pc 39 (zQ pc 36 (.getfield 33) 3) (zQ pc 39 (.iload_n 3) 1))) (zH pc 42 (zH pc 41 (zQ pc 40 .iastore 1) (zQ pc 41 (.aload_n 0) 1)) (zH pc 45 (zQ pc 42 (.getfield 21) 3) (zH pc 46 (zQ pc 45 (.aload_n 0) 1) (zQ pc 46 (.getfield 33) 3))))) (zH pc 54 (zH pc 52 (zH pc 51 (zQ pc 49 (.iload 4) 2) (zQ pc 51 .iastore 1)) (zH pc 53 (zQ pc 52 (.aload_n 0) 1) (zQ pc 53 .dup 1))) (zH pc 58 (zH pc 57 (zQ pc 54 (.getfield 33) 3) (zQ pc 57 (.iconst 1) 1)) (zH pc 59 (zQ pc 58 .iadd 1) (zH pc 62 (zQ pc 59 (.putfield 33) 3) (zQ pc 62 .return_ 1)))))))
def zc_15 (pc : Nat) : Option (Instr × Nat) := (zH pc 43 (zH pc 20 (zH pc 9 (zH pc 4 (zH pc 1 (zQ pc 0 (.iload_n 1) 1) (zQ pc 1 (.ifCond .lt 32) 3)) (zH pc 5 (zQ pc 4 (.iload_n 1) 1) (zH pc 6 (zQ pc 5 (.aload_n 0) 1) (zQ pc 6 (.getfield 33) 3)))) (zH pc 13 (zH pc 12 (zQ pc 9 (.if_icmp .ge 24) 3) (zQ pc 12 (.iload_n 2) 1)) (zH pc 16 (zQ pc 13 (.ifCond .lt 20) 3) (zH pc 17 (zQ pc 16 (.iload_n 2) 1) (zQ pc 17 (.sipush 9999) 3))))) (zH pc 33 (zH pc 24 (zH pc 23 (zQ pc 20 (.if_icmp .gt 13) 3) (zQ pc 23 (.aload_n 0) 1)) (zH pc 27 (zQ pc 24 (.getfield 37) 3) (zH pc 30 (zQ pc 27 (.sipush 200) 3) (zQ pc 30 (.if_icmp .ne 5) 3)))) (zH pc 36 (zH pc 34 (zQ pc 33 (.iconst 0) 1) (zH pc 35 (zQ pc 34 .ireturn 1) (zQ pc 35 (.aload_n 0) 1))) (zH pc 39 (zQ pc 36 (.getfield 24) 3) (zH pc 40 (zQ pc 39 (.aload_n 0) 1) (zQ pc 40 (.getfield 37) 3)))))) (zH pc 60 (zH pc 50 (zH pc 45 (zH pc 44 (zQ pc 43 (.iload_n 1) 1) (zQ pc 44 .iastore 1)) (zH pc 46 (zQ pc 45 (.aload_n 0) 1) (zH pc 49 (zQ pc 46 (.getfield 27) 3) (zQ pc 49 (.aload_n 0) 1)))) (zH pc 55 (zH pc 53 (zQ pc 50 (.getfield 37) 3) (zH pc 54 (zQ pc 53 (.iload_n 2) 1) (zQ pc 54 .iastore 1))) (zH pc 56 (zQ pc 55 (.aload_n 0) 1) (zH pc 59 (zQ pc 56 (.getfield 30) 3) (zQ pc 59 (.aload_n 0) 1))))) (zH pc 67 (zH pc 64 (zH pc 63 (zQ pc 60 (.getfield 37) 3) (zQ pc 63 (.iload_n 3) 1)) (zH pc 65 (zQ pc 64 .iastore 1) (zH pc 66 (zQ pc 65 (.aload_n 0) 1) (zQ pc 66 .dup 1)))) (zH pc 72 (zH pc 70 (zQ pc 67 (.getfield 37) 3) (zH pc 71 (zQ pc 70 (.iconst 1) 1) (zQ pc 71 .iadd 1))) (zH pc 75 (zQ pc 72 (.putfield 37) 3) (zH pc 76 (zQ pc 75 (.iconst 1) 1) (zQ pc 76 .ireturn 1)))))))
def zc_16 (pc : Nat) : Option (Instr × Nat) := (zH pc 38 (zH pc 19 (zH pc 8 (zH pc 3 (zH pc 1 (zQ pc 0 (.iconst 0) 1) (zQ pc 1 (.istore 5) 2)) (zH pc 4 (zQ pc 3 (.iconst 0) 1) (zH pc 6 (zQ pc 4 (.istore 6) 2) (zQ pc 6 (.iload 6) 2)))) (zH pc 12 (zH pc 9 (zQ pc 8 (.aload_n 0) 1) (zQ pc 9 (.getfield 33) 3)) (zH pc 15 (zQ pc 12 (.if_icmp .ge 67) 3) (zH pc 16 (zQ pc 15 (.aload_n 0) 1) (zQ pc 16 (.getfield 11) 3))))) (zH pc 27 (zH pc 22 (zH pc 21 (zQ pc 19 (.iload 6) 2) (zQ pc 21 .iaload 1)) (zH pc 23 (zQ pc 22 (.iload_n 1) 1) (zH pc 26 (zQ pc 23 (.if_icmp .ne 50) 3) (zQ pc 26 (.aload_n 0) 1)))) (zH pc 33 (zH pc 30 (zQ pc 27 (.getfield 18) 3) (zH pc 32 (zQ pc 30 (.iload 6) 2) (zQ pc 32 .iaload 1))) (zH pc 34 (zQ pc 33 (.iload_n 2) 1) (zH pc 37 (zQ pc 34 (.if_icmp .lt 39) 3) (zQ pc 37 (.aload_n 0) 1)))))) (zH pc 60 (zH pc 48 (zH pc 43 (zH pc 41 (zQ pc 38 (.getfield 18) 3) (zQ pc 41 (.iload 6) 2)) (zH pc 44 (zQ pc 43 .iaload 1) (zH pc 45 (zQ pc 44 (.iload_n 3) 1) (zQ pc 45 (.if_icmp .gt 28) 3)))) (zH pc 54 (zH pc 49 (zQ pc 48 (.aload_n 0) 1) (zH pc 52 (zQ pc 49 (.getfield 21) 3) (zQ pc 52 (.iload 6) 2))) (zH pc 55 (zQ pc 54 .iaload 1) (zH pc 57 (zQ pc 55 (.iload 4) 2) (zQ pc 57 (.if_icmp .gt 16) 3))))) (zH pc 70 (zH pc 63 (zH pc 62 (zQ pc 60 (.iload 5) 2) (zQ pc 62 (.aload_n 0) 1)) (zH pc 65 (zQ pc 63 (.iload 6) 2) (zH pc 67 (zQ pc 65 (.iload 4) 2) (zQ pc 67 (.invokevirtual 40) 3)))) (zH pc 76 (zH pc 71 (zQ pc 70 .iadd 1) (zH pc 73 (zQ pc 71 (.istore 5) 2) (zQ pc 73 (.iinc 6 1) 3))) (zH pc 79 (zQ pc 76 (.goto (-70)) 3) (zH pc 81 (zQ pc 79 (.iload 5) 2) (zQ pc 81 .ireturn 1)))))))
def zc_17 (pc : Nat) : Option (Instr × Nat) := (zH pc 25 (zH pc 11 (zH pc 5 (zH pc 1 (zQ pc 0 (.aload_n 0) 1) (zH pc 4 (zQ pc 1 (.getfield 37) 3) (zQ pc 4 (.iconst 1) 1))) (zH pc 7 (zH pc 6 (zQ pc 5 .isub 1) (zQ pc 6 (.istore_n 3) 1)) (zH pc 8 (zQ pc 7 (.iload_n 3) 1) (zQ pc 8 (.ifCond .lt 36) 3)))) (zH pc 17 (zH pc 15 (zH pc 12 (zQ pc 11 (.aload_n 0) 1) (zQ pc 12 (.getfield 24) 3)) (zH pc 16 (zQ pc 15 (.iload_n 3) 1) (zQ pc 16 .iaload 1))) (zH pc 21 (zH pc 18 (zQ pc 17 (.iload_n 1) 1) (zQ pc 18 (.if_icmp .ne 20) 3)) (zH pc 22 (zQ pc 21 (.aload_n 0) 1) (zQ pc 22 (.getfield 30) 3))))) (zH pc 37 (zH pc 31 (zH pc 27 (zH pc 26 (zQ pc 25 (.iload_n 3) 1) (zQ pc 26 .iaload 1)) (zH pc 28 (zQ pc 27 (.iload_n 2) 1) (zQ pc 28 (.if_icmp .gt 10) 3))) (zH pc 35 (zH pc 32 (zQ pc 31 (.aload_n 0) 1) (zQ pc 32 (.getfield 27) 3)) (zH pc 36 (zQ pc 35 (.iload_n 3) 1) (zQ pc 36 .iaload 1)))) (zH pc 45 (zH pc 41 (zH pc 38 (zQ pc 37 .ireturn 1) (zQ pc 38 (.iinc 3 (-1)) 3)) (zH pc 44 (zQ pc 41 (.goto (-34)) 3) (zQ pc 44 (.aload_n 0) 1))) (zH pc 49 (zH pc 48 (zQ pc 45 (.getfield 15) 3) (zQ pc 48 (.iload_n 1) 1)) (zH pc 50 (zQ pc 49 .iaload 1) (zQ pc 50 .ireturn 1))))))
def zc_18 (pc : Nat) : Option (Instr × Nat) := (zH pc 52 (zH pc 14 (zH pc 6 (zH pc 4 (zH pc 1 (zQ pc 0 (.iload_n 1) 1) (zQ pc 1 (.ifCond .lt 11) 3)) (zH pc 5 (zQ pc 4 (.iload_n 1) 1) (zQ pc 5 (.aload_n 0) 1))) (zH pc 12 (zH pc 9 (zQ pc 6 (.getfield 33) 3) (zQ pc 9 (.if_icmp .lt 5) 3)) (zH pc 13 (zQ pc 12 (.iconst (-1)) 1) (zQ pc 13 .ireturn 1)))) (zH pc 48 (zH pc 44 (zH pc 15 (zQ pc 14 (.iload_n 2) 1) (zQ pc 15 (.tableswitch 58 0 3 #[29, 36, 44, 51]) 29)) (zH pc 45 (zQ pc 44 (.aload_n 0) 1) (zQ pc 45 (.getfield 11) 3))) (zH pc 50 (zH pc 49 (zQ pc 48 (.iload_n 1) 1) (zQ pc 49 .iaload 1)) (zH pc 51 (zQ pc 50 .ireturn 1) (zQ pc 51 (.aload_n 0) 1))))) (zH pc 65 (zH pc 59 (zH pc 55 (zH pc 53 (zQ pc 52 (.iload_n 1) 1) (zQ pc 53 (.bipush 11) 2)) (zH pc 58 (zQ pc 55 (.invokevirtual 40) 3) (zQ pc 58 .ireturn 1))) (zH pc 63 (zH pc 60 (zQ pc 59 (.aload_n 0) 1) (zQ pc 60 (.getfield 18) 3)) (zH pc 64 (zQ pc 63 (.iload_n 1) 1) (zQ pc 64 .iaload 1)))) (zH pc 71 (zH pc 67 (zH pc 66 (zQ pc 65 .ireturn 1) (zQ pc 66 (.aload_n 0) 1)) (zH pc 70 (zQ pc 67 (.getfield 21) 3) (zQ pc 70 (.iload_n 1) 1))) (zH pc 73 (zH pc 72 (zQ pc 71 .iaload 1) (zQ pc 72 .ireturn 1)) (zH pc 74 (zQ pc 73 (.iconst (-1)) 1) (zQ pc 74 .ireturn 1))))))
def zc_19 (pc : Nat) : Option (Instr × Nat) := (zH pc 12 (zH pc 7 (zH pc 1 (zQ pc 0 (.aload_n 0) 1) (zH pc 4 (zQ pc 1 (.getfield 34) 3) (zQ pc 4 (.ifCond .le 17) 3))) (zH pc 8 (zQ pc 7 (.aload_n 0) 1) (zH pc 11 (zQ pc 8 (.getfield 15) 3) (zQ pc 11 (.aload_n 0) 1)))) (zH pc 17 (zH pc 15 (zQ pc 12 (.getfield 34) 3) (zH pc 16 (zQ pc 15 (.iconst 1) 1) (zQ pc 16 .isub 1))) (zH pc 21 (zH pc 18 (zQ pc 17 .iaload 1) (zQ pc 18 (.goto 4) 3)) (zH pc 22 (zQ pc 21 (.iconst (-1)) 1) (zQ pc 22 .ireturn 1)))))
def zc_20 (pc : Nat) : Option (Instr × Nat) := (zH pc 47 (zH pc 40 (zH pc 36 (zH pc 1 (zQ pc 0 (.iload_n 1) 1) (zQ pc 1 (.tableswitch 60 1 5 #[35, 40, 45, 50, 55]) 35)) (zH pc 37 (zQ pc 36 (.aload_n 0) 1) (zQ pc 37 (.getfield 37) 3))) (zH pc 42 (zH pc 41 (zQ pc 40 .ireturn 1) (zQ pc 41 (.aload_n 0) 1)) (zH pc 45 (zQ pc 42 (.invokevirtual 40) 3) (zH pc 46 (zQ pc 45 .ireturn 1) (zQ pc 46 (.aload_n 0) 1))))) (zH pc 56 (zH pc 51 (zH pc 50 (zQ pc 47 (.getfield 22) 3) (zQ pc 50 .ireturn 1)) (zH pc 52 (zQ pc 51 (.aload_n 0) 1) (zH pc 55 (zQ pc 52 (.getfield 44) 3) (zQ pc 55 .ireturn 1)))) (zH pc 60 (zH pc 57 (zQ pc 56 (.aload_n 0) 1) (zQ pc 57 (.getfield 25) 3)) (zH pc 61 (zQ pc 60 .ireturn 1) (zH pc 62 (zQ pc 61 (.iconst (-1)) 1) (zQ pc 62 .ireturn 1))))))
def zc_21 (pc : Nat) : Option (Instr × Nat) := (zH pc 25 (zH pc 13 (zH pc 5 (zH pc 1 (zQ pc 0 (.aload_n 0) 1) (zH pc 4 (zQ pc 1 (.getfield 44) 3) (zQ pc 4 (.iconst 5) 1))) (zH pc 9 (zH pc 8 (zQ pc 5 (.if_icmp .ge 13) 3) (zQ pc 8 (.aload_n 0) 1)) (zH pc 12 (zQ pc 9 (.getfield 19) 3) (zQ pc 12 (.aload_n 0) 1)))) (zH pc 19 (zH pc 17 (zH pc 16 (zQ pc 13 (.getfield 44) 3) (zQ pc 16 (.iload_n 1) 1)) (zH pc 18 (zQ pc 17 .iastore 1) (zQ pc 18 (.aload_n 0) 1))) (zH pc 23 (zH pc 20 (zQ pc 19 .dup 1) (zQ pc 20 (.getfield 44) 3)) (zH pc 24 (zQ pc 23 (.iconst 1) 1) (zQ pc 24 .iadd 1))))) (zH pc 39 (zH pc 33 (zH pc 29 (zH pc 28 (zQ pc 25 (.putfield 44) 3) (zQ pc 28 (.aload_n 0) 1)) (zH pc 30 (zQ pc 29 .dup 1) (zQ pc 30 (.getfield 47) 3))) (zH pc 35 (zH pc 34 (zQ pc 33 (.iconst 1) 1) (zQ pc 34 .iadd 1)) (zH pc 38 (zQ pc 35 (.putfield 47) 3) (zQ pc 38 (.aload_n 0) 1)))) (zH pc 46 (zH pc 43 (zH pc 40 (zQ pc 39 (.aload_n 0) 1) (zQ pc 40 (.getfield 50) 3)) (zH pc 45 (zQ pc 43 (.bipush 10) 2) (zQ pc 45 .imul 1))) (zH pc 48 (zH pc 47 (zQ pc 46 (.iload_n 1) 1) (zQ pc 47 .iadd 1)) (zH pc 51 (zQ pc 48 (.putfield 50) 3) (zQ pc 51 .return_ 1))))))
def zc_22 (pc : Nat) : Option (Instr × Nat) := (zH pc 22 (zH pc 12 (zH pc 5 (zH pc 1 (zQ pc 0 (.aload_n 0) 1) (zH pc 4 (zQ pc 1 (.getfield 34) 3) (zQ pc 4 (.aload_n 0) 1))) (zH pc 8 (zQ pc 5 (.getfield 15) 3) (zH pc 9 (zQ pc 8 .arraylength 1) (zQ pc 9 (.if_icmp .ge 23) 3)))) (zH pc 17 (zH pc 13 (zQ pc 12 (.aload_n 0) 1) (zH pc 16 (zQ pc 13 (.getfield 15) 3) (zQ pc 16 (.aload_n 0) 1))) (zH pc 20 (zQ pc 17 (.getfield 34) 3) (zH pc 21 (zQ pc 20 (.iload_n 1) 1) (zQ pc 21 .iastore 1))))) (zH pc 32 (zH pc 27 (zH pc 23 (zQ pc 22 (.aload_n 0) 1) (zH pc 24 (zQ pc 23 .dup 1) (zQ pc 24 (.getfield 34) 3))) (zH pc 28 (zQ pc 27 (.iconst 1) 1) (zH pc 29 (zQ pc 28 .iadd 1) (zQ pc 29 (.putfield 34) 3)))) (zH pc 37 (zH pc 33 (zQ pc 32 (.aload_n 0) 1) (zH pc 34 (zQ pc 33 (.iconst 0) 1) (zQ pc 34 (.putfield 47) 3))) (zH pc 39 (zH pc 38 (zQ pc 37 (.aload_n 0) 1) (zQ pc 38 (.iconst 0) 1)) (zH pc 42 (zQ pc 39 (.putfield 50) 3) (zQ pc 42 .return_ 1))))))
def zc_23 (pc : Nat) : Option (Instr × Nat) := (zH pc 12 (zH pc 6 (zH pc 2 (zH pc 1 (zQ pc 0 (.aload_n 0) 1) (zQ pc 1 (.iconst 0) 1)) (zH pc 5 (zQ pc 2 (.putfield 9) 3) (zQ pc 5 (.aload_n 0) 1))) (zH pc 10 (zH pc 7 (zQ pc 6 (.iconst 0) 1) (zQ pc 7 (.putfield 34) 3)) (zH pc 11 (zQ pc 10 (.aload_n 0) 1) (zQ pc 11 (.iconst 0) 1)))) (zH pc 20 (zH pc 16 (zH pc 15 (zQ pc 12 (.putfield 44) 3) (zQ pc 15 (.aload_n 0) 1)) (zH pc 17 (zQ pc 16 (.iconst (-1)) 1) (zQ pc 17 (.putfield 22) 3))) (zH pc 22 (zH pc 21 (zQ pc 20 (.aload_n 0) 1) (zQ pc 21 (.iconst (-1)) 1)) (zH pc 25 (zQ pc 22 (.putfield 25) 3) (zQ pc 25 .return_ 1)))))
def zc_24 (pc : Nat) : Option (Instr × Nat) := (zH pc 67 (zH pc 33 (zH pc 17 (zH pc 6 (zH pc 4 (zH pc 1 (zQ pc 0 (.aload_n 0) 1) (zQ pc 1 (.getfield 18) 3)) (zH pc 5 (zQ pc 4 (.iload_n 1) 1) (zQ pc 5 (.iload_n 2) 1))) (zH pc 12 (zH pc 9 (zQ pc 6 (.invokevirtual 22) 3) (zQ pc 9 (.ifCond .eq 21) 3)) (zH pc 13 (zQ pc 12 (.iload_n 3) 1) (zH pc 14 (zQ pc 13 (.iconst 1) 1) (zQ pc 14 (.if_icmp .lt 16) 3))))) (zH pc 26 (zH pc 19 (zH pc 18 (zQ pc 17 (.iload_n 3) 1) (zQ pc 18 (.aload_n 0) 1)) (zH pc 22 (zQ pc 19 (.getfield 18) 3) (zH pc 25 (zQ pc 22 (.getfield 28) 3) (zQ pc 25 (.iload_n 1) 1)))) (zH pc 30 (zH pc 27 (zQ pc 26 .iaload 1) (zQ pc 27 (.if_icmp .le 5) 3)) (zH pc 31 (zQ pc 30 (.iconst 0) 1) (zH pc 32 (zQ pc 31 .ireturn 1) (zQ pc 32 (.aload_n 0) 1)))))) (zH pc 52 (zH pc 42 (zH pc 37 (zH pc 34 (zQ pc 33 (.iconst 0) 1) (zQ pc 34 (.putfield 31) 3)) (zH pc 38 (zQ pc 37 (.iconst 0) 1) (zH pc 40 (zQ pc 38 (.istore 4) 2) (zQ pc 40 (.iload 4) 2)))) (zH pc 46 (zH pc 43 (zQ pc 42 (.iconst 2) 1) (zQ pc 43 (.if_icmp .ge 50) 3)) (zH pc 47 (zQ pc 46 (.aload_n 0) 1) (zH pc 50 (zQ pc 47 (.getfield 9) 3) (zQ pc 50 (.iload 4) 2))))) (zH pc 60 (zH pc 54 (zH pc 53 (zQ pc 52 (.iconst 0) 1) (zQ pc 53 .iastore 1)) (zH pc 55 (zQ pc 54 (.aload_n 0) 1) (zH pc 58 (zQ pc 55 (.getfield 15) 3) (zQ pc 58 (.iload 4) 2)))) (zH pc 62 (zH pc 61 (zQ pc 60 (.iconst 0) 1) (zQ pc 61 .iastore 1)) (zH pc 63 (zQ pc 62 (.iconst 0) 1) (zH pc 65 (zQ pc 63 (.istore 5) 2) (zQ pc 65 (.iload 5) 2))))))) (zH pc 106 (zH pc 84 (zH pc 73 (zH pc 71 (zH pc 68 (zQ pc 67 (.iconst 4) 1) (zQ pc 68 (.if_icmp .ge 19) 3)) (zH pc 72 (zQ pc 71 (.aload_n 0) 1) (zQ pc 72 (.iload_n 1) 1))) (zH pc 76 (zH pc 75 (zQ pc 73 (.iload 4) 2) (zQ pc 75 (.iload_n 2) 1)) (zH pc 78 (zQ pc 76 (.iload 5) 2) (zH pc 81 (zQ pc 78 (.invokevirtual 35) 3) (zQ pc 81 (.iinc 5 1) 3))))) (zH pc 96 (zH pc 90 (zH pc 87 (zQ pc 84 (.goto (-19)) 3) (zQ pc 87 (.iinc 4 1) 3)) (zH pc 93 (zQ pc 90 (.goto (-50)) 3) (zH pc 94 (zQ pc 93 (.iconst 0) 1) (zQ pc 94 (.istore 4) 2)))) (zH pc 99 (zH pc 98 (zQ pc 96 (.iload 4) 2) (zQ pc 98 (.aload_n 0) 1)) (zH pc 102 (zQ pc 99 (.getfield 18) 3) (zH pc 105 (zQ pc 102 (.getfield 28) 3) (zQ pc 105 (.iload_n 1) 1)))))) (zH pc 125 (zH pc 116 (zH pc 110 (zH pc 107 (zQ pc 106 .iaload 1) (zQ pc 107 (.if_icmp .ge 30) 3)) (zH pc 111 (zQ pc 110 (.aload_n 0) 1) (zH pc 114 (zQ pc 111 (.getfield 15) 3) (zQ pc 114 (.iload 4) 2)))) (zH pc 120 (zH pc 117 (zQ pc 116 (.aload_n 0) 1) (zQ pc 117 (.getfield 18) 3)) (zH pc 123 (zQ pc 120 (.getfield 39) 3) (zH pc 124 (zQ pc 123 (.iload_n 1) 1) (zQ pc 124 .iaload 1))))) (zH pc 130 (zH pc 127 (zH pc 126 (zQ pc 125 .irem 1) (zQ pc 126 .dup2 1)) (zH pc 128 (zQ pc 127 .iaload 1) (zH pc 129 (zQ pc 128 (.iconst 1) 1) (zQ pc 129 .iadd 1)))) (zH pc 134 (zH pc 131 (zQ pc 130 .iastore 1) (zQ pc 131 (.iinc 4 1) 3)) (zH pc 137 (zQ pc 134 (.goto (-38)) 3) (zH pc 138 (zQ pc 137 (.iconst 1) 1) (zQ pc 138 .ireturn 1))))))))
def zc_25 (pc : Nat) : Option (Instr × Nat) := (zH pc 48 (zH pc 24 (zH pc 9 (zH pc 5 (zH pc 1 (zQ pc 0 (.aload_n 0) 1) (zH pc 4 (zQ pc 1 (.getfield 18) 3) (zQ pc 4 (.iload_n 1) 1))) (zH pc 6 (zQ pc 5 (.iload_n 2) 1) (zH pc 7 (zQ pc 6 (.iload_n 3) 1) (zQ pc 7 (.iload 4) 2)))) (zH pc 16 (zH pc 12 (zQ pc 9 (.invokevirtual 42) 3) (zH pc 14 (zQ pc 12 (.istore 5) 2) (zQ pc 14 (.iload 5) 2))) (zH pc 20 (zH pc 17 (zQ pc 16 (.iconst (-1)) 1) (zQ pc 17 (.if_icmp .eq 29) 3)) (zH pc 21 (zQ pc 20 (.aload_n 0) 1) (zQ pc 21 (.getfield 18) 3))))) (zH pc 35 (zH pc 32 (zH pc 26 (zQ pc 24 (.iload 5) 2) (zH pc 29 (zQ pc 26 (.invokevirtual 46) 3) (zQ pc 29 (.ifCond .ne 17) 3))) (zH pc 33 (zQ pc 32 (.aload_n 0) 1) (zH pc 34 (zQ pc 33 (.iload_n 1) 1) (zQ pc 34 (.iload_n 2) 1)))) (zH pc 40 (zH pc 36 (zQ pc 35 (.iload_n 3) 1) (zH pc 38 (zQ pc 36 (.iload 4) 2) (zQ pc 38 (.iload 5) 2))) (zH pc 46 (zH pc 43 (zQ pc 40 (.invokevirtual 50) 3) (zQ pc 43 (.ifCond .eq 4) 3)) (zH pc 47 (zQ pc 46 .return_ 1) (zQ pc 47 (.aload_n 0) 1)))))) (zH pc 68 (zH pc 54 (zH pc 51 (zH pc 49 (zQ pc 48 (.iload_n 1) 1) (zH pc 50 (zQ pc 49 (.iconst 1) 1) (zQ pc 50 (.iload_n 2) 1))) (zH pc 52 (zQ pc 51 .isub 1) (zH pc 53 (zQ pc 52 (.iload_n 3) 1) (zQ pc 53 (.iconst 4) 1)))) (zH pc 62 (zH pc 56 (zQ pc 54 (.iload 5) 2) (zH pc 59 (zQ pc 56 (.invokevirtual 50) 3) (zQ pc 59 (.ifCond .ne 16) 3))) (zH pc 66 (zH pc 63 (zQ pc 62 (.aload_n 0) 1) (zQ pc 63 (.getfield 9) 3)) (zH pc 67 (zQ pc 66 (.iload_n 2) 1) (zQ pc 67 .dup2 1))))) (zH pc 79 (zH pc 71 (zH pc 69 (zQ pc 68 .iaload 1) (zH pc 70 (zQ pc 69 (.iconst 1) 1) (zQ pc 70 .iadd 1))) (zH pc 75 (zH pc 72 (zQ pc 71 .iastore 1) (zQ pc 72 (.goto 17) 3)) (zH pc 76 (zQ pc 75 (.iload_n 2) 1) (zQ pc 76 (.ifCond .ne 13) 3)))) (zH pc 84 (zH pc 80 (zQ pc 79 (.aload_n 0) 1) (zH pc 81 (zQ pc 80 .dup 1) (zQ pc 81 (.getfield 31) 3))) (zH pc 86 (zH pc 85 (zQ pc 84 (.iconst 1) 1) (zQ pc 85 .iadd 1)) (zH pc 89 (zQ pc 86 (.putfield 31) 3) (zQ pc 89 .return_ 1)))))))
def zc_26 (pc : Nat) : Option (Instr × Nat) := (zH pc 17 (zH pc 10 (zH pc 3 (zH pc 1 (zQ pc 0 (.iconst 0) 1) (zQ pc 1 (.istore 6) 2)) (zH pc 5 (zQ pc 3 (.iload 6) 2) (zH pc 7 (zQ pc 5 (.iload 4) 2) (zQ pc 7 (.if_icmp .ge 28) 3)))) (zH pc 14 (zH pc 11 (zQ pc 10 (.aload_n 0) 1) (zQ pc 11 (.getfield 18) 3)) (zH pc 15 (zQ pc 14 (.iload_n 1) 1) (zH pc 16 (zQ pc 15 (.iload_n 2) 1) (zQ pc 16 (.iload_n 3) 1))))) (zH pc 28 (zH pc 22 (zH pc 19 (zQ pc 17 (.iload 6) 2) (zQ pc 19 (.invokevirtual 42) 3)) (zH pc 24 (zQ pc 22 (.iload 5) 2) (zH pc 27 (zQ pc 24 (.if_icmp .ne 5) 3) (zQ pc 27 (.iconst 1) 1)))) (zH pc 32 (zH pc 29 (zQ pc 28 .ireturn 1) (zQ pc 29 (.iinc 6 1) 3)) (zH pc 35 (zQ pc 32 (.goto (-29)) 3) (zH pc 36 (zQ pc 35 (.iconst 0) 1) (zQ pc 36 .ireturn 1))))))
def zc_27 (pc : Nat) : Option (Instr × Nat) := (zH pc 43 (zH pc 20 (zH pc 8 (zH pc 3 (zH pc 1 (zQ pc 0 (.iconst 0) 1) (zH pc 2 (zQ pc 1 (.istore_n 3) 1) (zQ pc 2 (.iconst 0) 1))) (zH pc 5 (zQ pc 3 (.istore 4) 2) (zH pc 7 (zQ pc 5 (.iload 4) 2) (zQ pc 7 (.iload_n 1) 1)))) (zH pc 14 (zH pc 11 (zQ pc 8 (.if_icmp .gt 81) 3) (zH pc 12 (zQ pc 11 (.iload_n 1) 1) (zQ pc 12 (.iload 4) 2))) (zH pc 17 (zH pc 15 (zQ pc 14 .isub 1) (zQ pc 15 (.istore 5) 2)) (zH pc 18 (zQ pc 17 (.iconst 0) 1) (zQ pc 18 (.iload 4) 2))))) (zH pc 31 (zH pc 25 (zH pc 21 (zQ pc 20 (.aload_n 0) 1) (zH pc 24 (zQ pc 21 (.getfield 9) 3) (zQ pc 24 (.iconst 0) 1))) (zH pc 27 (zH pc 26 (zQ pc 25 .iaload 1) (zQ pc 26 .isub 1)) (zH pc 30 (zQ pc 27 (.invokestatic 54) 3) (zQ pc 30 (.iconst 0) 1)))) (zH pc 37 (zH pc 33 (zQ pc 31 (.iload 5) 2) (zH pc 34 (zQ pc 33 (.aload_n 0) 1) (zQ pc 34 (.getfield 9) 3))) (zH pc 39 (zH pc 38 (zQ pc 37 (.iconst 1) 1) (zQ pc 38 .iaload 1)) (zH pc 40 (zQ pc 39 .isub 1) (zQ pc 40 (.invokestatic 54) 3)))))) (zH pc 66 (zH pc 54 (zH pc 48 (zH pc 44 (zQ pc 43 .iadd 1) (zH pc 46 (zQ pc 44 (.istore 6) 2) (zQ pc 46 (.iload 6) 2))) (zH pc 52 (zH pc 49 (zQ pc 48 (.aload_n 0) 1) (zQ pc 49 (.getfield 31) 3)) (zH pc 53 (zQ pc 52 (.iload_n 2) 1) (zQ pc 53 .iadd 1)))) (zH pc 59 (zH pc 57 (zQ pc 54 (.if_icmp .le 29) 3) (zH pc 58 (zQ pc 57 (.iload_n 3) 1) (zQ pc 58 (.aload_n 0) 1))) (zH pc 63 (zH pc 62 (zQ pc 59 (.getfield 15) 3) (zQ pc 62 (.iconst 0) 1)) (zH pc 64 (zQ pc 63 .iaload 1) (zQ pc 64 (.iload 4) 2))))) (zH pc 80 (zH pc 73 (zH pc 69 (zQ pc 66 (.invokestatic 60) 3) (zH pc 70 (zQ pc 69 (.aload_n 0) 1) (zQ pc 70 (.getfield 15) 3))) (zH pc 75 (zH pc 74 (zQ pc 73 (.iconst 1) 1) (zQ pc 74 .iaload 1)) (zH pc 77 (zQ pc 75 (.iload 5) 2) (zQ pc 77 (.invokestatic 60) 3)))) (zH pc 83 (zH pc 81 (zQ pc 80 .imul 1) (zH pc 82 (zQ pc 81 .iadd 1) (zQ pc 82 (.istore_n 3) 1))) (zH pc 89 (zH pc 86 (zQ pc 83 (.iinc 4 1) 3) (zQ pc 86 (.goto (-81)) 3)) (zH pc 90 (zQ pc 89 (.iload_n 3) 1) (zQ pc 90 .ireturn 1)))))))
def zc_28 (pc : Nat) : Option (Instr × Nat) := (zH pc 23 (zH pc 11 (zH pc 5 (zH pc 1 (zQ pc 0 (.aload_n 0) 1) (zH pc 4 (zQ pc 1 (.getfield 15) 3) (zQ pc 4 (.iconst 0) 1))) (zH pc 7 (zH pc 6 (zQ pc 5 .iaload 1) (zQ pc 6 (.aload_n 0) 1)) (zH pc 10 (zQ pc 7 (.getfield 15) 3) (zQ pc 10 (.iconst 1) 1)))) (zH pc 17 (zH pc 13 (zH pc 12 (zQ pc 11 .iaload 1) (zQ pc 12 .iadd 1)) (zH pc 14 (zQ pc 13 (.iload_n 1) 1) (zQ pc 14 (.invokestatic 60) 3))) (zH pc 19 (zH pc 18 (zQ pc 17 (.istore_n 3) 1) (zQ pc 18 (.iconst 0) 1)) (zH pc 21 (zQ pc 19 (.istore 4) 2) (zQ pc 21 (.iload 4) 2))))) (zH pc 38 (zH pc 29 (zH pc 27 (zH pc 24 (zQ pc 23 (.iload_n 1) 1) (zQ pc 24 (.if_icmp .ge 26) 3)) (zH pc 28 (zQ pc 27 (.aload_n 0) 1) (zQ pc 28 (.iload_n 1) 1))) (zH pc 34 (zH pc 31 (zQ pc 29 (.iload 4) 2) (zQ pc 31 (.invokevirtual 63) 3)) (zH pc 37 (zQ pc 34 (.sipush 1000) 3) (zQ pc 37 .imul 1)))) (zH pc 44 (zH pc 40 (zH pc 39 (zQ pc 38 (.iload_n 2) 1) (zQ pc 39 (.iload_n 3) 1)) (zH pc 41 (zQ pc 40 .imul 1) (zQ pc 41 (.if_icmp .le 9) 3))) (zH pc 50 (zH pc 47 (zQ pc 44 (.iinc 4 1) 3) (zQ pc 47 (.goto (-26)) 3)) (zH pc 52 (zQ pc 50 (.iload 4) 2) (zQ pc 52 .ireturn 1))))))
def zc_29 (pc : Nat) : Option (Instr × Nat) := (zH pc 12 (zH pc 5 (zH pc 2 (zH pc 1 (zQ pc 0 (.iconst 1) 1) (zQ pc 1 (.istore_n 2) 1)) (zH pc 3 (zQ pc 2 (.iconst 0) 1) (zH pc 4 (zQ pc 3 (.istore_n 3) 1) (zQ pc 4 (.iload_n 3) 1)))) (zH pc 9 (zH pc 6 (zQ pc 5 (.iload_n 1) 1) (zQ pc 6 (.if_icmp .ge 19) 3)) (zH pc 10 (zQ pc 9 (.iload_n 2) 1) (zH pc 11 (zQ pc 10 (.iload_n 0) 1) (zQ pc 11 (.iload_n 3) 1))))) (zH pc 17 (zH pc 14 (zH pc 13 (zQ pc 12 .isub 1) (zQ pc 13 .imul 1)) (zH pc 15 (zQ pc 14 (.iload_n 3) 1) (zH pc 16 (zQ pc 15 (.iconst 1) 1) (zQ pc 16 .iadd 1)))) (zH pc 22 (zH pc 18 (zQ pc 17 .idiv 1) (zH pc 19 (zQ pc 18 (.istore_n 2) 1) (zQ pc 19 (.iinc 3 1) 3))) (zH pc 25 (zQ pc 22 (.goto (-18)) 3) (zH pc 26 (zQ pc 25 (.iload_n 2) 1) (zQ pc 26 .ireturn 1))))))
def zc_30 (pc : Nat) : Option (Instr × Nat) := (zH pc 53 (zH pc 25 (zH pc 13 (zH pc 5 (zH pc 1 (zQ pc 0 (.iload_n 1) 1) (zH pc 4 (zQ pc 1 (.ifCond .ne 7) 3) (zQ pc 4 (.iconst 2) 1))) (zH pc 9 (zH pc 8 (zQ pc 5 (.goto 13) 3) (zQ pc 8 (.iload_n 1) 1)) (zH pc 10 (zQ pc 9 (.iconst 1) 1) (zQ pc 10 (.if_icmp .ne 7) 3)))) (zH pc 18 (zH pc 14 (zQ pc 13 (.iconst 1) 1) (zH pc 17 (zQ pc 14 (.goto 4) 3) (zQ pc 17 (.iconst 0) 1))) (zH pc 21 (zH pc 20 (zQ pc 18 (.istore 4) 2) (zQ pc 20 (.iload_n 3) 1)) (zH pc 22 (zQ pc 21 (.iconst 1) 1) (zQ pc 22 (.if_icmp .lt 29) 3))))) (zH pc 37 (zH pc 31 (zH pc 26 (zQ pc 25 (.iload_n 3) 1) (zH pc 28 (zQ pc 26 (.iload 4) 2) (zQ pc 28 (.if_icmp .gt 23) 3))) (zH pc 33 (zH pc 32 (zQ pc 31 (.iload_n 2) 1) (zQ pc 32 (.iconst 1) 1)) (zH pc 36 (zQ pc 33 (.if_icmp .lt 18) 3) (zQ pc 36 (.iload_n 2) 1)))) (zH pc 46 (zH pc 42 (zH pc 39 (zQ pc 37 (.bipush 8) 2) (zQ pc 39 (.if_icmp .gt 12) 3)) (zH pc 43 (zQ pc 42 (.aload_n 0) 1) (zQ pc 43 (.getfield 43) 3))) (zH pc 51 (zH pc 48 (zQ pc 46 (.bipush 12) 2) (zQ pc 48 (.if_icmp .ne 5) 3)) (zH pc 52 (zQ pc 51 (.iconst (-1)) 1) (zQ pc 52 .ireturn 1)))))) (zH pc 77 (zH pc 64 (zH pc 58 (zH pc 54 (zQ pc 53 (.aload_n 0) 1) (zH pc 57 (zQ pc 54 (.getfield 9) 3) (zQ pc 57 (.aload_n 0) 1))) (zH pc 62 (zH pc 61 (zQ pc 58 (.getfield 43) 3) (zQ pc 61 (.iload_n 1) 1)) (zH pc 63 (zQ pc 62 .iastore 1) (zQ pc 63 (.aload_n 0) 1)))) (zH pc 71 (zH pc 67 (zQ pc 64 (.getfield 15) 3) (zH pc 68 (zQ pc 67 (.aload_n 0) 1) (zQ pc 68 (.getfield 43) 3))) (zH pc 73 (zH pc 72 (zQ pc 71 (.iload_n 2) 1) (zQ pc 72 .iastore 1)) (zH pc 74 (zQ pc 73 (.aload_n 0) 1) (zQ pc 74 (.getfield 18) 3))))) (zH pc 88 (zH pc 82 (zH pc 78 (zQ pc 77 (.aload_n 0) 1) (zH pc 81 (zQ pc 78 (.getfield 43) 3) (zQ pc 81 (.iload_n 3) 1))) (zH pc 84 (zH pc 83 (zQ pc 82 .iastore 1) (zQ pc 83 (.aload_n 0) 1)) (zH pc 85 (zQ pc 84 .dup 1) (zQ pc 85 (.getfield 43) 3)))) (zH pc 94 (zH pc 90 (zH pc 89 (zQ pc 88 (.iconst 1) 1) (zQ pc 89 .iadd 1)) (zH pc 93 (zQ pc 90 (.putfield 43) 3) (zQ pc 93 (.aload_n 0) 1))) (zH pc 98 (zH pc 97 (zQ pc 94 (.getfield 43) 3) (zQ pc 97 (.iconst 1) 1)) (zH pc 99 (zQ pc 98 .isub 1) (zQ pc 99 .ireturn 1)))))))
def zc_31 (pc : Nat) : Option (Instr × Nat) := (zH pc 49 (zH pc 23 (zH pc 10 (zH pc 3 (zH pc 1 (zQ pc 0 (.aload_n 0) 1) (zH pc 2 (zQ pc 1 (.iload_n 1) 1) (zQ pc 2 (.iload_n 3) 1))) (zH pc 6 (zQ pc 3 (.invokevirtual 47) 3) (zH pc 9 (zQ pc 6 (.ifCond .eq 28) 3) (zQ pc 9 (.iload_n 2) 1)))) (zH pc 15 (zH pc 13 (zQ pc 10 (.ifCond .lt 24) 3) (zH pc 14 (zQ pc 13 (.iload_n 2) 1) (zQ pc 14 (.aload_n 0) 1))) (zH pc 19 (zH pc 18 (zQ pc 15 (.getfield 18) 3) (zQ pc 18 (.iload_n 1) 1)) (zH pc 20 (zQ pc 19 .iaload 1) (zQ pc 20 (.if_icmp .ge 14) 3))))) (zH pc 35 (zH pc 30 (zH pc 25 (zQ pc 23 (.iload 4) 2) (zH pc 28 (zQ pc 25 (.ifCond .lt 9) 3) (zQ pc 28 (.iload 4) 2))) (zH pc 31 (zQ pc 30 (.iconst 4) 1) (zH pc 34 (zQ pc 31 (.if_icmp .lt 5) 3) (zQ pc 34 (.iconst 0) 1)))) (zH pc 39 (zH pc 36 (zQ pc 35 .ireturn 1) (zH pc 37 (zQ pc 36 (.aload_n 0) 1) (zQ pc 37 (.iload 5) 2))) (zH pc 45 (zH pc 42 (zQ pc 39 (.invokevirtual 51) 3) (zQ pc 42 (.ifCond .eq 16) 3)) (zH pc 47 (zQ pc 45 (.iload 5) 2) (zQ pc 47 (.bipush 8) 2)))))) (zH pc 73 (zH pc 59 (zH pc 54 (zH pc 50 (zQ pc 49 .idiv 1) (zH pc 51 (zQ pc 50 (.iload_n 1) 1) (zQ pc 51 (.if_icmp .eq 7) 3))) (zH pc 55 (zQ pc 54 (.iconst 1) 1) (zH pc 58 (zQ pc 55 (.goto 4) 3) (zQ pc 58 (.iconst 0) 1)))) (zH pc 64 (zH pc 61 (zQ pc 59 (.istore 6) 2) (zH pc 63 (zQ pc 61 (.iload 5) 2) (zQ pc 63 (.iconst (-1)) 1))) (zH pc 69 (zH pc 67 (zQ pc 64 (.if_icmp .eq 10) 3) (zQ pc 67 (.iload 6) 2)) (zH pc 72 (zQ pc 69 (.ifCond .ne 5) 3) (zQ pc 72 (.iconst 0) 1))))) (zH pc 81 (zH pc 78 (zH pc 74 (zQ pc 73 .ireturn 1) (zH pc 75 (zQ pc 74 (.aload_n 0) 1) (zQ pc 75 (.getfield 21) 3))) (zH pc 79 (zQ pc 78 (.iload_n 1) 1) (zH pc 80 (zQ pc 79 (.iload_n 2) 1) (zQ pc 80 (.iload_n 3) 1)))) (zH pc 87 (zH pc 84 (zQ pc 81 (.invokestatic 55) 3) (zH pc 86 (zQ pc 84 (.iload 4) 2) (zQ pc 86 .iadd 1))) (zH pc 90 (zH pc 89 (zQ pc 87 (.iload 5) 2) (zQ pc 89 .iastore 1)) (zH pc 91 (zQ pc 90 (.iconst 1) 1) (zQ pc 91 .ireturn 1)))))))
def zc_32 (pc : Nat) : Option (Instr × Nat) := (zH pc 18 (zH pc 10 (zH pc 4 (zH pc 1 (zQ pc 0 (.iload_n 1) 1) (zQ pc 1 (.ifCond .lt 20) 3)) (zH pc 5 (zQ pc 4 (.iload_n 1) 1) (zH pc 7 (zQ pc 5 (.bipush 16) 2) (zQ pc 7 (.if_icmp .ge 14) 3)))) (zH pc 12 (zH pc 11 (zQ pc 10 (.iload_n 2) 1) (zQ pc 11 (.iconst 1) 1)) (zH pc 15 (zQ pc 12 (.if_icmp .lt 9) 3) (zH pc 16 (zQ pc 15 (.iload_n 2) 1) (zQ pc 16 (.bipush 9) 2))))) (zH pc 27 (zH pc 22 (zH pc 21 (zQ pc 18 (.if_icmp .le 5) 3) (zQ pc 21 (.iconst 0) 1)) (zH pc 23 (zQ pc 22 .ireturn 1) (zH pc 24 (zQ pc 23 (.aload_n 0) 1) (zQ pc 24 (.getfield 34) 3)))) (zH pc 29 (zH pc 28 (zQ pc 27 (.iload_n 1) 1) (zQ pc 28 (.iload_n 2) 1)) (zH pc 30 (zQ pc 29 .iastore 1) (zH pc 31 (zQ pc 30 (.iconst 1) 1) (zQ pc 31 .ireturn 1))))))
def zc_33 (pc : Nat) : Option (Instr × Nat) := (zH pc 16 (zH pc 6 (zH pc 4 (zH pc 1 (zQ pc 0 (.iload_n 2) 1) (zQ pc 1 (.ifCond .lt 25) 3)) (zH pc 5 (zQ pc 4 (.iload_n 2) 1) (zQ pc 5 (.aload_n 0) 1))) (zH pc 12 (zH pc 9 (zQ pc 6 (.getfield 43) 3) (zQ pc 9 (.if_icmp .ge 17) 3)) (zH pc 13 (zQ pc 12 (.aload_n 0) 1) (zQ pc 13 (.getfield 9) 3)))) (zH pc 22 (zH pc 18 (zH pc 17 (zQ pc 16 (.iload_n 2) 1) (zQ pc 17 .iaload 1)) (zH pc 19 (zQ pc 18 (.iload_n 1) 1) (zQ pc 19 (.if_icmp .ne 7) 3))) (zH pc 26 (zH pc 23 (zQ pc 22 (.iconst 1) 1) (zQ pc 23 (.goto 4) 3)) (zH pc 27 (zQ pc 26 (.iconst 0) 1) (zQ pc 27 .ireturn 1)))))
def zc_34 (pc : Nat) : Option (Instr × Nat) := (zH pc 13 (zH pc 3 (zH pc 1 (zQ pc 0 (.aload_n 0) 1) (zH pc 2 (zQ pc 1 (.iconst 0) 1) (zQ pc 2 (.iload_n 1) 1))) (zH pc 9 (zH pc 6 (zQ pc 3 (.invokevirtual 59) 3) (zQ pc 6 (.ifCond .eq 17) 3)) (zH pc 10 (zQ pc 9 (.iload_n 2) 1) (zQ pc 10 (.ifCond .lt 13) 3)))) (zH pc 19 (zH pc 14 (zQ pc 13 (.iload_n 2) 1) (zH pc 16 (zQ pc 14 (.bipush 10) 2) (zQ pc 16 (.if_icmp .ge 7) 3))) (zH pc 23 (zH pc 20 (zQ pc 19 (.iconst 1) 1) (zQ pc 20 (.goto 4) 3)) (zH pc 24 (zQ pc 23 (.iconst 0) 1) (zQ pc 24 .ireturn 1)))))
def zc_35 (pc : Nat) : Option (Instr × Nat) := (zH pc 25 (zH pc 12 (zH pc 5 (zH pc 1 (zQ pc 0 (.iload_n 1) 1) (zH pc 4 (zQ pc 1 (.ifCond .lt 18) 3) (zQ pc 4 (.iload_n 1) 1))) (zH pc 9 (zH pc 6 (zQ pc 5 (.aload_n 0) 1) (zQ pc 6 (.getfield 43) 3)) (zH pc 11 (zQ pc 9 (.bipush 8) 2) (zQ pc 11 .imul 1)))) (zH pc 19 (zH pc 15 (zQ pc 12 (.if_icmp .ge 7) 3) (zH pc 16 (zQ pc 15 (.iconst 1) 1) (zQ pc 16 (.goto 4) 3))) (zH pc 21 (zH pc 20 (zQ pc 19 (.iconst 0) 1) (zQ pc 20 (.istore_n 2) 1)) (zH pc 22 (zQ pc 21 (.iload_n 2) 1) (zQ pc 22 (.ifCond .eq 23) 3))))) (zH pc 36 (zH pc 29 (zH pc 26 (zQ pc 25 (.iload_n 1) 1) (zH pc 28 (zQ pc 26 (.bipush 8) 2) (zQ pc 28 .irem 1))) (zH pc 33 (zH pc 30 (zQ pc 29 (.aload_n 0) 1) (zQ pc 30 (.getfield 15) 3)) (zH pc 34 (zQ pc 33 (.iload_n 1) 1) (zQ pc 34 (.bipush 8) 2)))) (zH pc 41 (zH pc 37 (zQ pc 36 .idiv 1) (zH pc 38 (zQ pc 37 .iaload 1) (zQ pc 38 (.if_icmp .ge 7) 3))) (zH pc 45 (zH pc 42 (zQ pc 41 (.iconst 1) 1) (zQ pc 42 (.goto 4) 3)) (zH pc 46 (zQ pc 45 (.iconst 0) 1) (zQ pc 46 .ireturn 1))))))
def zc_36 (pc : Nat) : Option (Instr × Nat) := (zH pc 10 (zH pc 5 (zH pc 1 (zQ pc 0 (.aload_n 0) 1) (zH pc 2 (zQ pc 1 (.iload_n 1) 1) (zQ pc 2 (.invokevirtual 62) 3))) (zH pc 8 (zQ pc 5 (.ifCond .ne 11) 3) (zH pc 9 (zQ pc 8 (.aload_n 0) 1) (zQ pc 9 (.iload_n 1) 1)))) (zH pc 17 (zH pc 13 (zQ pc 10 (.invokevirtual 65) 3) (zH pc 16 (zQ pc 13 (.ifCond .eq 7) 3) (zQ pc 16 (.iconst 1) 1))) (zH pc 20 (zQ pc 17 (.goto 4) 3) (zH pc 21 (zQ pc 20 (.iconst 0) 1) (zQ pc 21 .ireturn 1)))))
def zc_37 (pc : Nat) : Option (Instr × Nat) := (zH pc 9 (zH pc 3 (zH pc 1 (zQ pc 0 (.iload_n 1) 1) (zQ pc 1 (.bipush 100) 2)) (zH pc 6 (zQ pc 3 (.if_icmp .lt 13) 3) (zH pc 7 (zQ pc 6 (.iload_n 1) 1) (zQ pc 7 (.bipush 116) 2)))) (zH pc 13 (zH pc 12 (zQ pc 9 (.if_icmp .ge 7) 3) (zQ pc 12 (.iconst 1) 1)) (zH pc 16 (zQ pc 13 (.goto 4) 3) (zH pc 17 (zQ pc 16 (.iconst 0) 1) (zQ pc 17 .ireturn 1)))))
def zc_38 (pc : Nat) : Option (Instr × Nat) := (zH pc 15 (zH pc 7 (zH pc 4 (zH pc 1 (zQ pc 0 (.iload_n 1) 1) (zQ pc 1 (.ifCond .lt 26) 3)) (zH pc 5 (zQ pc 4 (.iload_n 1) 1) (zQ pc 5 (.bipush 96) 2))) (zH pc 11 (zH pc 10 (zQ pc 7 (.if_icmp .ge 20) 3) (zQ pc 10 (.aload_n 0) 1)) (zH pc 14 (zQ pc 11 (.getfield 9) 3) (zQ pc 14 (.iload_n 1) 1)))) (zH pc 20 (zH pc 18 (zH pc 17 (zQ pc 15 (.bipush 8) 2) (zQ pc 17 .idiv 1)) (zH pc 19 (zQ pc 18 .iaload 1) (zQ pc 19 (.iconst 1) 1))) (zH pc 24 (zH pc 23 (zQ pc 20 (.if_icmp .ne 7) 3) (zQ pc 23 (.iconst 1) 1)) (zH pc 27 (zQ pc 24 (.goto 4) 3) (zH pc 28 (zQ pc 27 (.iconst 0) 1) (zQ pc 28 .ireturn 1))))))
def zc_39 (pc : Nat) : Option (Instr × Nat) := (zH pc 12 (zH pc 5 (zH pc 1 (zQ pc 0 (.aload_n 0) 1) (zH pc 2 (zQ pc 1 (.iload_n 1) 1) (zQ pc 2 (.invokevirtual 65) 3))) (zH pc 8 (zQ pc 5 (.ifCond .eq 15) 3) (zH pc 9 (zQ pc 8 (.aload_n 0) 1) (zQ pc 9 (.getfield 34) 3)))) (zH pc 16 (zH pc 13 (zQ pc 12 (.iload_n 1) 1) (zH pc 15 (zQ pc 13 (.bipush 100) 2) (zQ pc 15 .isub 1))) (zH pc 20 (zH pc 17 (zQ pc 16 .iaload 1) (zQ pc 17 (.goto 4) 3)) (zH pc 21 (zQ pc 20 (.iconst 0) 1) (zQ pc 21 .ireturn 1)))))
def zc_40 (pc : Nat) : Option (Instr × Nat) := (zH pc 7 (zH pc 3 (zH pc 1 (zQ pc 0 (.iload_n 0) 1) (zH pc 2 (zQ pc 1 (.iconst 2) 1) (zQ pc 2 .imul 1))) (zH pc 4 (zQ pc 3 (.iload_n 1) 1) (zH pc 5 (zQ pc 4 .iadd 1) (zQ pc 5 (.bipush 10) 2)))) (zH pc 10 (zH pc 8 (zQ pc 7 .imul 1) (zH pc 9 (zQ pc 8 (.iload_n 2) 1) (zQ pc 9 .iadd 1))) (zH pc 11 (zQ pc 10 (.iconst 4) 1) (zH pc 12 (zQ pc 11 .imul 1) (zQ pc 12 .ireturn 1)))))
def zc_41 (pc : Nat) : Option (Instr × Nat) := (zH pc 7 (zH pc 4 (zH pc 1 (zQ pc 0 (.aload_n 0) 1) (zQ pc 1 (.getfield 21) 3)) (zH pc 5 (zQ pc 4 (.iload_n 1) 1) (zH pc 6 (zQ pc 5 (.iload_n 2) 1) (zQ pc 6 (.iload_n 3) 1)))) (zH pc 12 (zH pc 10 (zQ pc 7 (.invokestatic 55) 3) (zQ pc 10 (.iload 4) 2)) (zH pc 13 (zQ pc 12 .iadd 1) (zH pc 14 (zQ pc 13 .iaload 1) (zQ pc 14 .ireturn 1)))))
def zc_42 (pc : Nat) : Option (Instr × Nat) := (zH pc 17 (zH pc 7 (zH pc 3 (zH pc 1 (zQ pc 0 (.iload_n 1) 1) (zQ pc 1 (.bipush 8) 2)) (zH pc 4 (zQ pc 3 .idiv 1) (zH pc 6 (zQ pc 4 (.istore 4) 2) (zQ pc 6 (.iload_n 1) 1)))) (zH pc 11 (zH pc 9 (zQ pc 7 (.bipush 8) 2) (zH pc 10 (zQ pc 9 .irem 1) (zQ pc 10 (.aload_n 0) 1))) (zH pc 14 (zQ pc 11 (.getfield 18) 3) (zH pc 16 (zQ pc 14 (.iload 4) 2) (zQ pc 16 .iaload 1))))) (zH pc 28 (zH pc 21 (zH pc 18 (zQ pc 17 .irem 1) (zH pc 20 (zQ pc 18 (.istore 5) 2) (zQ pc 20 (.aload_n 0) 1))) (zH pc 24 (zQ pc 21 (.getfield 21) 3) (zH pc 26 (zQ pc 24 (.iload 4) 2) (zQ pc 26 (.iload 5) 2)))) (zH pc 33 (zH pc 29 (zQ pc 28 (.iload_n 2) 1) (zH pc 32 (zQ pc 29 (.invokestatic 55) 3) (zQ pc 32 (.iload_n 3) 1))) (zH pc 34 (zQ pc 33 .iadd 1) (zH pc 35 (zQ pc 34 .iaload 1) (zQ pc 35 .ireturn 1))))))
def zc_43 (pc : Nat) : Option (Instr × Nat) := (zH pc 14 (zH pc 5 (zH pc 1 (zQ pc 0 (.iload_n 1) 1) (zH pc 4 (zQ pc 1 (.ifCond .lt 22) 3) (zQ pc 4 (.iload_n 1) 1))) (zH pc 10 (zH pc 7 (zQ pc 5 (.bipush 96) 2) (zQ pc 7 (.if_icmp .ge 16) 3)) (zH pc 11 (zQ pc 10 (.aload_n 0) 1) (zQ pc 11 (.getfield 24) 3)))) (zH pc 19 (zH pc 15 (zQ pc 14 (.iload_n 1) 1) (zH pc 16 (zQ pc 15 .baload 1) (zQ pc 16 (.ifCond .eq 7) 3))) (zH pc 23 (zH pc 20 (zQ pc 19 (.iconst 1) 1) (zQ pc 20 (.goto 4) 3)) (zH pc 24 (zQ pc 23 (.iconst 0) 1) (zQ pc 24 .ireturn 1)))))
def zc_44 (pc : Nat) : Option (Instr × Nat) := (zH pc 14 (zH pc 5 (zH pc 1 (zQ pc 0 (.iload_n 1) 1) (zH pc 4 (zQ pc 1 (.ifCond .lt 22) 3) (zQ pc 4 (.iload_n 1) 1))) (zH pc 10 (zH pc 7 (zQ pc 5 (.bipush 96) 2) (zQ pc 7 (.if_icmp .ge 16) 3)) (zH pc 11 (zQ pc 10 (.aload_n 0) 1) (zQ pc 11 (.getfield 28) 3)))) (zH pc 19 (zH pc 15 (zQ pc 14 (.iload_n 1) 1) (zH pc 16 (zQ pc 15 .baload 1) (zQ pc 16 (.ifCond .eq 7) 3))) (zH pc 23 (zH pc 20 (zQ pc 19 (.iconst 1) 1) (zQ pc 20 (.goto 4) 3)) (zH pc 24 (zQ pc 23 (.iconst 0) 1) (zQ pc 24 .ireturn 1)))))
def zc_45 (pc : Nat) : Option (Instr × Nat) := (zH pc 16 (zH pc 7 (zH pc 4 (zH pc 1 (zQ pc 0 (.iload_n 1) 1) (zQ pc 1 (.ifCond .lt 31) 3)) (zH pc 5 (zQ pc 4 (.iload_n 1) 1) (zQ pc 5 (.bipush 116) 2))) (zH pc 11 (zH pc 10 (zQ pc 7 (.if_icmp .ge 25) 3) (zQ pc 10 (.aload_n 0) 1)) (zH pc 14 (zQ pc 11 (.getfield 31) 3) (zH pc 15 (zQ pc 14 (.iload_n 1) 1) (zQ pc 15 .iaload 1))))) (zH pc 25 (zH pc 20 (zH pc 17 (zQ pc 16 (.iconst (-1)) 1) (zQ pc 17 (.if_icmp .ne 15) 3)) (zH pc 21 (zQ pc 20 (.aload_n 0) 1) (zH pc 22 (zQ pc 21 (.iload_n 1) 1) (zQ pc 22 (.invokevirtual 68) 3)))) (zH pc 29 (zH pc 28 (zQ pc 25 (.ifCond .ne 7) 3) (zQ pc 28 (.iconst 1) 1)) (zH pc 32 (zQ pc 29 (.goto 4) 3) (zH pc 33 (zQ pc 32 (.iconst 0) 1) (zQ pc 33 .ireturn 1))))))
def zc_46 (pc : Nat) : Option (Instr × Nat) := (zH pc 18 (zH pc 7 (zH pc 2 (zH pc 1 (zQ pc 0 (.iconst 0) 1) (zQ pc 1 (.istore_n 3) 1)) (zH pc 3 (zQ pc 2 (.iload_n 1) 1) (zH pc 5 (zQ pc 3 (.istore 4) 2) (zQ pc 5 (.iload 4) 2)))) (zH pc 12 (zH pc 8 (zQ pc 7 (.iload_n 2) 1) (zH pc 11 (zQ pc 8 (.if_icmp .ge 28) 3) (zQ pc 11 (.iload_n 3) 1))) (zH pc 13 (zQ pc 12 (.aload_n 0) 1) (zH pc 16 (zQ pc 13 (.getfield 31) 3) (zQ pc 16 (.iload 4) 2))))) (zH pc 28 (zH pc 23 (zH pc 19 (zQ pc 18 .iaload 1) (zH pc 20 (zQ pc 19 (.iconst (-1)) 1) (zQ pc 20 (.if_icmp .ne 7) 3))) (zH pc 24 (zQ pc 23 (.iconst 0) 1) (zH pc 27 (zQ pc 24 (.goto 4) 3) (zQ pc 27 (.iconst 1) 1)))) (zH pc 33 (zH pc 29 (zQ pc 28 .iadd 1) (zH pc 30 (zQ pc 29 (.istore_n 3) 1) (zQ pc 30 (.iinc 4 1) 3))) (zH pc 36 (zQ pc 33 (.goto (-28)) 3) (zH pc 37 (zQ pc 36 (.iload_n 3) 1) (zQ pc 37 .ireturn 1))))))
def zc_47 (pc : Nat) : Option (Instr × Nat) := (zH pc 13 (zH pc 4 (zH pc 2 (zH pc 1 (zQ pc 0 (.iconst 0) 1) (zQ pc 1 (.istore_n 1) 1)) (zH pc 3 (zQ pc 2 (.iconst 0) 1) (zQ pc 3 (.istore_n 2) 1))) (zH pc 6 (zH pc 5 (zQ pc 4 (.iload_n 2) 1) (zQ pc 5 (.aload_n 0) 1)) (zH pc 9 (zQ pc 6 (.getfield 43) 3) (zH pc 12 (zQ pc 9 (.if_icmp .ge 18) 3) (zQ pc 12 (.iload_n 1) 1))))) (zH pc 20 (zH pc 17 (zH pc 14 (zQ pc 13 (.aload_n 0) 1) (zQ pc 14 (.getfield 15) 3)) (zH pc 18 (zQ pc 17 (.iload_n 2) 1) (zH pc 19 (zQ pc 18 .iaload 1) (zQ pc 19 .iadd 1)))) (zH pc 24 (zH pc 21 (zQ pc 20 (.istore_n 1) 1) (zQ pc 21 (.iinc 2 1) 3)) (zH pc 27 (zQ pc 24 (.goto (-20)) 3) (zH pc 28 (zQ pc 27 (.iload_n 1) 1) (zQ pc 28 .ireturn 1))))))
def zc_48 (pc : Nat) : Option (Instr × Nat) := (zH pc 57 (zH pc 25 (zH pc 13 (zH pc 5 (zH pc 1 (zQ pc 0 (.aload_n 0) 1) (zH pc 4 (zQ pc 1 (.getfield 12) 3) (zQ pc 4 (.aload_n 0) 1))) (zH pc 11 (zH pc 8 (zQ pc 5 (.getfield 29) 3) (zQ pc 8 (.getfield 33) 3)) (zH pc 12 (zQ pc 11 (.iload_n 1) 1) (zQ pc 12 .aaload 1)))) (zH pc 19 (zH pc 15 (zH pc 14 (zQ pc 13 (.iload_n 2) 1) (zQ pc 14 (.iload_n 3) 1)) (zH pc 18 (zQ pc 15 (.invokevirtual 39) 3) (zQ pc 18 (.aload_n 0) 1))) (zH pc 23 (zH pc 20 (zQ pc 19 (.iconst (-1)) 1) (zQ pc 20 (.putfield 21) 3)) (zH pc 24 (zQ pc 23 (.aload_n 0) 1) (zQ pc 24 (.iconst 0) 1))))) (zH pc 41 (zH pc 33 (zH pc 29 (zH pc 28 (zQ pc 25 (.putfield 43) 3) (zQ pc 28 (.aload_n 0) 1)) (zH pc 30 (zQ pc 29 (.aload_n 0) 1) (zQ pc 30 (.getfield 12) 3))) (zH pc 39 (zH pc 36 (zQ pc 33 (.invokevirtual 47) 3) (zQ pc 36 (.ifCond .eq 5) 3)) (zH pc 40 (zQ pc 39 (.iconst 0) 1) (zQ pc 40 .ireturn 1)))) (zH pc 47 (zH pc 44 (zH pc 42 (zQ pc 41 (.iconst 0) 1) (zQ pc 42 (.istore 4) 2)) (zH pc 46 (zQ pc 44 (.iload 4) 2) (zQ pc 46 (.aload_n 0) 1))) (zH pc 53 (zH pc 50 (zQ pc 47 (.getfield 29) 3) (zQ pc 50 (.getfield 51) 3)) (zH pc 56 (zQ pc 53 (.if_icmp .ge 56) 3) (zQ pc 56 (.aload_n 0) 1)))))) (zH pc 90 (zH pc 73 (zH pc 64 (zH pc 60 (zQ pc 57 (.getfield 21) 3) (zH pc 61 (zQ pc 60 (.iconst (-1)) 1) (zQ pc 61 (.if_icmp .ne 48) 3))) (zH pc 68 (zH pc 65 (zQ pc 64 (.aload_n 0) 1) (zQ pc 65 (.getfield 29) 3)) (zH pc 71 (zQ pc 68 (.getfield 33) 3) (zQ pc 71 (.iload 4) 2)))) (zH pc 81 (zH pc 77 (zH pc 74 (zQ pc 73 .aaload 1) (zQ pc 74 (.invokestatic 54) 3)) (zH pc 80 (zQ pc 77 (.ifCond .eq 26) 3) (zQ pc 80 (.aload_n 0) 1))) (zH pc 85 (zH pc 82 (zQ pc 81 (.aload_n 0) 1) (zQ pc 82 (.getfield 29) 3)) (zH pc 88 (zQ pc 85 (.getfield 33) 3) (zQ pc 88 (.iload 4) 2))))) (zH pc 109 (zH pc 98 (zH pc 94 (zH pc 91 (zQ pc 90 .aaload 1) (zQ pc 91 (.invokevirtual 58) 3)) (zH pc 97 (zQ pc 94 (.ifCond .eq 9) 3) (zQ pc 97 (.aload_n 0) 1))) (zH pc 103 (zH pc 100 (zQ pc 98 (.iload 4) 2) (zQ pc 100 (.putfield 21) 3)) (zH pc 106 (zQ pc 103 (.iinc 4 1) 3) (zQ pc 106 (.goto (-62)) 3)))) (zH pc 117 (zH pc 113 (zH pc 110 (zQ pc 109 (.aload_n 0) 1) (zQ pc 110 (.getfield 21) 3)) (zH pc 114 (zQ pc 113 (.iconst (-1)) 1) (zQ pc 114 (.if_icmp .ne 7) 3))) (zH pc 121 (zH pc 118 (zQ pc 117 (.iconst (-1)) 1) (zQ pc 118 (.goto 4) 3)) (zH pc 122 (zQ pc 121 (.iconst 1) 1) (zQ pc 122 .ireturn 1)))))))
def zc_49 (pc : Nat) : Option (Instr × Nat) := (zH pc 24 (zH pc 12 (zH pc 5 (zH pc 1 (zQ pc 0 (.aload_n 0) 1) (zH pc 4 (zQ pc 1 (.getfield 61) 3) (zQ pc 4 (.iconst 5) 1))) (zH pc 8 (zQ pc 5 (.if_icmp .eq 12) 3) (zH pc 9 (zQ pc 8 (.aload_n 0) 1) (zQ pc 9 (.getfield 61) 3)))) (zH pc 18 (zH pc 14 (zQ pc 12 (.bipush 6) 2) (zH pc 17 (zQ pc 14 (.if_icmp .ne 7) 3) (zQ pc 17 (.iconst 1) 1))) (zH pc 22 (zH pc 21 (zQ pc 18 (.goto 4) 3) (zQ pc 21 (.iconst 0) 1)) (zH pc 23 (zQ pc 22 (.istore_n 1) 1) (zQ pc 23 (.aload_n 0) 1))))) (zH pc 36 (zH pc 31 (zH pc 27 (zQ pc 24 (.getfield 66) 3) (zH pc 28 (zQ pc 27 (.iconst 1) 1) (zQ pc 28 (.if_icmp .ne 19) 3))) (zH pc 32 (zQ pc 31 (.iload_n 1) 1) (zH pc 35 (zQ pc 32 (.ifCond .eq 15) 3) (zQ pc 35 (.aload_n 0) 1)))) (zH pc 43 (zH pc 39 (zQ pc 36 (.getfield 69) 3) (zH pc 40 (zQ pc 39 (.iconst 5) 1) (zQ pc 40 (.if_icmp .gt 7) 3))) (zH pc 47 (zH pc 44 (zQ pc 43 (.iconst 1) 1) (zQ pc 44 (.goto 4) 3)) (zH pc 48 (zQ pc 47 (.iconst 0) 1) (zQ pc 48 .ireturn 1))))))
def zc_50 (pc : Nat) : Option (Instr × Nat) := (zH pc 31 (zH pc 14 (zH pc 8 (zH pc 4 (zH pc 1 (zQ pc 0 (.aload_n 0) 1) (zQ pc 1 (.getfield 18) 3)) (zH pc 5 (zQ pc 4 (.aload_n 1) 1) (zQ pc 5 (.invokevirtual 72) 3))) (zH pc 12 (zH pc 9 (zQ pc 8 (.aload_n 0) 1) (zQ pc 9 (.getfield 29) 3)) (zH pc 13 (zQ pc 12 (.aload_n 1) 1) (zQ pc 13 (.iconst (-1)) 1)))) (zH pc 22 (zH pc 18 (zH pc 17 (zQ pc 14 (.invokevirtual 76) 3) (zQ pc 17 (.aload_n 0) 1)) (zH pc 19 (zQ pc 18 (.iconst 0) 1) (zQ pc 19 (.putfield 43) 3))) (zH pc 24 (zH pc 23 (zQ pc 22 (.aload_n 0) 1) (zQ pc 23 (.aload_n 0) 1)) (zH pc 27 (zQ pc 24 (.getfield 12) 3) (zH pc 30 (zQ pc 27 (.invokevirtual 47) 3) (zQ pc 30 (.istore_n 2) 1)))))) (zH pc 48 (zH pc 37 (zH pc 35 (zH pc 32 (zQ pc 31 (.iload_n 2) 1) (zQ pc 32 (.ifCond .eq 17) 3)) (zH pc 36 (zQ pc 35 (.aload_n 0) 1) (zQ pc 36 (.iconst 1) 1))) (zH pc 41 (zH pc 40 (zQ pc 37 (.putfield 43) 3) (zQ pc 40 (.aload_n 0) 1)) (zH pc 42 (zQ pc 41 (.aload_n 0) 1) (zH pc 45 (zQ pc 42 (.getfield 12) 3) (zQ pc 45 (.invokevirtual 47) 3))))) (zH pc 54 (zH pc 50 (zH pc 49 (zQ pc 48 (.istore_n 2) 1) (zQ pc 49 (.aload_n 0) 1)) (zH pc 53 (zQ pc 50 (.getfield 29) 3) (zQ pc 53 (.aload_n 1) 1))) (zH pc 58 (zH pc 55 (zQ pc 54 (.aload_n 1) 1) (zQ pc 55 (.getfield 80) 3)) (zH pc 61 (zQ pc 58 (.invokevirtual 76) 3) (zH pc 62 (zQ pc 61 (.iload_n 2) 1) (zQ pc 62 .ireturn 1)))))))
def zc_51 (pc : Nat) : Option (Instr × Nat) := (zH pc 23 (zH pc 10 (zH pc 6 (zH pc 1 (zQ pc 0 (.aload_n 1) 1) (zH pc 4 (zQ pc 1 (.getfield 83) 3) (zQ pc 4 (.bipush 8) 2))) (zH pc 8 (zH pc 7 (zQ pc 6 .imul 1) (zQ pc 7 (.istore_n 2) 1)) (zH pc 9 (zQ pc 8 (.iload_n 2) 1) (zQ pc 9 (.istore_n 3) 1)))) (zH pc 13 (zH pc 11 (zQ pc 10 (.iload_n 3) 1) (zH pc 12 (zQ pc 11 (.iload_n 2) 1) (zQ pc 12 (.aload_n 0) 1))) (zH pc 19 (zH pc 16 (zQ pc 13 (.getfield 25) 3) (zQ pc 16 (.getfield 86) 3)) (zH pc 20 (zQ pc 19 (.aload_n 1) 1) (zQ pc 20 (.getfield 83) 3))))) (zH pc 32 (zH pc 28 (zH pc 24 (zQ pc 23 .iaload 1) (zH pc 25 (zQ pc 24 .iadd 1) (zQ pc 25 (.if_icmp .ge 21) 3))) (zH pc 30 (zH pc 29 (zQ pc 28 (.aload_n 0) 1) (zQ pc 29 (.aload_n 1) 1)) (zH pc 31 (zQ pc 30 (.iload_n 3) 1) (zQ pc 31 (.iconst 0) 1)))) (zH pc 40 (zH pc 38 (zH pc 35 (zQ pc 32 (.invokevirtual 92) 3) (zQ pc 35 (.ifCond .eq 5) 3)) (zH pc 39 (zQ pc 38 (.iconst 1) 1) (zQ pc 39 .ireturn 1))) (zH pc 46 (zH pc 43 (zQ pc 40 (.iinc 3 1) 3) (zQ pc 43 (.goto (-33)) 3)) (zH pc 47 (zQ pc 46 (.iconst 0) 1) (zQ pc 47 .ireturn 1))))))
def zc_52 (pc : Nat) : Option (Instr × Nat) := (zH pc 32 (zH pc 16 (zH pc 8 (zH pc 4 (zH pc 1 (zQ pc 0 (.aload_n 0) 1) (zQ pc 1 (.getfield 25) 3)) (zH pc 5 (zQ pc 4 (.iload_n 2) 1) (zQ pc 5 (.invokevirtual 96) 3))) (zH pc 12 (zH pc 11 (zQ pc 8 (.ifCond .eq 14) 3) (zQ pc 11 (.aload_n 0) 1)) (zH pc 15 (zQ pc 12 (.getfield 25) 3) (zQ pc 15 (.iload_n 2) 1)))) (zH pc 24 (zH pc 22 (zH pc 19 (zQ pc 16 (.invokevirtual 100) 3) (zQ pc 19 (.ifCond .eq 5) 3)) (zH pc 23 (zQ pc 22 (.iconst 0) 1) (zQ pc 23 .ireturn 1))) (zH pc 28 (zH pc 25 (zQ pc 24 (.aload_n 0) 1) (zQ pc 25 (.getfield 25) 3)) (zH pc 31 (zQ pc 28 (.getfield 103) 3) (zQ pc 31 (.iload_n 2) 1))))) (zH pc 44 (zH pc 38 (zH pc 36 (zH pc 33 (zQ pc 32 (.aload_n 1) 1) (zQ pc 33 (.getfield 106) 3)) (zH pc 37 (zQ pc 36 .iastore 1) (zQ pc 37 (.aload_n 0) 1))) (zH pc 40 (zH pc 39 (zQ pc 38 (.aload_n 1) 1) (zQ pc 39 (.iload_n 2) 1)) (zH pc 41 (zQ pc 40 (.iload_n 3) 1) (zQ pc 41 (.invokevirtual 109) 3)))) (zH pc 53 (zH pc 47 (zH pc 46 (zQ pc 44 (.istore 4) 2) (zQ pc 46 (.aload_n 0) 1)) (zH pc 50 (zQ pc 47 (.getfield 25) 3) (zQ pc 50 (.getfield 103) 3))) (zH pc 55 (zH pc 54 (zQ pc 53 (.iload_n 2) 1) (zQ pc 54 (.iconst (-1)) 1)) (zH pc 56 (zQ pc 55 .iastore 1) (zH pc 58 (zQ pc 56 (.iload 4) 2) (zQ pc 58 .ireturn 1)))))))
def zc_53 (pc : Nat) : Option (Instr × Nat) := (zH pc 69 (zH pc 33 (zH pc 16 (zH pc 8 (zH pc 4 (zH pc 1 (zQ pc 0 (.aload_n 0) 1) (zQ pc 1 (.getfield 25) 3)) (zH pc 5 (zQ pc 4 (.iload_n 2) 1) (zQ pc 5 (.invokevirtual 112) 3))) (zH pc 12 (zH pc 11 (zQ pc 8 (.ifCond .eq 25) 3) (zQ pc 11 (.aload_n 1) 1)) (zH pc 13 (zQ pc 12 (.iload_n 3) 1) (zQ pc 13 (.invokevirtual 115) 3)))) (zH pc 24 (zH pc 20 (zH pc 19 (zQ pc 16 (.ifCond .eq 15) 3) (zQ pc 19 (.aload_n 0) 1)) (zH pc 21 (zQ pc 20 (.aload_n 1) 1) (zQ pc 21 (.invokevirtual 118) 3))) (zH pc 28 (zH pc 27 (zQ pc 24 (.ifCond .eq 7) 3) (zQ pc 27 (.iconst 1) 1)) (zH pc 31 (zQ pc 28 (.goto 4) 3) (zH pc 32 (zQ pc 31 (.iconst 0) 1) (zQ pc 32 .ireturn 1)))))) (zH pc 50 (zH pc 41 (zH pc 37 (zH pc 34 (zQ pc 33 (.aload_n 0) 1) (zQ pc 34 (.getfield 25) 3)) (zH pc 38 (zQ pc 37 (.iload_n 2) 1) (zQ pc 38 (.invokevirtual 121) 3))) (zH pc 45 (zH pc 44 (zQ pc 41 (.ifCond .eq 30) 3) (zQ pc 44 (.aload_n 1) 1)) (zH pc 46 (zQ pc 45 (.aload_n 0) 1) (zH pc 49 (zQ pc 46 (.getfield 29) 3) (zQ pc 49 (.iload_n 2) 1))))) (zH pc 58 (zH pc 54 (zH pc 51 (zQ pc 50 (.iload_n 3) 1) (zQ pc 51 (.invokevirtual 124) 3)) (zH pc 57 (zQ pc 54 (.ifCond .eq 15) 3) (zQ pc 57 (.aload_n 0) 1))) (zH pc 62 (zH pc 59 (zQ pc 58 (.aload_n 1) 1) (zQ pc 59 (.invokevirtual 118) 3)) (zH pc 65 (zQ pc 62 (.ifCond .eq 7) 3) (zH pc 66 (zQ pc 65 (.iconst 1) 1) (zQ pc 66 (.goto 4) 3))))))) (zH pc 96 (zH pc 81 (zH pc 73 (zH pc 71 (zH pc 70 (zQ pc 69 (.iconst 0) 1) (zQ pc 70 .ireturn 1)) (zH pc 72 (zQ pc 71 (.iload_n 3) 1) (zQ pc 72 (.aload_n 1) 1))) (zH pc 79 (zH pc 76 (zQ pc 73 (.getfield 128) 3) (zQ pc 76 (.if_icmp .lt 5) 3)) (zH pc 80 (zQ pc 79 (.iconst 0) 1) (zQ pc 80 .ireturn 1)))) (zH pc 87 (zH pc 84 (zH pc 82 (zQ pc 81 (.iconst 0) 1) (zQ pc 82 (.istore 4) 2)) (zH pc 86 (zQ pc 84 (.iload 4) 2) (zQ pc 86 (.iconst 4) 1))) (zH pc 91 (zH pc 90 (zQ pc 87 (.if_icmp .ge 38) 3) (zQ pc 90 (.aload_n 0) 1)) (zH pc 92 (zQ pc 91 (.aload_n 1) 1) (zH pc 93 (zQ pc 92 (.aload_n 0) 1) (zQ pc 93 (.getfield 25) 3)))))) (zH pc 110 (zH pc 102 (zH pc 98 (zH pc 97 (zQ pc 96 (.iload_n 2) 1) (zQ pc 97 (.aload_n 1) 1)) (zH pc 101 (zQ pc 98 (.getfield 131) 3) (zQ pc 101 (.iload_n 3) 1))) (zH pc 105 (zH pc 103 (zQ pc 102 .iaload 1) (zQ pc 103 (.iload 4) 2)) (zH pc 108 (zQ pc 105 (.invokevirtual 134) 3) (zH pc 109 (zQ pc 108 (.iload_n 3) 1) (zQ pc 109 (.iconst 1) 1))))) (zH pc 118 (zH pc 114 (zH pc 111 (zQ pc 110 .iadd 1) (zQ pc 111 (.invokevirtual 92) 3)) (zH pc 117 (zQ pc 114 (.ifCond .eq 5) 3) (zQ pc 117 (.iconst 1) 1))) (zH pc 122 (zH pc 119 (zQ pc 118 .ireturn 1) (zQ pc 119 (.iinc 4 1) 3)) (zH pc 125 (zQ pc 122 (.goto (-38)) 3) (zH pc 126 (zQ pc 125 (.iconst 0) 1) (zQ pc 126 .ireturn 1))))))))
def zc_54 (pc : Nat) : Option (Instr × Nat) := (zH pc 16 (zH pc 8 (zH pc 4 (zH pc 1 (zQ pc 0 (.aload_n 0) 1) (zQ pc 1 (.getfield 43) 3)) (zH pc 7 (zQ pc 4 (.ifCond .eq 22) 3) (zQ pc 7 (.aload_n 1) 1))) (zH pc 12 (zH pc 9 (zQ pc 8 (.aload_n 0) 1) (zQ pc 9 (.getfield 18) 3)) (zH pc 15 (zQ pc 12 (.if_acmp .eq 14) 3) (zQ pc 15 (.aload_n 0) 1)))) (zH pc 26 (zH pc 20 (zH pc 17 (zQ pc 16 (.aload_n 0) 1) (zQ pc 17 (.getfield 18) 3)) (zH pc 23 (zQ pc 20 (.invokevirtual 47) 3) (zQ pc 23 (.ifCond .eq 7) 3))) (zH pc 30 (zH pc 27 (zQ pc 26 (.iconst 1) 1) (zQ pc 27 (.goto 4) 3)) (zH pc 31 (zQ pc 30 (.iconst 0) 1) (zQ pc 31 .ireturn 1)))))
def zc_55 (pc : Nat) : Option (Instr × Nat) := (zH pc 43 (zH pc 17 (zH pc 8 (zH pc 3 (zH pc 2 (zQ pc 0 (.bipush 56) 2) (zQ pc 2 (.istore_n 3) 1)) (zH pc 4 (zQ pc 3 (.iload_n 3) 1) (zH pc 7 (zQ pc 4 (.ifCond .lt 84) 3) (zQ pc 7 (.lload_n 1) 1)))) (zH pc 13 (zH pc 9 (zQ pc 8 (.iload_n 3) 1) (zH pc 10 (zQ pc 9 .lushr 1) (zQ pc 10 (.ldc2_w 15) 3))) (zH pc 14 (zQ pc 13 .land 1) (zH pc 15 (zQ pc 14 .l2i 1) (zQ pc 15 (.istore 4) 2))))) (zH pc 31 (zH pc 24 (zH pc 19 (zQ pc 17 (.iload 4) 2) (zH pc 21 (zQ pc 19 (.bipush 10) 2) (zQ pc 21 (.if_icmp .eq 17) 3))) (zH pc 26 (zQ pc 24 (.iload 4) 2) (zH pc 28 (zQ pc 26 (.bipush 32) 2) (zQ pc 28 (.if_icmp .lt 14) 3)))) (zH pc 38 (zH pc 33 (zQ pc 31 (.iload 4) 2) (zH pc 35 (zQ pc 33 (.bipush 126) 2) (zQ pc 35 (.if_icmp .gt 7) 3))) (zH pc 39 (zQ pc 38 (.iconst 1) 1) (zH pc 42 (zQ pc 39 (.goto 4) 3) (zQ pc 42 (.iconst 0) 1)))))) (zH pc 68 (zH pc 54 (zH pc 47 (zH pc 45 (zQ pc 43 (.istore 5) 2) (zQ pc 45 (.iload 5) 2)) (zH pc 50 (zQ pc 47 (.ifCond .eq 35) 3) (zH pc 51 (zQ pc 50 (.aload_n 0) 1) (zQ pc 51 (.getfield 17) 3)))) (zH pc 61 (zH pc 57 (zQ pc 54 (.sipush 1000) 3) (zH pc 60 (zQ pc 57 (.if_icmp .ge 25) 3) (zQ pc 60 (.aload_n 0) 1))) (zH pc 64 (zQ pc 61 (.getfield 11) 3) (zH pc 65 (zQ pc 64 (.aload_n 0) 1) (zQ pc 65 (.getfield 17) 3))))) (zH pc 77 (zH pc 72 (zH pc 70 (zQ pc 68 (.iload 4) 2) (zH pc 71 (zQ pc 70 .i2c 1) (zQ pc 71 .castore 1))) (zH pc 73 (zQ pc 72 (.aload_n 0) 1) (zH pc 74 (zQ pc 73 .dup 1) (zQ pc 74 (.getfield 17) 3)))) (zH pc 82 (zH pc 78 (zQ pc 77 (.iconst 1) 1) (zH pc 79 (zQ pc 78 .iadd 1) (zQ pc 79 (.putfield 17) 3))) (zH pc 85 (zQ pc 82 (.iinc 3 (-8)) 3) (zH pc 88 (zQ pc 85 (.goto (-82)) 3) (zQ pc 88 .return_ 1)))))))
def zc_56 (pc : Nat) : Option (Instr × Nat) := (zH pc 6 (zH pc 2 (zH pc 1 (zQ pc 0 (.aload_n 0) 1) (zQ pc 1 (.iconst 0) 1)) (zH pc 5 (zQ pc 2 (.putfield 21) 3) (zQ pc 5 (.aload_n 0) 1))) (zH pc 10 (zH pc 7 (zQ pc 6 (.iconst 0) 1) (zQ pc 7 (.putfield 24) 3)) (zH pc 11 (zQ pc 10 (.aload_n 0) 1) (zH pc 14 (zQ pc 11 (.invokevirtual 27) 3) (zQ pc 14 .return_ 1)))))
def zc_57 (pc : Nat) : Option (Instr × Nat) := (zH pc 104 (zH pc 54 (zH pc 28 (zH pc 13 (zH pc 5 (zH pc 1 (zQ pc 0 (.aload_n 0) 1) (zH pc 2 (zQ pc 1 .dup 1) (zQ pc 2 (.getfield 21) 3))) (zH pc 9 (zH pc 6 (zQ pc 5 (.aload_n 0) 1) (zQ pc 6 (.getfield 24) 3)) (zH pc 10 (zQ pc 9 .iadd 1) (zQ pc 10 (.putfield 21) 3)))) (zH pc 18 (zH pc 14 (zQ pc 13 (.aload_n 0) 1) (zH pc 17 (zQ pc 14 (.getfield 21) 3) (zQ pc 17 (.aload_n 0) 1))) (zH pc 24 (zH pc 21 (zQ pc 18 (.getfield 17) 3) (zQ pc 21 (.if_icmp .ge 44) 3)) (zH pc 25 (zQ pc 24 (.aload_n 0) 1) (zQ pc 25 (.getfield 11) 3))))) (zH pc 42 (zH pc 33 (zH pc 29 (zQ pc 28 (.aload_n 0) 1) (zH pc 32 (zQ pc 29 (.getfield 21) 3) (zQ pc 32 .caload 1))) (zH pc 38 (zH pc 35 (zQ pc 33 (.bipush 32) 2) (zQ pc 35 (.if_icmp .eq 17) 3)) (zH pc 39 (zQ pc 38 (.aload_n 0) 1) (zQ pc 39 (.getfield 11) 3)))) (zH pc 47 (zH pc 43 (zQ pc 42 (.aload_n 0) 1) (zH pc 46 (zQ pc 43 (.getfield 21) 3) (zQ pc 46 .caload 1))) (zH pc 52 (zH pc 49 (zQ pc 47 (.bipush 10) 2) (zQ pc 49 (.if_icmp .ne 16) 3)) (zH pc 53 (zQ pc 52 (.aload_n 0) 1) (zQ pc 53 .dup 1)))))) (zH pc 80 (zH pc 67 (zH pc 59 (zH pc 57 (zQ pc 54 (.getfield 21) 3) (zH pc 58 (zQ pc 57 (.iconst 1) 1) (zQ pc 58 .iadd 1))) (zH pc 65 (zH pc 62 (zQ pc 59 (.putfield 21) 3) (zQ pc 62 (.goto (-49)) 3)) (zH pc 66 (zQ pc 65 (.aload_n 0) 1) (zQ pc 66 (.aload_n 0) 1)))) (zH pc 74 (zH pc 70 (zQ pc 67 (.getfield 21) 3) (zH pc 72 (zQ pc 70 (.bipush 97) 2) (zQ pc 72 (.bipush 122) 2))) (zH pc 78 (zH pc 77 (zQ pc 74 (.invokevirtual 30) 3) (zQ pc 77 (.istore_n 1) 1)) (zH pc 79 (zQ pc 78 (.aload_n 0) 1) (zQ pc 79 (.aload_n 0) 1))))) (zH pc 93 (zH pc 87 (zH pc 83 (zQ pc 80 (.getfield 21) 3) (zH pc 85 (zQ pc 83 (.bipush 48) 2) (zQ pc 85 (.bipush 57) 2))) (zH pc 91 (zH pc 90 (zQ pc 87 (.invokevirtual 30) 3) (zQ pc 90 (.istore_n 2) 1)) (zH pc 92 (zQ pc 91 (.aload_n 0) 1) (zQ pc 92 (.iconst 1) 1)))) (zH pc 96 (zH pc 94 (zQ pc 93 (.iload_n 1) 1) (zH pc 95 (zQ pc 94 (.iload_n 2) 1) (zQ pc 95 .iadd 1))) (zH pc 102 (zH pc 99 (zQ pc 96 (.invokestatic 34) 3) (zQ pc 99 (.putfield 24) 3)) (zH pc 103 (zQ pc 102 (.aload_n 0) 1) (zQ pc 103 (.iload_n 1) 1))))))) (zH pc 160 (zH pc 135 (zH pc 120 (zH pc 110 (zH pc 107 (zQ pc 104 (.ifCond .le 16) 3) (zH pc 108 (zQ pc 107 (.iload_n 1) 1) (zQ pc 108 (.bipush 8) 2))) (zH pc 114 (zH pc 113 (zQ pc 110 (.if_icmp .gt 10) 3) (zQ pc 113 (.aload_n 0) 1)) (zH pc 117 (zQ pc 114 (.invokevirtual 40) 3) (zQ pc 117 (.goto 4) 3)))) (zH pc 125 (zH pc 121 (zQ pc 120 .aconst_null 1) (zH pc 124 (zQ pc 121 (.putfield 44) 3) (zQ pc 124 (.aload_n 0) 1))) (zH pc 129 (zH pc 128 (zQ pc 125 (.getfield 21) 3) (zQ pc 128 (.aload_n 0) 1)) (zH pc 132 (zQ pc 129 (.getfield 17) 3) (zQ pc 132 (.if_icmp .lt 16) 3))))) (zH pc 148 (zH pc 140 (zH pc 136 (zQ pc 135 (.aload_n 0) 1) (zH pc 137 (zQ pc 136 (.iconst 0) 1) (zQ pc 137 (.putfield 48) 3))) (zH pc 142 (zH pc 141 (zQ pc 140 (.aload_n 0) 1) (zQ pc 141 (.iconst 0) 1)) (zH pc 145 (zQ pc 142 (.putfield 24) 3) (zQ pc 145 (.goto 72) 3)))) (zH pc 153 (zH pc 149 (zQ pc 148 (.iload_n 1) 1) (zH pc 152 (zQ pc 149 (.ifCond .le 21) 3) (zQ pc 152 (.aload_n 0) 1))) (zH pc 156 (zH pc 154 (zQ pc 153 (.iload_n 1) 1) (zQ pc 154 (.bipush 8) 2)) (zH pc 159 (zQ pc 156 (.if_icmp .gt 7) 3) (zQ pc 159 (.iconst 1) 1)))))) (zH pc 188 (zH pc 175 (zH pc 167 (zH pc 163 (zQ pc 160 (.goto 4) 3) (zH pc 164 (zQ pc 163 (.iconst 4) 1) (zQ pc 164 (.putfield 48) 3))) (zH pc 171 (zH pc 170 (zQ pc 167 (.goto 50) 3) (zQ pc 170 (.iload_n 2) 1)) (zH pc 174 (zQ pc 171 (.ifCond .le 20) 3) (zQ pc 174 (.aload_n 0) 1)))) (zH pc 180 (zH pc 176 (zQ pc 175 (.iload_n 2) 1) (zH pc 177 (zQ pc 176 (.iconst 4) 1) (zQ pc 177 (.if_icmp .gt 7) 3))) (zH pc 184 (zH pc 181 (zQ pc 180 (.iconst 2) 1) (zQ pc 181 (.goto 4) 3)) (zH pc 185 (zQ pc 184 (.iconst 4) 1) (zQ pc 185 (.putfield 48) 3))))) (zH pc 202 (zH pc 194 (zH pc 191 (zQ pc 188 (.goto 29) 3) (zH pc 192 (zQ pc 191 (.aload_n 0) 1) (zQ pc 192 (.ldc 51) 2))) (zH pc 198 (zH pc 195 (zQ pc 194 (.aload_n 0) 1) (zQ pc 195 (.getfield 11) 3)) (zH pc 199 (zQ pc 198 (.aload_n 0) 1) (zQ pc 199 (.getfield 21) 3)))) (zH pc 210 (zH pc 206 (zH pc 203 (zQ pc 202 .caload 1) (zQ pc 203 (.invokevirtual 53) 3)) (zH pc 209 (zQ pc 206 (.ifCond .lt 7) 3) (zQ pc 209 (.iconst 3) 1))) (zH pc 214 (zH pc 213 (zQ pc 210 (.goto 4) 3) (zQ pc 213 (.iconst 4) 1)) (zH pc 217 (zQ pc 214 (.putfield 48) 3) (zQ pc 217 .return_ 1))))))))
def zc_58 (pc : Nat) : Option (Instr × Nat) := (zH pc 23 (zH pc 12 (zH pc 5 (zH pc 1 (zQ pc 0 (.iload_n 1) 1) (zH pc 3 (zQ pc 1 (.istore 4) 2) (zQ pc 3 (.iload 4) 2))) (zH pc 6 (zQ pc 5 (.aload_n 0) 1) (zH pc 9 (zQ pc 6 (.getfield 17) 3) (zQ pc 9 (.if_icmp .ge 31) 3)))) (zH pc 18 (zH pc 13 (zQ pc 12 (.aload_n 0) 1) (zH pc 16 (zQ pc 13 (.getfield 11) 3) (zQ pc 16 (.iload 4) 2))) (zH pc 19 (zQ pc 18 .caload 1) (zH pc 20 (zQ pc 19 (.iload_n 2) 1) (zQ pc 20 (.if_icmp .lt 20) 3))))) (zH pc 34 (zH pc 29 (zH pc 24 (zQ pc 23 (.aload_n 0) 1) (zH pc 27 (zQ pc 24 (.getfield 11) 3) (zQ pc 27 (.iload 4) 2))) (zH pc 30 (zQ pc 29 .caload 1) (zH pc 31 (zQ pc 30 (.iload_n 3) 1) (zQ pc 31 (.if_icmp .gt 9) 3)))) (zH pc 42 (zH pc 37 (zQ pc 34 (.iinc 4 1) 3) (zH pc 40 (zQ pc 37 (.goto (-34)) 3) (zQ pc 40 (.iload 4) 2))) (zH pc 43 (zQ pc 42 (.iload_n 1) 1) (zH pc 44 (zQ pc 43 .isub 1) (zQ pc 44 .ireturn 1))))))
def zc_59 (pc : Nat) : Option (Instr × Nat) := (zH pc 7 (zH pc 1 (zQ pc 0 (.aload_n 0) 1) (zH pc 4 (zQ pc 1 (.getfield 48) 3) (zQ pc 4 (.ifCond .ne 7) 3))) (zH pc 11 (zH pc 8 (zQ pc 7 (.iconst 1) 1) (zQ pc 8 (.goto 4) 3)) (zH pc 12 (zQ pc 11 (.iconst 0) 1) (zQ pc 12 .ireturn 1))))
def zc_60 (pc : Nat) : Option (Instr × Nat) := (zH pc 8 (zH pc 4 (zH pc 1 (zQ pc 0 (.aload_n 0) 1) (zQ pc 1 (.getfield 48) 3)) (zH pc 5 (zQ pc 4 (.iconst 2) 1) (zQ pc 5 (.if_icmp .ne 7) 3))) (zH pc 12 (zH pc 9 (zQ pc 8 (.iconst 1) 1) (zQ pc 9 (.goto 4) 3)) (zH pc 13 (zQ pc 12 (.iconst 0) 1) (zQ pc 13 .ireturn 1))))
def zc_61 (pc : Nat) : Option (Instr × Nat) := (zH pc 13 (zH pc 5 (zH pc 1 (zQ pc 0 (.aload_n 0) 1) (zH pc 4 (zQ pc 1 (.getfield 48) 3) (zQ pc 4 (.iconst 3) 1))) (zH pc 9 (zH pc 8 (zQ pc 5 (.if_icmp .ne 20) 3) (zQ pc 8 (.aload_n 0) 1)) (zH pc 12 (zQ pc 9 (.getfield 11) 3) (zQ pc 12 (.aload_n 0) 1)))) (zH pc 21 (zH pc 17 (zH pc 16 (zQ pc 13 (.getfield 21) 3) (zQ pc 16 .caload 1)) (zH pc 18 (zQ pc 17 (.iload_n 1) 1) (zQ pc 18 (.if_icmp .ne 7) 3))) (zH pc 25 (zH pc 22 (zQ pc 21 (.iconst 1) 1) (zQ pc 22 (.goto 4) 3)) (zH pc 26 (zQ pc 25 (.iconst 0) 1) (zQ pc 26 .ireturn 1)))))
def zc_62 (pc : Nat) : Option (Instr × Nat) := (zH pc 8 (zH pc 4 (zH pc 1 (zQ pc 0 (.aload_n 0) 1) (zQ pc 1 (.getfield 44) 3)) (zH pc 5 (zQ pc 4 (.aload_n 1) 1) (zQ pc 5 (.if_acmp .ne 7) 3))) (zH pc 12 (zH pc 9 (zQ pc 8 (.iconst 1) 1) (zQ pc 9 (.goto 4) 3)) (zH pc 13 (zQ pc 12 (.iconst 0) 1) (zQ pc 13 .ireturn 1))))
def zc_63 (pc : Nat) : Option (Instr × Nat) := (zH pc 9 (zH pc 4 (zH pc 1 (zQ pc 0 (.aload_n 0) 1) (zQ pc 1 (.getfield 48) 3)) (zH pc 5 (zQ pc 4 (.iconst 1) 1) (zH pc 8 (zQ pc 5 (.if_icmp .ne 14) 3) (zQ pc 8 (.aload_n 0) 1)))) (zH pc 16 (zH pc 12 (zQ pc 9 (.getfield 44) 3) (zH pc 15 (zQ pc 12 (.ifnonnull 7) 3) (zQ pc 15 (.iconst 1) 1))) (zH pc 19 (zQ pc 16 (.goto 4) 3) (zH pc 20 (zQ pc 19 (.iconst 0) 1) (zQ pc 20 .ireturn 1)))))
def zc_64 (pc : Nat) : Option (Instr × Nat) := (zH pc 8 (zH pc 4 (zH pc 1 (zQ pc 0 (.aload_n 0) 1) (zQ pc 1 (.getfield 44) 3)) (zH pc 7 (zQ pc 4 (.ifnonnull 7) 3) (zQ pc 7 (.iconst (-1)) 1))) (zH pc 12 (zH pc 11 (zQ pc 8 (.goto 10) 3) (zQ pc 11 (.aload_n 0) 1)) (zH pc 15 (zQ pc 12 (.getfield 44) 3) (zH pc 18 (zQ pc 15 (.getfield 59) 3) (zQ pc 18 .ireturn 1)))))
def zc_65 (pc : Nat) : Option (Instr × Nat) := (zH pc 47 (zH pc 17 (zH pc 8 (zH pc 5 (zH pc 3 (zQ pc 0 (.getstatic 64) 3) (zH pc 4 (zQ pc 3 (.astore_n 1) 1) (zQ pc 4 (.aload_n 1) 1))) (zH pc 6 (zQ pc 5 .arraylength 1) (zH pc 7 (zQ pc 6 (.istore_n 2) 1) (zQ pc 7 (.iconst 0) 1)))) (zH pc 11 (zH pc 9 (zQ pc 8 (.istore_n 3) 1) (zH pc 10 (zQ pc 9 (.iload_n 3) 1) (zQ pc 10 (.iload_n 2) 1))) (zH pc 15 (zH pc 14 (zQ pc 11 (.if_icmp .ge 97) 3) (zQ pc 14 (.aload_n 1) 1)) (zH pc 16 (zQ pc 15 (.iload_n 3) 1) (zQ pc 16 .aaload 1))))) (zH pc 31 (zH pc 22 (zH pc 19 (zQ pc 17 (.astore 4) 2) (zH pc 20 (zQ pc 19 (.iconst 0) 1) (zQ pc 20 (.istore 5) 2))) (zH pc 26 (zH pc 23 (zQ pc 22 (.aload_n 0) 1) (zQ pc 23 (.getfield 24) 3)) (zH pc 28 (zQ pc 26 (.aload 4) 2) (zQ pc 28 (.getfield 68) 3)))) (zH pc 39 (zH pc 34 (zQ pc 31 (.invokevirtual 72) 3) (zH pc 37 (zQ pc 34 (.invokestatic 75) 3) (zQ pc 37 (.istore 6) 2))) (zH pc 43 (zH pc 41 (zQ pc 39 (.iload 5) 2) (zQ pc 41 (.iload 6) 2)) (zH pc 46 (zQ pc 43 (.if_icmp .ge 34) 3) (zQ pc 46 (.aload_n 0) 1)))))) (zH pc 79 (zH pc 60 (zH pc 54 (zH pc 50 (zQ pc 47 (.getfield 11) 3) (zH pc 51 (zQ pc 50 (.aload_n 0) 1) (zQ pc 51 (.getfield 21) 3))) (zH pc 57 (zH pc 56 (zQ pc 54 (.iload 5) 2) (zQ pc 56 .iadd 1)) (zH pc 58 (zQ pc 57 .caload 1) (zQ pc 58 (.aload 4) 2)))) (zH pc 68 (zH pc 63 (zQ pc 60 (.getfield 68) 3) (zH pc 65 (zQ pc 63 (.iload 5) 2) (zQ pc 65 (.invokevirtual 78) 3))) (zH pc 74 (zH pc 71 (zQ pc 68 (.if_icmp .ne 9) 3) (zQ pc 71 (.iinc 5 1) 3)) (zH pc 77 (zQ pc 74 (.goto (-35)) 3) (zQ pc 77 (.iload 5) 2))))) (zH pc 96 (zH pc 86 (zH pc 80 (zQ pc 79 (.aload_n 0) 1) (zH pc 83 (zQ pc 80 (.getfield 24) 3) (zQ pc 83 (.if_icmp .ne 19) 3))) (zH pc 90 (zH pc 88 (zQ pc 86 (.iload 5) 2) (zQ pc 88 (.aload 4) 2)) (zH pc 93 (zQ pc 90 (.getfield 68) 3) (zQ pc 93 (.invokevirtual 72) 3)))) (zH pc 102 (zH pc 99 (zQ pc 96 (.if_icmp .ne 6) 3) (zH pc 101 (zQ pc 99 (.aload 4) 2) (zQ pc 101 .areturn 1))) (zH pc 108 (zH pc 105 (zQ pc 102 (.iinc 3 1) 3) (zQ pc 105 (.goto (-96)) 3)) (zH pc 109 (zQ pc 108 .aconst_null 1) (zQ pc 109 .areturn 1)))))))
def zc_66 (pc : Nat) : Option (Instr × Nat) := (zH pc 20 (zH pc 6 (zH pc 3 (zH pc 1 (zQ pc 0 (.iconst 0) 1) (zH pc 2 (zQ pc 1 (.istore_n 1) 1) (zQ pc 2 (.iconst 0) 1))) (zH pc 4 (zQ pc 3 (.istore_n 2) 1) (zH pc 5 (zQ pc 4 (.iload_n 2) 1) (zQ pc 5 (.aload_n 0) 1)))) (zH pc 13 (zH pc 9 (zQ pc 6 (.getfield 24) 3) (zH pc 12 (zQ pc 9 (.if_icmp .ge 29) 3) (zQ pc 12 (.iload_n 1) 1))) (zH pc 16 (zH pc 15 (zQ pc 13 (.bipush 10) 2) (zQ pc 15 .imul 1)) (zH pc 17 (zQ pc 16 (.aload_n 0) 1) (zQ pc 17 (.getfield 11) 3))))) (zH pc 29 (zH pc 25 (zH pc 21 (zQ pc 20 (.aload_n 0) 1) (zH pc 24 (zQ pc 21 (.getfield 21) 3) (zQ pc 24 (.iload_n 2) 1))) (zH pc 26 (zQ pc 25 .iadd 1) (zH pc 27 (zQ pc 26 .caload 1) (zQ pc 27 (.bipush 48) 2)))) (zH pc 32 (zH pc 30 (zQ pc 29 .isub 1) (zH pc 31 (zQ pc 30 .iadd 1) (zQ pc 31 (.istore_n 1) 1))) (zH pc 38 (zH pc 35 (zQ pc 32 (.iinc 2 1) 3) (zQ pc 35 (.goto (-31)) 3)) (zH pc 39 (zQ pc 38 (.iload_n 1) 1) (zQ pc 39 .ireturn 1))))))
def zc_67 (pc : Nat) : Option (Instr × Nat) := (zH pc 22 (zH pc 9 (zH pc 3 (zH pc 1 (zQ pc 0 (.lconst 0) 1) (zH pc 2 (zQ pc 1 (.lstore_n 1) 1) (zQ pc 2 (.iconst 0) 1))) (zH pc 5 (zH pc 4 (zQ pc 3 (.istore_n 3) 1) (zQ pc 4 (.iload_n 3) 1)) (zH pc 6 (zQ pc 5 (.aload_n 0) 1) (zQ pc 6 (.getfield 24) 3)))) (zH pc 16 (zH pc 12 (zQ pc 9 (.if_icmp .ge 33) 3) (zH pc 13 (zQ pc 12 (.lload_n 1) 1) (zQ pc 13 (.ldc2_w 82) 3))) (zH pc 18 (zH pc 17 (zQ pc 16 .lmul 1) (zQ pc 17 (.aload_n 0) 1)) (zH pc 21 (zQ pc 18 (.getfield 11) 3) (zQ pc 21 (.aload_n 0) 1))))) (zH pc 32 (zH pc 27 (zH pc 25 (zQ pc 22 (.getfield 21) 3) (zH pc 26 (zQ pc 25 (.iload_n 3) 1) (zQ pc 26 .iadd 1))) (zH pc 30 (zH pc 28 (zQ pc 27 .caload 1) (zQ pc 28 (.bipush 97) 2)) (zH pc 31 (zQ pc 30 .isub 1) (zQ pc 31 (.iconst 1) 1)))) (zH pc 36 (zH pc 34 (zH pc 33 (zQ pc 32 .iadd 1) (zQ pc 33 .i2l 1)) (zH pc 35 (zQ pc 34 .ladd 1) (zQ pc 35 (.lstore_n 1) 1))) (zH pc 42 (zH pc 39 (zQ pc 36 (.iinc 3 1) 3) (zQ pc 39 (.goto (-35)) 3)) (zH pc 43 (zQ pc 42 (.lload_n 1) 1) (zQ pc 43 .lreturn 1))))))
def zc_68 (pc : Nat) : Option (Instr × Nat) := (zH pc 63 (zH pc 29 (zH pc 12 (zH pc 6 (zH pc 2 (zH pc 1 (zQ pc 0 (.aload_n 0) 1) (zQ pc 1 (.iconst 0) 1)) (zH pc 5 (zQ pc 2 (.putfield 43) 3) (zQ pc 5 (.aload_n 0) 1))) (zH pc 10 (zH pc 7 (zQ pc 6 (.iconst 0) 1) (zQ pc 7 (.putfield 47) 3)) (zH pc 11 (zQ pc 10 (.aload_n 0) 1) (zQ pc 11 (.iconst 0) 1)))) (zH pc 20 (zH pc 16 (zH pc 15 (zQ pc 12 (.putfield 50) 3) (zQ pc 15 (.aload_n 0) 1)) (zH pc 17 (zQ pc 16 (.iconst 0) 1) (zQ pc 17 (.putfield 53) 3))) (zH pc 24 (zH pc 21 (zQ pc 20 (.aload_n 0) 1) (zQ pc 21 (.getfield 39) 3)) (zH pc 27 (zQ pc 24 (.invokevirtual 56) 3) (zH pc 28 (zQ pc 27 (.iconst 1) 1) (zQ pc 28 (.istore_n 1) 1)))))) (zH pc 42 (zH pc 34 (zH pc 31 (zH pc 30 (zQ pc 29 (.iconst 0) 1) (zQ pc 30 (.istore_n 2) 1)) (zH pc 32 (zQ pc 31 (.iload_n 2) 1) (zQ pc 32 (.bipush 16) 2))) (zH pc 38 (zH pc 37 (zQ pc 34 (.if_icmp .gt 95) 3) (zQ pc 37 (.iload_n 1) 1)) (zH pc 41 (zQ pc 38 (.ifCond .eq 91) 3) (zQ pc 41 (.aload_n 0) 1)))) (zH pc 52 (zH pc 48 (zH pc 45 (zQ pc 42 (.getfield 39) 3) (zQ pc 45 (.invokevirtual 59) 3)) (zH pc 51 (zQ pc 48 (.ifCond .ne 81) 3) (zQ pc 51 (.aload_n 0) 1))) (zH pc 58 (zH pc 55 (zQ pc 52 (.getfield 39) 3) (zQ pc 55 (.getstatic 63) 3)) (zH pc 61 (zQ pc 58 (.invokevirtual 69) 3) (zH pc 62 (zQ pc 61 (.istore_n 3) 1) (zQ pc 62 (.aload_n 0) 1))))))) (zH pc 100 (zH pc 83 (zH pc 73 (zH pc 69 (zH pc 66 (zQ pc 63 (.invokevirtual 73) 3) (zQ pc 66 (.ifCond .eq 28) 3)) (zH pc 70 (zQ pc 69 (.iload_n 3) 1) (zQ pc 70 (.ifCond .eq 13) 3))) (zH pc 77 (zH pc 74 (zQ pc 73 (.aload_n 0) 1) (zQ pc 74 (.invokevirtual 76) 3)) (zH pc 80 (zQ pc 77 (.ifCond .eq 17) 3) (zQ pc 80 (.goto 10) 3)))) (zH pc 91 (zH pc 87 (zH pc 84 (zQ pc 83 (.aload_n 0) 1) (zQ pc 84 (.invokevirtual 79) 3)) (zH pc 90 (zQ pc 87 (.ifCond .eq 7) 3) (zQ pc 90 (.iconst 1) 1))) (zH pc 95 (zH pc 94 (zQ pc 91 (.goto 4) 3) (zQ pc 94 (.iconst 0) 1)) (zH pc 96 (zQ pc 95 (.istore_n 1) 1) (zH pc 97 (zQ pc 96 (.iload_n 1) 1) (zQ pc 97 (.ifCond .eq 26) 3)))))) (zH pc 115 (zH pc 108 (zH pc 104 (zH pc 101 (zQ pc 100 (.aload_n 0) 1) (zQ pc 101 (.getfield 18) 3)) (zH pc 105 (zQ pc 104 (.aload_n 0) 1) (zQ pc 105 (.getfield 47) 3))) (zH pc 112 (zH pc 109 (zQ pc 108 (.aload_n 0) 1) (zQ pc 109 (.getfield 53) 3)) (zH pc 113 (zQ pc 112 .iastore 1) (zH pc 114 (zQ pc 113 (.aload_n 0) 1) (zQ pc 114 .dup 1))))) (zH pc 123 (zH pc 119 (zH pc 118 (zQ pc 115 (.getfield 47) 3) (zQ pc 118 (.iconst 1) 1)) (zH pc 120 (zQ pc 119 .iadd 1) (zQ pc 120 (.putfield 47) 3))) (zH pc 129 (zH pc 126 (zQ pc 123 (.iinc 2 1) 3) (zQ pc 126 (.goto (-95)) 3)) (zH pc 130 (zQ pc 129 (.aload_n 0) 1) (zH pc 133 (zQ pc 130 (.getfield 43) 3) (zQ pc 133 .ireturn 1))))))))
def zc_69 (pc : Nat) : Option (Instr × Nat) := (zH pc 31 (zH pc 14 (zH pc 7 (zH pc 1 (zQ pc 0 (.aload_n 0) 1) (zH pc 4 (zQ pc 1 (.getfield 39) 3) (zQ pc 4 (.getstatic 63) 3))) (zH pc 10 (zQ pc 7 (.invokevirtual 69) 3) (zH pc 13 (zQ pc 10 (.ifCond .ne 22) 3) (zQ pc 13 (.aload_n 0) 1)))) (zH pc 23 (zH pc 17 (zQ pc 14 (.getfield 39) 3) (zH pc 20 (zQ pc 17 (.getstatic 82) 3) (zQ pc 20 (.invokevirtual 69) 3))) (zH pc 27 (zH pc 26 (zQ pc 23 (.ifCond .ne 9) 3) (zQ pc 26 (.aload_n 0) 1)) (zH pc 28 (zQ pc 27 (.iconst 1) 1) (zQ pc 28 (.invokevirtual 85) 3))))) (zH pc 43 (zH pc 36 (zH pc 32 (zQ pc 31 .ireturn 1) (zH pc 33 (zQ pc 32 (.aload_n 0) 1) (zQ pc 33 (.getfield 47) 3))) (zH pc 41 (zH pc 38 (zQ pc 36 (.bipush 16) 2) (zQ pc 38 (.if_icmp .ne 9) 3)) (zH pc 42 (zQ pc 41 (.aload_n 0) 1) (zQ pc 42 (.iconst 5) 1)))) (zH pc 48 (zH pc 46 (zQ pc 43 (.invokevirtual 85) 3) (zH pc 47 (zQ pc 46 .ireturn 1) (zQ pc 47 (.aload_n 0) 1))) (zH pc 54 (zH pc 51 (zQ pc 48 (.getfield 39) 3) (zQ pc 51 (.invokevirtual 89) 3)) (zH pc 55 (zQ pc 54 (.iconst 1) 1) (zQ pc 55 .ireturn 1))))))
def zc_70 (pc : Nat) : Option (Instr × Nat) := (zH pc 62 (zH pc 30 (zH pc 16 (zH pc 10 (zH pc 4 (zH pc 1 (zQ pc 0 (.aload_n 0) 1) (zQ pc 1 (.getfield 39) 3)) (zH pc 7 (zQ pc 4 (.invokevirtual 92) 3) (zQ pc 7 (.ifCond .ne 9) 3))) (zH pc 12 (zH pc 11 (zQ pc 10 (.aload_n 0) 1) (zQ pc 11 (.iconst 1) 1)) (zH pc 15 (zQ pc 12 (.invokevirtual 85) 3) (zQ pc 15 .ireturn 1)))) (zH pc 24 (zH pc 20 (zH pc 17 (zQ pc 16 (.aload_n 0) 1) (zQ pc 17 (.getfield 39) 3)) (zH pc 23 (zQ pc 20 (.invokevirtual 95) 3) (zQ pc 23 (.lstore_n 1) 1))) (zH pc 26 (zH pc 25 (zQ pc 24 (.aload_n 0) 1) (zQ pc 25 (.lload_n 1) 1)) (zH pc 29 (zQ pc 26 (.invokevirtual 99) 3) (zQ pc 29 (.iconst (-1)) 1))))) (zH pc 45 (zH pc 38 (zH pc 34 (zH pc 33 (zQ pc 30 (.if_icmp .eq 9) 3) (zQ pc 33 (.aload_n 0) 1)) (zH pc 35 (zQ pc 34 (.iconst 3) 1) (zQ pc 35 (.invokevirtual 85) 3))) (zH pc 40 (zH pc 39 (zQ pc 38 .ireturn 1) (zQ pc 39 (.aload_n 0) 1)) (zH pc 43 (zQ pc 40 (.getfield 50) 3) (zQ pc 43 (.bipush 6) 2)))) (zH pc 53 (zH pc 49 (zH pc 48 (zQ pc 45 (.if_icmp .ne 9) 3) (zQ pc 48 (.aload_n 0) 1)) (zH pc 50 (zQ pc 49 (.iconst 5) 1) (zQ pc 50 (.invokevirtual 85) 3))) (zH pc 55 (zH pc 54 (zQ pc 53 .ireturn 1) (zQ pc 54 (.aload_n 0) 1)) (zH pc 58 (zQ pc 55 (.getfield 39) 3) (zH pc 61 (zQ pc 58 (.invokevirtual 89) 3) (zQ pc 61 (.aload_n 0) 1))))))) (zH pc 95 (zH pc 77 (zH pc 70 (zH pc 66 (zH pc 65 (zQ pc 62 (.getfield 11) 3) (zQ pc 65 (.aload_n 0) 1)) (zH pc 69 (zQ pc 66 (.getfield 47) 3) (zQ pc 69 (.iconst (-1)) 1))) (zH pc 72 (zH pc 71 (zQ pc 70 .iastore 1) (zQ pc 71 (.aload_n 0) 1)) (zH pc 74 (zQ pc 72 (.bipush 61) 2) (zQ pc 74 (.invokevirtual 103) 3)))) (zH pc 83 (zH pc 81 (zH pc 80 (zQ pc 77 (.ifCond .eq 21) 3) (zQ pc 80 (.aload_n 0) 1)) (zH pc 82 (zQ pc 81 (.iconst 0) 1) (zQ pc 82 (.iconst 0) 1))) (zH pc 89 (zH pc 86 (zQ pc 83 (.invokevirtual 107) 3) (zQ pc 86 (.ifCond .eq 12) 3)) (zH pc 90 (zQ pc 89 (.aload_n 0) 1) (zH pc 92 (zQ pc 90 (.bipush 59) 2) (zQ pc 92 (.invokevirtual 103) 3)))))) (zH pc 109 (zH pc 101 (zH pc 99 (zH pc 98 (zQ pc 95 (.ifCond .ne 5) 3) (zQ pc 98 (.iconst 0) 1)) (zH pc 100 (zQ pc 99 .ireturn 1) (zQ pc 100 (.aload_n 0) 1))) (zH pc 105 (zH pc 104 (zQ pc 101 (.getfield 26) 3) (zQ pc 104 (.aload_n 0) 1)) (zH pc 108 (zQ pc 105 (.getfield 50) 3) (zQ pc 108 (.lload_n 1) 1)))) (zH pc 115 (zH pc 111 (zH pc 110 (zQ pc 109 .lastore 1) (zQ pc 110 (.aload_n 0) 1)) (zH pc 112 (zQ pc 111 .dup 1) (zQ pc 112 (.getfield 50) 3))) (zH pc 117 (zH pc 116 (zQ pc 115 (.iconst 1) 1) (zQ pc 116 .iadd 1)) (zH pc 120 (zQ pc 117 (.putfield 50) 3) (zH pc 121 (zQ pc 120 (.iconst 1) 1) (zQ pc 121 .ireturn 1))))))))
def zc_71 (pc : Nat) : Option (Instr × Nat) := (zH pc 58 (zH pc 27 (zH pc 12 (zH pc 4 (zH pc 1 (zQ pc 0 (.aload_n 0) 1) (zH pc 2 (zQ pc 1 (.iconst 0) 1) (zQ pc 2 (.bipush 99) 2))) (zH pc 10 (zH pc 7 (zQ pc 4 (.invokevirtual 111) 3) (zQ pc 7 (.ifCond .ne 5) 3)) (zH pc 11 (zQ pc 10 (.iconst 0) 1) (zQ pc 11 .ireturn 1)))) (zH pc 17 (zH pc 13 (zQ pc 12 (.aload_n 0) 1) (zH pc 16 (zQ pc 13 (.getfield 11) 3) (zQ pc 16 (.aload_n 0) 1))) (zH pc 21 (zH pc 20 (zQ pc 17 (.getfield 47) 3) (zQ pc 20 (.aload_n 0) 1)) (zH pc 24 (zQ pc 21 (.getfield 39) 3) (zQ pc 24 (.invokevirtual 114) 3))))) (zH pc 42 (zH pc 32 (zH pc 28 (zQ pc 27 .iastore 1) (zH pc 29 (zQ pc 28 (.aload_n 0) 1) (zQ pc 29 (.getfield 39) 3))) (zH pc 36 (zH pc 35 (zQ pc 32 (.invokevirtual 89) 3) (zQ pc 35 (.aload_n 0) 1)) (zH pc 39 (zQ pc 36 (.getstatic 118) 3) (zQ pc 39 (.invokevirtual 121) 3)))) (zH pc 48 (zH pc 45 (zQ pc 42 (.ifCond .eq 15) 3) (zH pc 46 (zQ pc 45 (.aload_n 0) 1) (zQ pc 46 (.bipush 30) 2))) (zH pc 54 (zH pc 51 (zQ pc 48 (.sipush 9999) 3) (zQ pc 51 (.invokevirtual 111) 3)) (zH pc 57 (zQ pc 54 (.ifCond .ne 5) 3) (zQ pc 57 (.iconst 0) 1)))))) (zH pc 86 (zH pc 71 (zH pc 63 (zH pc 59 (zQ pc 58 .ireturn 1) (zH pc 60 (zQ pc 59 (.aload_n 0) 1) (zQ pc 60 (.getfield 15) 3))) (zH pc 67 (zH pc 64 (zQ pc 63 (.aload_n 0) 1) (zQ pc 64 (.getfield 47) 3)) (zH pc 68 (zQ pc 67 (.aload_n 0) 1) (zQ pc 68 (.getfield 39) 3)))) (zH pc 76 (zH pc 74 (zQ pc 71 (.invokevirtual 114) 3) (zH pc 75 (zQ pc 74 .iastore 1) (zQ pc 75 (.aload_n 0) 1))) (zH pc 82 (zH pc 79 (zQ pc 76 (.getfield 39) 3) (zQ pc 79 (.invokevirtual 89) 3)) (zH pc 83 (zQ pc 82 (.aload_n 0) 1) (zQ pc 83 (.getstatic 124) 3))))) (zH pc 101 (zH pc 93 (zH pc 89 (zQ pc 86 (.invokevirtual 121) 3) (zH pc 92 (zQ pc 89 (.ifCond .eq 25) 3) (zQ pc 92 (.aload_n 0) 1))) (zH pc 95 (zH pc 94 (zQ pc 93 (.iconst 0) 1) (zQ pc 94 (.iconst 0) 1)) (zH pc 98 (zQ pc 95 (.invokevirtual 107) 3) (zQ pc 98 (.ifCond .eq 16) 3)))) (zH pc 110 (zH pc 104 (zH pc 102 (zQ pc 101 (.aload_n 0) 1) (zQ pc 102 (.bipush 59) 2)) (zH pc 107 (zQ pc 104 (.invokevirtual 103) 3) (zQ pc 107 (.ifCond .eq 7) 3))) (zH pc 114 (zH pc 111 (zQ pc 110 (.iconst 1) 1) (zQ pc 111 (.goto 4) 3)) (zH pc 115 (zQ pc 114 (.iconst 0) 1) (zQ pc 115 .ireturn 1)))))))
def zc_72 (pc : Nat) : Option (Instr × Nat) := (zH pc 8 (zH pc 2 (zH pc 1 (zQ pc 0 (.aload_n 0) 1) (zQ pc 1 (.iload_n 1) 1)) (zH pc 4 (zQ pc 2 (.bipush 16) 2) (zH pc 5 (zQ pc 4 (.aload_n 0) 1) (zQ pc 5 (.getfield 39) 3)))) (zH pc 13 (zH pc 11 (zQ pc 8 (.getfield 127) 3) (zH pc 12 (zQ pc 11 .imul 1) (zQ pc 12 .iadd 1))) (zH pc 16 (zQ pc 13 (.putfield 43) 3) (zH pc 17 (zQ pc 16 (.iconst 0) 1) (zQ pc 17 .ireturn 1)))))
def zc_73 (pc : Nat) : Option (Instr × Nat) := (zH pc 13 (zH pc 5 (zH pc 1 (zQ pc 0 (.aload_n 0) 1) (zH pc 4 (zQ pc 1 (.getfield 39) 3) (zQ pc 4 (.iload_n 1) 1))) (zH pc 11 (zH pc 8 (zQ pc 5 (.invokevirtual 130) 3) (zQ pc 8 (.ifCond .ne 9) 3)) (zH pc 12 (zQ pc 11 (.aload_n 0) 1) (zQ pc 12 (.iconst 1) 1)))) (zH pc 18 (zH pc 16 (zQ pc 13 (.invokevirtual 85) 3) (zH pc 17 (zQ pc 16 .ireturn 1) (zQ pc 17 (.aload_n 0) 1))) (zH pc 24 (zH pc 21 (zQ pc 18 (.getfield 39) 3) (zQ pc 21 (.invokevirtual 89) 3)) (zH pc 25 (zQ pc 24 (.iconst 1) 1) (zQ pc 25 .ireturn 1)))))
def zc_74 (pc : Nat) : Option (Instr × Nat) := (zH pc 13 (zH pc 5 (zH pc 1 (zQ pc 0 (.aload_n 0) 1) (zH pc 4 (zQ pc 1 (.getfield 39) 3) (zQ pc 4 (.aload_n 1) 1))) (zH pc 11 (zH pc 8 (zQ pc 5 (.invokevirtual 69) 3) (zQ pc 8 (.ifCond .ne 9) 3)) (zH pc 12 (zQ pc 11 (.aload_n 0) 1) (zQ pc 12 (.iconst 1) 1)))) (zH pc 18 (zH pc 16 (zQ pc 13 (.invokevirtual 85) 3) (zH pc 17 (zQ pc 16 .ireturn 1) (zQ pc 17 (.aload_n 0) 1))) (zH pc 24 (zH pc 21 (zQ pc 18 (.getfield 39) 3) (zQ pc 21 (.invokevirtual 89) 3)) (zH pc 25 (zQ pc 24 (.iconst 1) 1) (zQ pc 25 .ireturn 1)))))
def zc_75 (pc : Nat) : Option (Instr × Nat) := (zH pc 27 (zH pc 12 (zH pc 7 (zH pc 1 (zQ pc 0 (.aload_n 0) 1) (zH pc 4 (zQ pc 1 (.getfield 39) 3) (zQ pc 4 (.invokevirtual 133) 3))) (zH pc 10 (zQ pc 7 (.ifCond .ne 9) 3) (zH pc 11 (zQ pc 10 (.aload_n 0) 1) (zQ pc 11 (.iconst 1) 1)))) (zH pc 17 (zH pc 15 (zQ pc 12 (.invokevirtual 85) 3) (zH pc 16 (zQ pc 15 .ireturn 1) (zQ pc 16 (.aload_n 0) 1))) (zH pc 23 (zH pc 20 (zQ pc 17 (.getfield 39) 3) (zQ pc 20 (.invokevirtual 114) 3)) (zH pc 24 (zQ pc 23 (.iload_n 1) 1) (zQ pc 24 (.if_icmp .lt 14) 3))))) (zH pc 39 (zH pc 34 (zH pc 28 (zQ pc 27 (.aload_n 0) 1) (zH pc 31 (zQ pc 28 (.getfield 39) 3) (zQ pc 31 (.invokevirtual 114) 3))) (zH pc 35 (zQ pc 34 (.iload_n 2) 1) (zH pc 38 (zQ pc 35 (.if_icmp .le 11) 3) (zQ pc 38 (.aload_n 0) 1)))) (zH pc 46 (zH pc 40 (zQ pc 39 (.iconst 4) 1) (zH pc 43 (zQ pc 40 (.invokevirtual 85) 3) (zQ pc 43 (.ifCond .eq 7) 3))) (zH pc 50 (zH pc 47 (zQ pc 46 (.iconst 1) 1) (zQ pc 47 (.goto 4) 3)) (zH pc 51 (zQ pc 50 (.iconst 0) 1) (zQ pc 51 .ireturn 1))))))
def zc_76 (pc : Nat) : Option (Instr × Nat) := (zH pc 15 (zH pc 4 (zH pc 2 (zH pc 1 (zQ pc 0 (.iconst 0) 1) (zQ pc 1 (.istore_n 3) 1)) (zH pc 3 (zQ pc 2 (.iload_n 3) 1) (zQ pc 3 (.aload_n 0) 1))) (zH pc 10 (zH pc 7 (zQ pc 4 (.getfield 50) 3) (zQ pc 7 (.if_icmp .ge 22) 3)) (zH pc 11 (zQ pc 10 (.aload_n 0) 1) (zH pc 14 (zQ pc 11 (.getfield 26) 3) (zQ pc 14 (.iload_n 3) 1))))) (zH pc 22 (zH pc 17 (zH pc 16 (zQ pc 15 .laload 1) (zQ pc 16 (.lload_n 1) 1)) (zH pc 18 (zQ pc 17 .lcmp 1) (zH pc 21 (zQ pc 18 (.ifCond .ne 5) 3) (zQ pc 21 (.iload_n 3) 1)))) (zH pc 26 (zH pc 23 (zQ pc 22 .ireturn 1) (zQ pc 23 (.iinc 3 1) 3)) (zH pc 29 (zQ pc 26 (.goto (-24)) 3) (zH pc 30 (zQ pc 29 (.iconst (-1)) 1) (zQ pc 30 .ireturn 1))))))
def zc_77 (pc : Nat) : Option (Instr × Nat) := (zH pc 47 (zH pc 22 (zH pc 11 (zH pc 5 (zH pc 1 (zQ pc 0 (.iload_n 1) 1) (zH pc 2 (zQ pc 1 (.iconst 4) 1) (zQ pc 2 (.if_icmp .lt 9) 3))) (zH pc 7 (zH pc 6 (zQ pc 5 (.aload_n 0) 1) (zQ pc 6 (.iload_n 2) 1)) (zH pc 10 (zQ pc 7 (.invokevirtual 136) 3) (zQ pc 10 .ireturn 1)))) (zH pc 14 (zH pc 12 (zQ pc 11 (.aload_n 0) 1) (zH pc 13 (zQ pc 12 (.iload_n 1) 1) (zQ pc 13 (.iconst 1) 1))) (zH pc 16 (zH pc 15 (zQ pc 14 .iadd 1) (zQ pc 15 (.iload_n 2) 1)) (zH pc 19 (zQ pc 16 (.invokevirtual 107) 3) (zQ pc 19 (.ifCond .ne 5) 3))))) (zH pc 33 (zH pc 25 (zH pc 23 (zQ pc 22 (.iconst 0) 1) (zH pc 24 (zQ pc 23 .ireturn 1) (zQ pc 24 (.iload_n 1) 1))) (zH pc 29 (zH pc 26 (zQ pc 25 (.iconst 1) 1) (zQ pc 26 (.if_icmp .ne 7) 3)) (zH pc 30 (zQ pc 29 (.iconst 1) 1) (zQ pc 30 (.goto 6) 3)))) (zH pc 39 (zH pc 37 (zH pc 36 (zQ pc 33 (.sipush 1000) 3) (zQ pc 36 (.istore_n 3) 1)) (zH pc 38 (zQ pc 37 (.aload_n 0) 1) (zQ pc 38 (.iload_n 1) 1))) (zH pc 44 (zH pc 42 (zQ pc 39 (.invokevirtual 139) 3) (zQ pc 42 (.istore 4) 2)) (zH pc 45 (zQ pc 44 (.iconst 0) 1) (zQ pc 45 (.istore 5) 2)))))) (zH pc 71 (zH pc 60 (zH pc 53 (zH pc 49 (zQ pc 47 (.iload 5) 2) (zH pc 50 (zQ pc 49 (.iload_n 3) 1) (zQ pc 50 (.if_icmp .ge 48) 3))) (zH pc 56 (zH pc 55 (zQ pc 53 (.iload 4) 2) (zQ pc 55 (.iconst (-1)) 1)) (zH pc 59 (zQ pc 56 (.if_icmp .eq 42) 3) (zQ pc 59 (.aload_n 0) 1)))) (zH pc 67 (zH pc 63 (zQ pc 60 (.getfield 39) 3) (zH pc 66 (zQ pc 63 (.invokevirtual 89) 3) (zQ pc 66 (.aload_n 0) 1))) (zH pc 69 (zH pc 68 (zQ pc 67 (.iload_n 1) 1) (zQ pc 68 (.iconst 1) 1)) (zH pc 70 (zQ pc 69 .iadd 1) (zQ pc 70 (.iload_n 2) 1))))) (zH pc 85 (zH pc 78 (zH pc 74 (zQ pc 71 (.invokevirtual 107) 3) (zH pc 77 (zQ pc 74 (.ifCond .ne 5) 3) (zQ pc 77 (.iconst 0) 1))) (zH pc 80 (zH pc 79 (zQ pc 78 .ireturn 1) (zQ pc 79 (.aload_n 0) 1)) (zH pc 82 (zQ pc 80 (.iload 4) 2) (zQ pc 82 (.invokevirtual 143) 3)))) (zH pc 92 (zH pc 87 (zH pc 86 (zQ pc 85 (.aload_n 0) 1) (zQ pc 86 (.iload_n 1) 1)) (zH pc 90 (zQ pc 87 (.invokevirtual 139) 3) (zQ pc 90 (.istore 4) 2))) (zH pc 98 (zH pc 95 (zQ pc 92 (.iinc 5 1) 3) (zQ pc 95 (.goto (-48)) 3)) (zH pc 99 (zQ pc 98 (.iconst 1) 1) (zQ pc 99 .ireturn 1)))))))
def zc_78 (pc : Nat) : Option (Instr × Nat) := (zH pc 95 (zH pc 60 (zH pc 41 (zH pc 29 (zH pc 1 (zQ pc 0 (.iload_n 1) 1) (zH pc 28 (zQ pc 1 (.tableswitch 143 0 2 #[27, 67, 105]) 27) (zQ pc 28 (.aload_n 0) 1))) (zH pc 35 (zH pc 32 (zQ pc 29 (.getfield 39) 3) (zQ pc 32 (.getstatic 147) 3)) (zH pc 38 (zQ pc 35 (.invokevirtual 69) 3) (zQ pc 38 (.ifCond .eq 9) 3)))) (zH pc 48 (zH pc 44 (zQ pc 41 (.sipush 30001) 3) (zH pc 47 (zQ pc 44 (.goto 23) 3) (zQ pc 47 (.aload_n 0) 1))) (zH pc 54 (zH pc 51 (zQ pc 48 (.getfield 39) 3) (zQ pc 51 (.getstatic 150) 3)) (zH pc 57 (zQ pc 54 (.invokevirtual 69) 3) (zQ pc 57 (.ifCond .eq 9) 3))))) (zH pc 74 (zH pc 67 (zH pc 63 (zQ pc 60 (.sipush 30002) 3) (zH pc 66 (zQ pc 63 (.goto 4) 3) (zQ pc 66 (.iconst (-1)) 1))) (zH pc 69 (zH pc 68 (zQ pc 67 .ireturn 1) (zQ pc 68 (.aload_n 0) 1)) (zH pc 72 (zQ pc 69 (.getfield 39) 3) (zQ pc 72 (.bipush 60) 2)))) (zH pc 86 (zH pc 80 (zH pc 77 (zQ pc 74 (.invokevirtual 130) 3) (zQ pc 77 (.ifCond .eq 9) 3)) (zH pc 83 (zQ pc 80 (.sipush 30003) 3) (zQ pc 83 (.goto 22) 3))) (zH pc 90 (zH pc 87 (zQ pc 86 (.aload_n 0) 1) (zQ pc 87 (.getfield 39) 3)) (zH pc 92 (zQ pc 90 (.bipush 61) 2) (zQ pc 92 (.invokevirtual 130) 3)))))) (zH pc 130 (zH pc 110 (zH pc 104 (zH pc 98 (zQ pc 95 (.ifCond .eq 9) 3) (zH pc 101 (zQ pc 98 (.sipush 30004) 3) (zQ pc 101 (.goto 4) 3))) (zH pc 106 (zH pc 105 (zQ pc 104 (.iconst (-1)) 1) (zQ pc 105 .ireturn 1)) (zH pc 107 (zQ pc 106 (.aload_n 0) 1) (zQ pc 107 (.getfield 39) 3)))) (zH pc 121 (zH pc 115 (zH pc 112 (zQ pc 110 (.bipush 43) 2) (zQ pc 112 (.invokevirtual 130) 3)) (zH pc 118 (zQ pc 115 (.ifCond .eq 9) 3) (zQ pc 118 (.sipush 30005) 3))) (zH pc 125 (zH pc 124 (zQ pc 121 (.goto 22) 3) (zQ pc 124 (.aload_n 0) 1)) (zH pc 128 (zQ pc 125 (.getfield 39) 3) (zQ pc 128 (.bipush 45) 2))))) (zH pc 145 (zH pc 139 (zH pc 133 (zQ pc 130 (.invokevirtual 130) 3) (zH pc 136 (zQ pc 133 (.ifCond .eq 9) 3) (zQ pc 136 (.sipush 30006) 3))) (zH pc 143 (zH pc 142 (zQ pc 139 (.goto 4) 3) (zQ pc 142 (.iconst (-1)) 1)) (zH pc 144 (zQ pc 143 .ireturn 1) (zQ pc 144 (.aload_n 0) 1)))) (zH pc 156 (zH pc 150 (zH pc 148 (zQ pc 145 (.getfield 39) 3) (zQ pc 148 (.bipush 42) 2)) (zH pc 153 (zQ pc 150 (.invokevirtual 130) 3) (zQ pc 153 (.ifCond .eq 9) 3))) (zH pc 162 (zH pc 159 (zQ pc 156 (.sipush 30007) 3) (zQ pc 159 (.goto 4) 3)) (zH pc 163 (zQ pc 162 (.iconst (-1)) 1) (zQ pc 163 .ireturn 1)))))))
def zc_79 (pc : Nat) : Option (Instr × Nat) := (zH pc 99 (zH pc 50 (zH pc 23 (zH pc 9 (zH pc 4 (zH pc 1 (zQ pc 0 (.aload_n 0) 1) (zQ pc 1 (.getfield 39) 3)) (zH pc 7 (zQ pc 4 (.invokevirtual 153) 3) (zH pc 8 (zQ pc 7 (.istore_n 2) 1) (zQ pc 8 (.aload_n 0) 1)))) (zH pc 16 (zH pc 12 (zQ pc 9 (.getfield 39) 3) (zH pc 15 (zQ pc 12 (.invokevirtual 92) 3) (zQ pc 15 (.istore_n 3) 1))) (zH pc 17 (zQ pc 16 (.aload_n 0) 1) (zH pc 20 (zQ pc 17 (.getfield 39) 3) (zQ pc 20 (.getstatic 156) 3))))) (zH pc 37 (zH pc 29 (zH pc 26 (zQ pc 23 (.invokevirtual 69) 3) (zH pc 28 (zQ pc 26 (.istore 4) 2) (zQ pc 28 (.aload_n 0) 1))) (zH pc 32 (zQ pc 29 (.getfield 39) 3) (zH pc 34 (zQ pc 32 (.bipush 40) 2) (zQ pc 34 (.invokevirtual 130) 3)))) (zH pc 43 (zH pc 39 (zQ pc 37 (.istore 5) 2) (zH pc 40 (zQ pc 39 (.iload_n 3) 1) (zQ pc 40 (.ifCond .ne 34) 3))) (zH pc 45 (zQ pc 43 (.iload 4) 2) (zH pc 48 (zQ pc 45 (.ifCond .ne 29) 3) (zQ pc 48 (.iload 5) 2)))))) (zH pc 74 (zH pc 62 (zH pc 55 (zH pc 53 (zQ pc 50 (.ifCond .ne 24) 3) (zH pc 54 (zQ pc 53 (.iload_n 2) 1) (zQ pc 54 (.iconst (-1)) 1))) (zH pc 58 (zQ pc 55 (.if_icmp .ne 19) 3) (zH pc 59 (zQ pc 58 (.aload_n 0) 1) (zQ pc 59 (.getfield 39) 3)))) (zH pc 69 (zH pc 65 (zQ pc 62 (.invokevirtual 133) 3) (zH pc 68 (zQ pc 65 (.ifCond .ne 9) 3) (zQ pc 68 (.aload_n 0) 1))) (zH pc 70 (zQ pc 69 (.iconst 1) 1) (zH pc 73 (zQ pc 70 (.invokevirtual 85) 3) (zQ pc 73 .ireturn 1))))) (zH pc 86 (zH pc 79 (zH pc 75 (zQ pc 74 (.iload_n 3) 1) (zH pc 78 (zQ pc 75 (.ifCond .eq 17) 3) (zQ pc 78 (.aload_n 0) 1))) (zH pc 80 (zQ pc 79 (.aload_n 0) 1) (zH pc 83 (zQ pc 80 (.getfield 39) 3) (zQ pc 83 (.invokevirtual 95) 3)))) (zH pc 93 (zH pc 89 (zQ pc 86 (.invokevirtual 99) 3) (zH pc 92 (zQ pc 89 (.goto 4) 3) (zQ pc 92 (.iconst (-1)) 1))) (zH pc 95 (zQ pc 93 (.istore 6) 2) (zH pc 96 (zQ pc 95 (.iload_n 3) 1) (zQ pc 96 (.ifCond .eq 15) 3))))))) (zH pc 141 (zH pc 118 (zH pc 110 (zH pc 105 (zH pc 101 (zQ pc 99 (.iload 6) 2) (zH pc 102 (zQ pc 101 (.iconst (-1)) 1) (zQ pc 102 (.if_icmp .ne 9) 3))) (zH pc 106 (zQ pc 105 (.aload_n 0) 1) (zH pc 107 (zQ pc 106 (.iconst 2) 1) (zQ pc 107 (.invokevirtual 85) 3)))) (zH pc 113 (zH pc 111 (zQ pc 110 .ireturn 1) (zH pc 112 (zQ pc 111 (.iload_n 1) 1) (zQ pc 112 (.iconst 5) 1))) (zH pc 116 (zQ pc 113 (.if_icmp .lt 9) 3) (zH pc 117 (zQ pc 116 (.aload_n 0) 1) (zQ pc 117 (.iconst 5) 1))))) (zH pc 132 (zH pc 124 (zH pc 121 (zQ pc 118 (.invokevirtual 85) 3) (zH pc 122 (zQ pc 121 .ireturn 1) (zQ pc 122 (.iload 4) 2))) (zH pc 127 (zQ pc 124 (.ifCond .ne 8) 3) (zH pc 129 (zQ pc 127 (.iload 5) 2) (zQ pc 129 (.ifCond .eq 13) 3)))) (zH pc 136 (zH pc 133 (zQ pc 132 (.aload_n 0) 1) (zH pc 135 (zQ pc 133 (.iload 4) 2) (zQ pc 135 (.iload_n 1) 1))) (zH pc 137 (zQ pc 136 (.iconst 1) 1) (zH pc 138 (zQ pc 137 .iadd 1) (zQ pc 138 (.invokevirtual 159) 3)))))) (zH pc 164 (zH pc 152 (zH pc 144 (zH pc 142 (zQ pc 141 .ireturn 1) (zH pc 143 (zQ pc 142 (.aload_n 0) 1) (zQ pc 143 (.iload_n 3) 1))) (zH pc 147 (zQ pc 144 (.ifCond .eq 12) 3) (zH pc 150 (zQ pc 147 (.sipush 20000) 3) (zQ pc 150 (.iload 6) 2)))) (zH pc 157 (zH pc 153 (zQ pc 152 .iadd 1) (zH pc 156 (zQ pc 153 (.goto 23) 3) (zQ pc 156 (.iload_n 2) 1))) (zH pc 158 (zQ pc 157 (.iconst (-1)) 1) (zH pc 161 (zQ pc 158 (.if_icmp .eq 11) 3) (zQ pc 161 (.sipush 10000) 3))))) (zH pc 176 (zH pc 169 (zH pc 165 (zQ pc 164 (.iload_n 2) 1) (zH pc 166 (zQ pc 165 .iadd 1) (zQ pc 166 (.goto 10) 3))) (zH pc 170 (zQ pc 169 (.aload_n 0) 1) (zH pc 173 (zQ pc 170 (.getfield 39) 3) (zQ pc 173 (.invokevirtual 114) 3)))) (zH pc 183 (zH pc 179 (zQ pc 176 (.invokevirtual 143) 3) (zH pc 180 (zQ pc 179 (.aload_n 0) 1) (zQ pc 180 (.getfield 39) 3))) (zH pc 186 (zQ pc 183 (.invokevirtual 89) 3) (zH pc 187 (zQ pc 186 (.iconst 1) 1) (zQ pc 187 .ireturn 1))))))))
def zc_80 (pc : Nat) : Option (Instr × Nat) := (zH pc 29 (zH pc 13 (zH pc 7 (zH pc 1 (zQ pc 0 (.aload_n 0) 1) (zH pc 4 (zQ pc 1 (.getfield 39) 3) (zQ pc 4 (.invokevirtual 89) 3))) (zH pc 11 (zH pc 8 (zQ pc 7 (.iload_n 1) 1) (zQ pc 8 (.ifCond .ne 27) 3)) (zH pc 12 (zQ pc 11 (.aload_n 0) 1) (zQ pc 12 (.iconst 0) 1)))) (zH pc 20 (zH pc 14 (zQ pc 13 (.iload_n 2) 1) (zH pc 17 (zQ pc 14 (.invokevirtual 107) 3) (zQ pc 17 (.ifCond .eq 16) 3))) (zH pc 23 (zH pc 21 (zQ pc 20 (.aload_n 0) 1) (zQ pc 21 (.bipush 41) 2)) (zH pc 26 (zQ pc 23 (.invokevirtual 103) 3) (zQ pc 26 (.ifCond .eq 7) 3))))) (zH pc 40 (zH pc 34 (zH pc 30 (zQ pc 29 (.iconst 1) 1) (zH pc 33 (zQ pc 30 (.goto 4) 3) (zQ pc 33 (.iconst 0) 1))) (zH pc 36 (zH pc 35 (zQ pc 34 .ireturn 1) (zQ pc 35 (.aload_n 0) 1)) (zH pc 37 (zQ pc 36 (.iload_n 2) 1) (zQ pc 37 (.invokevirtual 136) 3)))) (zH pc 46 (zH pc 44 (zH pc 43 (zQ pc 40 (.ifCond .ne 5) 3) (zQ pc 43 (.iconst 0) 1)) (zH pc 45 (zQ pc 44 .ireturn 1) (zQ pc 45 (.aload_n 0) 1))) (zH pc 52 (zH pc 49 (zQ pc 46 (.sipush 30000) 3) (zQ pc 49 (.invokevirtual 143) 3)) (zH pc 53 (zQ pc 52 (.iconst 1) 1) (zQ pc 53 .ireturn 1))))))
def zc_81 (pc : Nat) : Option (Instr × Nat) := (zH pc 17 (zH pc 8 (zH pc 4 (zH pc 1 (zQ pc 0 (.aload_n 0) 1) (zQ pc 1 (.getfield 53) 3)) (zH pc 5 (zQ pc 4 (.aload_n 0) 1) (zQ pc 5 (.getfield 23) 3))) (zH pc 12 (zH pc 9 (zQ pc 8 .arraylength 1) (zQ pc 9 (.if_icmp .ge 23) 3)) (zH pc 13 (zQ pc 12 (.aload_n 0) 1) (zH pc 16 (zQ pc 13 (.getfield 23) 3) (zQ pc 16 (.aload_n 0) 1))))) (zH pc 24 (zH pc 21 (zH pc 20 (zQ pc 17 (.getfield 53) 3) (zQ pc 20 (.iload_n 1) 1)) (zH pc 22 (zQ pc 21 .iastore 1) (zH pc 23 (zQ pc 22 (.aload_n 0) 1) (zQ pc 23 .dup 1)))) (zH pc 28 (zH pc 27 (zQ pc 24 (.getfield 53) 3) (zQ pc 27 (.iconst 1) 1)) (zH pc 29 (zQ pc 28 .iadd 1) (zH pc 32 (zQ pc 29 (.putfield 53) 3) (zQ pc 32 .return_ 1))))))
def zc_82 (pc : Nat) : Option (Instr × Nat) := (zH pc 86 (zH pc 43 (zH pc 24 (zH pc 11 (zH pc 4 (zH pc 1 (zQ pc 0 (.aload_n 0) 1) (zQ pc 1 (.getfield 33) 3)) (zH pc 7 (zQ pc 4 (.getstatic 163) 3) (zH pc 10 (zQ pc 7 (.getfield 166) 3) (zQ pc 10 (.iload_n 3) 1)))) (zH pc 16 (zH pc 12 (zQ pc 11 .iastore 1) (zH pc 13 (zQ pc 12 (.aload_n 0) 1) (zQ pc 13 (.getfield 33) 3))) (zH pc 19 (zQ pc 16 (.getstatic 168) 3) (zH pc 22 (zQ pc 19 (.getfield 166) 3) (zQ pc 22 (.iload 4) 2))))) (zH pc 31 (zH pc 26 (zH pc 25 (zQ pc 24 .iastore 1) (zQ pc 25 (.iconst 0) 1)) (zH pc 28 (zQ pc 26 (.istore 5) 2) (zH pc 29 (zQ pc 28 (.iload_n 1) 1) (zQ pc 29 (.istore 6) 2)))) (zH pc 36 (zH pc 32 (zQ pc 31 (.iconst 0) 1) (zH pc 34 (zQ pc 32 (.istore 7) 2) (zQ pc 34 (.iload 7) 2))) (zH pc 38 (zQ pc 36 (.ldc 171) 2) (zH pc 41 (zQ pc 38 (.if_icmp .gt 133) 3) (zQ pc 41 (.iload 6) 2)))))) (zH pc 66 (zH pc 54 (zH pc 47 (zH pc 44 (zQ pc 43 (.iload_n 2) 1) (zQ pc 44 (.if_icmp .ge 127) 3)) (zH pc 48 (zQ pc 47 (.aload_n 0) 1) (zH pc 51 (zQ pc 48 (.getfield 33) 3) (zQ pc 51 (.getstatic 172) 3)))) (zH pc 62 (zH pc 57 (zQ pc 54 (.getfield 166) 3) (zH pc 59 (zQ pc 57 (.iload 6) 2) (zQ pc 59 (.sipush 3600) 3))) (zH pc 63 (zQ pc 62 .idiv 1) (zH pc 65 (zQ pc 63 (.bipush 24) 2) (zQ pc 65 .irem 1))))) (zH pc 77 (zH pc 68 (zH pc 67 (zQ pc 66 .iastore 1) (zQ pc 67 (.aload_n 0) 1)) (zH pc 71 (zQ pc 68 (.getfield 33) 3) (zH pc 74 (zQ pc 71 (.getstatic 175) 3) (zQ pc 74 (.getfield 166) 3)))) (zH pc 82 (zH pc 79 (zQ pc 77 (.iload 6) 2) (zH pc 81 (zQ pc 79 (.ldc 178) 2) (zQ pc 81 .idiv 1))) (zH pc 84 (zQ pc 82 (.bipush 7) 2) (zH pc 85 (zQ pc 84 .irem 1) (zQ pc 85 .iastore 1))))))) (zH pc 129 (zH pc 108 (zH pc 98 (zH pc 90 (zH pc 87 (zQ pc 86 (.aload_n 0) 1) (zQ pc 87 (.getfield 33) 3)) (zH pc 93 (zQ pc 90 (.getstatic 179) 3) (zH pc 96 (zQ pc 93 (.getfield 166) 3) (zQ pc 96 (.iload 6) 2)))) (zH pc 101 (zH pc 99 (zQ pc 98 (.iload_n 1) 1) (zH pc 100 (zQ pc 99 .isub 1) (zQ pc 100 .iastore 1))) (zH pc 102 (zQ pc 101 (.aload_n 0) 1) (zH pc 105 (zQ pc 102 (.getfield 33) 3) (zQ pc 105 (.getstatic 182) 3))))) (zH pc 118 (zH pc 113 (zH pc 111 (zQ pc 108 (.getfield 166) 3) (zQ pc 111 (.iload 5) 2)) (zH pc 114 (zQ pc 113 .iastore 1) (zH pc 115 (zQ pc 114 (.aload_n 0) 1) (zQ pc 115 (.invokevirtual 185) 3)))) (zH pc 124 (zH pc 120 (zQ pc 118 (.istore 8) 2) (zH pc 122 (zQ pc 120 (.iload 5) 2) (zQ pc 122 (.iload 8) 2))) (zH pc 125 (zQ pc 124 (.iconst (-1)) 1) (zH pc 128 (zQ pc 125 (.if_icmp .ne 7) 3) (zQ pc 128 (.iconst 0) 1)))))) (zH pc 150 (zH pc 139 (zH pc 133 (zH pc 132 (zQ pc 129 (.goto 10) 3) (zQ pc 132 (.aload_n 0) 1)) (zH pc 136 (zQ pc 133 (.getfield 11) 3) (zH pc 138 (zQ pc 136 (.iload 8) 2) (zQ pc 138 .iaload 1)))) (zH pc 144 (zH pc 140 (zQ pc 139 .iadd 1) (zH pc 142 (zQ pc 140 (.istore 5) 2) (zQ pc 142 (.iload 6) 2))) (zH pc 146 (zQ pc 144 (.iload 8) 2) (zH pc 147 (zQ pc 146 (.iconst (-1)) 1) (zQ pc 147 (.if_icmp .ne 8) 3))))) (zH pc 162 (zH pc 156 (zH pc 152 (zQ pc 150 (.bipush 60) 2) (zH pc 155 (zQ pc 152 (.goto 10) 3) (zQ pc 155 (.aload_n 0) 1))) (zH pc 159 (zQ pc 156 (.getfield 15) 3) (zH pc 161 (zQ pc 159 (.iload 8) 2) (zQ pc 161 .iaload 1)))) (zH pc 168 (zH pc 163 (zQ pc 162 .iadd 1) (zH pc 165 (zQ pc 163 (.istore 6) 2) (zQ pc 165 (.iinc 7 1) 3))) (zH pc 171 (zQ pc 168 (.goto (-134)) 3) (zH pc 173 (zQ pc 171 (.iload 5) 2) (zQ pc 173 .ireturn 1))))))))
def zc_83 (pc : Nat) : Option (Instr × Nat) := (zH pc 39 (zH pc 17 (zH pc 6 (zH pc 3 (zH pc 1 (zQ pc 0 (.iconst 0) 1) (zH pc 2 (zQ pc 1 (.istore_n 1) 1) (zQ pc 2 (.iconst 0) 1))) (zH pc 4 (zQ pc 3 (.istore_n 2) 1) (zH pc 5 (zQ pc 4 (.iconst 0) 1) (zQ pc 5 (.istore_n 3) 1)))) (zH pc 11 (zH pc 7 (zQ pc 6 (.iload_n 3) 1) (zH pc 8 (zQ pc 7 (.aload_n 0) 1) (zQ pc 8 (.getfield 47) 3))) (zH pc 15 (zH pc 14 (zQ pc 11 (.if_icmp .ge 73) 3) (zQ pc 14 (.aload_n 0) 1)) (zH pc 16 (zQ pc 15 (.iload_n 1) 1) (zQ pc 16 (.aload_n 0) 1))))) (zH pc 28 (zH pc 22 (zH pc 20 (zQ pc 17 (.getfield 18) 3) (zH pc 21 (zQ pc 20 (.iload_n 3) 1) (zQ pc 21 .iaload 1))) (zH pc 25 (zQ pc 22 (.invokevirtual 188) 3) (zH pc 27 (zQ pc 25 (.istore 4) 2) (zQ pc 27 (.aload_n 0) 1)))) (zH pc 33 (zH pc 31 (zQ pc 28 (.getfield 18) 3) (zH pc 32 (zQ pc 31 (.iload_n 3) 1) (zQ pc 32 .iaload 1))) (zH pc 35 (zH pc 34 (zQ pc 33 (.istore_n 1) 1) (zQ pc 34 (.aload_n 0) 1)) (zH pc 38 (zQ pc 35 (.getfield 11) 3) (zQ pc 38 (.iload_n 3) 1)))))) (zH pc 61 (zH pc 50 (zH pc 44 (zH pc 40 (zQ pc 39 .iaload 1) (zH pc 41 (zQ pc 40 (.iconst (-1)) 1) (zQ pc 41 (.if_icmp .eq 10) 3))) (zH pc 46 (zQ pc 44 (.iload 4) 2) (zH pc 49 (zQ pc 46 (.ifCond .eq 5) 3) (zQ pc 49 (.iload_n 3) 1)))) (zH pc 55 (zH pc 51 (zQ pc 50 .ireturn 1) (zH pc 52 (zQ pc 51 (.aload_n 0) 1) (zQ pc 52 (.getfield 11) 3))) (zH pc 57 (zH pc 56 (zQ pc 55 (.iload_n 3) 1) (zQ pc 56 .iaload 1)) (zH pc 58 (zQ pc 57 (.iconst (-1)) 1) (zQ pc 58 (.if_icmp .ne 20) 3))))) (zH pc 72 (zH pc 67 (zH pc 62 (zQ pc 61 (.iload_n 2) 1) (zH pc 64 (zQ pc 62 (.bipush 6) 2) (zQ pc 64 (.if_icmp .ge 14) 3))) (zH pc 68 (zQ pc 67 (.aload_n 0) 1) (zH pc 71 (zQ pc 68 (.getfield 30) 3) (zQ pc 71 (.iload_n 2) 1)))) (zH pc 78 (zH pc 74 (zQ pc 72 (.iload 4) 2) (zH pc 75 (zQ pc 74 .iastore 1) (zQ pc 75 (.iinc 2 1) 3))) (zH pc 84 (zH pc 81 (zQ pc 78 (.iinc 3 1) 3) (zQ pc 81 (.goto (-75)) 3)) (zH pc 85 (zQ pc 84 (.iconst (-1)) 1) (zQ pc 85 .ireturn 1)))))))
def zc_84 (pc : Nat) : Option (Instr × Nat) := (zH pc 79 (zH pc 38 (zH pc 17 (zH pc 7 (zH pc 2 (zH pc 1 (zQ pc 0 (.iconst 0) 1) (zQ pc 1 (.istore_n 3) 1)) (zH pc 3 (zQ pc 2 (.iload_n 1) 1) (zH pc 5 (zQ pc 3 (.istore 4) 2) (zQ pc 5 (.iload 4) 2)))) (zH pc 11 (zH pc 8 (zQ pc 7 (.iload_n 2) 1) (zQ pc 8 (.if_icmp .ge 136) 3)) (zH pc 12 (zQ pc 11 (.aload_n 0) 1) (zH pc 15 (zQ pc 12 (.getfield 23) 3) (zQ pc 15 (.iload 4) 2))))) (zH pc 28 (zH pc 20 (zH pc 18 (zQ pc 17 .iaload 1) (zQ pc 18 (.istore 5) 2)) (zH pc 22 (zQ pc 20 (.iload 5) 2) (zH pc 25 (zQ pc 22 (.sipush 30000) 3) (zQ pc 25 (.if_icmp .ge 30) 3)))) (zH pc 33 (zH pc 29 (zQ pc 28 (.iload_n 3) 1) (zH pc 30 (zQ pc 29 (.aload_n 0) 1) (zQ pc 30 (.getfield 36) 3))) (zH pc 34 (zQ pc 33 .arraylength 1) (zH pc 37 (zQ pc 34 (.if_icmp .ge 21) 3) (zQ pc 37 (.aload_n 0) 1)))))) (zH pc 60 (zH pc 48 (zH pc 42 (zH pc 41 (zQ pc 38 (.getfield 36) 3) (zQ pc 41 (.iload_n 3) 1)) (zH pc 43 (zQ pc 42 (.aload_n 0) 1) (zH pc 45 (zQ pc 43 (.iload 5) 2) (zQ pc 45 (.invokevirtual 192) 3)))) (zH pc 52 (zH pc 49 (zQ pc 48 .iastore 1) (zQ pc 49 (.iinc 3 1) 3)) (zH pc 55 (zQ pc 52 (.goto 86) 3) (zH pc 57 (zQ pc 55 (.iload 5) 2) (zQ pc 57 (.sipush 30000) 3))))) (zH pc 69 (zH pc 64 (zH pc 63 (zQ pc 60 (.if_icmp .ne 35) 3) (zQ pc 63 (.iload_n 3) 1)) (zH pc 65 (zQ pc 64 (.iconst 1) 1) (zH pc 68 (zQ pc 65 (.if_icmp .lt 30) 3) (zQ pc 68 (.aload_n 0) 1)))) (zH pc 74 (zH pc 72 (zQ pc 69 (.getfield 36) 3) (zH pc 73 (zQ pc 72 (.iload_n 3) 1) (zQ pc 73 (.iconst 1) 1))) (zH pc 75 (zQ pc 74 .isub 1) (zH pc 76 (zQ pc 75 (.aload_n 0) 1) (zQ pc 76 (.getfield 36) 3))))))) (zH pc 117 (zH pc 95 (zH pc 86 (zH pc 81 (zH pc 80 (zQ pc 79 (.iload_n 3) 1) (zQ pc 80 (.iconst 1) 1)) (zH pc 82 (zQ pc 81 .isub 1) (zH pc 83 (zQ pc 82 .iaload 1) (zQ pc 83 (.ifCond .ne 7) 3)))) (zH pc 90 (zH pc 87 (zQ pc 86 (.iconst 1) 1) (zQ pc 87 (.goto 4) 3)) (zH pc 91 (zQ pc 90 (.iconst 0) 1) (zH pc 92 (zQ pc 91 .iastore 1) (zQ pc 92 (.goto 46) 3))))) (zH pc 105 (zH pc 100 (zH pc 97 (zQ pc 95 (.iload 5) 2) (zQ pc 97 (.sipush 30000) 3)) (zH pc 103 (zQ pc 100 (.if_icmp .le 38) 3) (zH pc 104 (zQ pc 103 (.iload_n 3) 1) (zQ pc 104 (.iconst 2) 1)))) (zH pc 112 (zH pc 108 (zQ pc 105 (.if_icmp .lt 33) 3) (zH pc 111 (zQ pc 108 (.iinc 3 (-1)) 3) (zQ pc 111 (.aload_n 0) 1))) (zH pc 115 (zQ pc 112 (.getfield 36) 3) (zH pc 116 (zQ pc 115 (.iload_n 3) 1) (zQ pc 116 (.iconst 1) 1)))))) (zH pc 132 (zH pc 125 (zH pc 120 (zH pc 118 (zQ pc 117 .isub 1) (zQ pc 118 (.iload 5) 2)) (zH pc 121 (zQ pc 120 (.aload_n 0) 1) (zH pc 124 (zQ pc 121 (.getfield 36) 3) (zQ pc 124 (.iload_n 3) 1)))) (zH pc 127 (zH pc 126 (zQ pc 125 (.iconst 1) 1) (zQ pc 126 .isub 1)) (zH pc 128 (zQ pc 127 .iaload 1) (zH pc 129 (zQ pc 128 (.aload_n 0) 1) (zQ pc 129 (.getfield 36) 3))))) (zH pc 141 (zH pc 134 (zH pc 133 (zQ pc 132 (.iload_n 3) 1) (zQ pc 133 .iaload 1)) (zH pc 137 (zQ pc 134 (.invokestatic 195) 3) (zH pc 138 (zQ pc 137 .iastore 1) (zQ pc 138 (.iinc 4 1) 3)))) (zH pc 148 (zH pc 144 (zQ pc 141 (.goto (-136)) 3) (zH pc 145 (zQ pc 144 (.aload_n 0) 1) (zQ pc 145 (.getfield 36) 3))) (zH pc 149 (zQ pc 148 (.iconst 0) 1) (zH pc 150 (zQ pc 149 .iaload 1) (zQ pc 150 .ireturn 1))))))))
def zc_85 (pc : Nat) : Option (Instr × Nat) := (zH pc 19 (zH pc 11 (zH pc 4 (zH pc 1 (zQ pc 0 (.iload_n 1) 1) (zQ pc 1 (.sipush 20000) 3)) (zH pc 7 (zQ pc 4 (.if_icmp .lt 14) 3) (zH pc 8 (zQ pc 7 (.aload_n 0) 1) (zQ pc 8 (.getfield 30) 3)))) (zH pc 16 (zH pc 12 (zQ pc 11 (.iload_n 1) 1) (zH pc 15 (zQ pc 12 (.sipush 20000) 3) (zQ pc 15 .isub 1))) (zH pc 17 (zQ pc 16 .iaload 1) (zH pc 18 (zQ pc 17 .ireturn 1) (zQ pc 18 (.iload_n 1) 1))))) (zH pc 30 (zH pc 25 (zH pc 22 (zQ pc 19 (.sipush 10000) 3) (zQ pc 22 (.if_icmp .lt 16) 3)) (zH pc 26 (zQ pc 25 (.aload_n 0) 1) (zH pc 29 (zQ pc 26 (.getfield 33) 3) (zQ pc 29 (.iload_n 1) 1)))) (zH pc 35 (zH pc 33 (zQ pc 30 (.sipush 10000) 3) (zH pc 34 (zQ pc 33 .isub 1) (zQ pc 34 .iaload 1))) (zH pc 38 (zQ pc 35 (.goto 4) 3) (zH pc 39 (zQ pc 38 (.iload_n 1) 1) (zQ pc 39 .ireturn 1))))))
def zc_86 (pc : Nat) : Option (Instr × Nat) := (zH pc 74 (zH pc 55 (zH pc 45 (zH pc 40 (zH pc 1 (zQ pc 0 (.iload_n 0) 1) (zQ pc 1 (.tableswitch 97 30001 30006 #[39, 53, 67, 78, 89, 93]) 39)) (zH pc 41 (zQ pc 40 (.iload_n 1) 1) (zH pc 44 (zQ pc 41 (.ifCond .eq 11) 3) (zQ pc 44 (.iload_n 2) 1)))) (zH pc 52 (zH pc 48 (zQ pc 45 (.ifCond .eq 7) 3) (zH pc 49 (zQ pc 48 (.iconst 1) 1) (zQ pc 49 (.goto 4) 3))) (zH pc 53 (zQ pc 52 (.iconst 0) 1) (zH pc 54 (zQ pc 53 .ireturn 1) (zQ pc 54 (.iload_n 1) 1))))) (zH pc 66 (zH pc 59 (zH pc 58 (zQ pc 55 (.ifCond .ne 7) 3) (zQ pc 58 (.iload_n 2) 1)) (zH pc 62 (zQ pc 59 (.ifCond .eq 7) 3) (zH pc 63 (zQ pc 62 (.iconst 1) 1) (zQ pc 63 (.goto 4) 3)))) (zH pc 69 (zH pc 67 (zQ pc 66 (.iconst 0) 1) (zH pc 68 (zQ pc 67 .ireturn 1) (zQ pc 68 (.iload_n 1) 1))) (zH pc 70 (zQ pc 69 (.iload_n 2) 1) (zH pc 73 (zQ pc 70 (.if_icmp .ge 7) 3) (zQ pc 73 (.iconst 1) 1)))))) (zH pc 91 (zH pc 81 (zH pc 78 (zH pc 77 (zQ pc 74 (.goto 4) 3) (zQ pc 77 (.iconst 0) 1)) (zH pc 79 (zQ pc 78 .ireturn 1) (zH pc 80 (zQ pc 79 (.iload_n 1) 1) (zQ pc 80 (.iload_n 2) 1)))) (zH pc 88 (zH pc 84 (zQ pc 81 (.if_icmp .ne 7) 3) (zH pc 85 (zQ pc 84 (.iconst 1) 1) (zQ pc 85 (.goto 4) 3))) (zH pc 89 (zQ pc 88 (.iconst 0) 1) (zH pc 90 (zQ pc 89 .ireturn 1) (zQ pc 90 (.iload_n 1) 1))))) (zH pc 96 (zH pc 93 (zH pc 92 (zQ pc 91 (.iload_n 2) 1) (zQ pc 92 .iadd 1)) (zH pc 94 (zQ pc 93 .ireturn 1) (zH pc 95 (zQ pc 94 (.iload_n 1) 1) (zQ pc 95 (.iload_n 2) 1)))) (zH pc 99 (zH pc 97 (zQ pc 96 .isub 1) (zH pc 98 (zQ pc 97 .ireturn 1) (zQ pc 98 (.iload_n 1) 1))) (zH pc 100 (zQ pc 99 (.iload_n 2) 1) (zH pc 101 (zQ pc 100 .imul 1) (zQ pc 101 .ireturn 1)))))))
def zc_87 (pc : Nat) : Option (Instr × Nat) := (zH pc 57 (zH pc 25 (zH pc 12 (zH pc 6 (zH pc 1 (zQ pc 0 (.aload_n 0) 1) (zH pc 4 (zQ pc 1 (.getfield 41) 3) (zQ pc 4 (.bipush 60) 2))) (zH pc 10 (zH pc 9 (zQ pc 6 (.if_icmp .ne 4) 3) (zQ pc 9 .return_ 1)) (zH pc 11 (zQ pc 10 (.iconst 0) 1) (zQ pc 11 (.istore_n 3) 1)))) (zH pc 17 (zH pc 13 (zQ pc 12 (.iconst 0) 1) (zH pc 15 (zQ pc 13 (.istore 4) 2) (zQ pc 15 (.iload 4) 2))) (zH pc 21 (zH pc 18 (zQ pc 17 (.aload_n 1) 1) (zQ pc 18 (.getfield 45) 3)) (zH pc 24 (zQ pc 21 (.if_icmp .ge 56) 3) (zQ pc 24 (.iload_n 3) 1))))) (zH pc 40 (zH pc 31 (zH pc 27 (zQ pc 25 (.bipush 6) 2) (zH pc 30 (zQ pc 27 (.if_icmp .ge 50) 3) (zQ pc 30 (.aload_n 0) 1))) (zH pc 35 (zH pc 34 (zQ pc 31 (.getfield 37) 3) (zQ pc 34 (.aload_n 1) 1)) (zH pc 38 (zQ pc 35 (.getfield 50) 3) (zQ pc 38 (.iload 4) 2)))) (zH pc 48 (zH pc 44 (zH pc 41 (zQ pc 40 .iaload 1) (zQ pc 41 (.invokevirtual 53) 3)) (zH pc 47 (zQ pc 44 (.ifCond .eq 27) 3) (zQ pc 47 (.aload_n 0) 1))) (zH pc 52 (zH pc 51 (zQ pc 48 (.getfield 11) 3) (zQ pc 51 (.aload_n 0) 1)) (zH pc 55 (zQ pc 52 (.getfield 41) 3) (zQ pc 55 (.bipush 6) 2)))))) (zH pc 85 (zH pc 67 (zH pc 60 (zH pc 58 (zQ pc 57 .imul 1) (zH pc 59 (zQ pc 58 (.iload_n 3) 1) (zQ pc 59 .iadd 1))) (zH pc 64 (zH pc 61 (zQ pc 60 (.aload_n 1) 1) (zQ pc 61 (.getfield 50) 3)) (zH pc 66 (zQ pc 64 (.iload 4) 2) (zQ pc 66 .iaload 1)))) (zH pc 77 (zH pc 71 (zH pc 68 (zQ pc 67 .iastore 1) (zQ pc 68 (.iinc 3 1) 3)) (zH pc 74 (zQ pc 71 (.iinc 4 1) 3) (zQ pc 74 (.goto (-59)) 3))) (zH pc 81 (zH pc 78 (zQ pc 77 (.aload_n 0) 1) (zQ pc 78 (.getfield 15) 3)) (zH pc 82 (zQ pc 81 (.aload_n 0) 1) (zQ pc 82 (.getfield 41) 3))))) (zH pc 96 (zH pc 88 (zH pc 86 (zQ pc 85 (.iload_n 3) 1) (zH pc 87 (zQ pc 86 .iastore 1) (zQ pc 87 (.aload_n 0) 1))) (zH pc 92 (zH pc 91 (zQ pc 88 (.getfield 18) 3) (zQ pc 91 (.aload_n 0) 1)) (zH pc 95 (zQ pc 92 (.getfield 41) 3) (zQ pc 95 (.iload_n 2) 1)))) (zH pc 102 (zH pc 98 (zH pc 97 (zQ pc 96 .bastore 1) (zQ pc 97 (.aload_n 0) 1)) (zH pc 99 (zQ pc 98 .dup 1) (zQ pc 99 (.getfield 41) 3))) (zH pc 104 (zH pc 103 (zQ pc 102 (.iconst 1) 1) (zQ pc 103 .iadd 1)) (zH pc 107 (zQ pc 104 (.putfield 41) 3) (zQ pc 107 .return_ 1)))))))
def zc_88 (pc : Nat) : Option (Instr × Nat) := (zH pc 21 (zH pc 10 (zH pc 5 (zH pc 1 (zQ pc 0 (.aload_n 0) 1) (zH pc 2 (zQ pc 1 (.iconst 0) 1) (zQ pc 2 (.putfield 59) 3))) (zH pc 6 (zQ pc 5 (.aload_n 0) 1) (zH pc 9 (zQ pc 6 (.getfield 34) 3) (zQ pc 9 (.iconst 0) 1)))) (zH pc 17 (zH pc 13 (zQ pc 10 (.invokestatic 62) 3) (zH pc 14 (zQ pc 13 (.aload_n 0) 1) (zQ pc 14 (.invokevirtual 68) 3))) (zH pc 19 (zH pc 18 (zQ pc 17 (.iconst 0) 1) (zQ pc 18 (.istore_n 1) 1)) (zH pc 20 (zQ pc 19 (.iload_n 1) 1) (zQ pc 20 (.iconst 3) 1))))) (zH pc 34 (zH pc 26 (zH pc 24 (zQ pc 21 (.if_icmp .gt 24) 3) (zH pc 25 (zQ pc 24 (.aload_n 0) 1) (zQ pc 25 (.iconst 0) 1))) (zH pc 30 (zH pc 27 (zQ pc 26 (.iload_n 1) 1) (zQ pc 27 (.invokevirtual 71) 3)) (zH pc 31 (zQ pc 30 (.aload_n 0) 1) (zQ pc 31 (.getfield 59) 3)))) (zH pc 39 (zH pc 37 (zQ pc 34 (.ifCond .le 5) 3) (zH pc 38 (zQ pc 37 (.iload_n 1) 1) (zQ pc 38 .ireturn 1))) (zH pc 45 (zH pc 42 (zQ pc 39 (.iinc 1 1) 3) (zQ pc 42 (.goto (-23)) 3)) (zH pc 46 (zQ pc 45 (.iconst (-1)) 1) (zQ pc 46 .ireturn 1))))))
def zc_89 (pc : Nat) : Option (Instr × Nat) := (zH pc 13 (zH pc 7 (zH pc 1 (zQ pc 0 (.aload_n 0) 1) (zH pc 4 (zQ pc 1 (.getfield 59) 3) (zQ pc 4 (.ifCond .le 20) 3))) (zH pc 11 (zH pc 8 (zQ pc 7 (.aload_n 0) 1) (zQ pc 8 (.getfield 34) 3)) (zH pc 12 (zQ pc 11 (.iload_n 1) 1) (zQ pc 12 .iaload 1)))) (zH pc 20 (zH pc 14 (zQ pc 13 (.aload_n 0) 1) (zH pc 17 (zQ pc 14 (.getfield 59) 3) (zQ pc 17 (.if_icmp .ne 7) 3))) (zH pc 24 (zH pc 21 (zQ pc 20 (.iconst 1) 1) (zQ pc 21 (.goto 4) 3)) (zH pc 25 (zQ pc 24 (.iconst 0) 1) (zQ pc 25 .ireturn 1)))))
def zc_90 (pc : Nat) : Option (Instr × Nat) := (zH pc 39 (zH pc 21 (zH pc 9 (zH pc 3 (zH pc 1 (zQ pc 0 (.iconst 0) 1) (zH pc 2 (zQ pc 1 (.istore_n 1) 1) (zQ pc 2 (.iload_n 1) 1))) (zH pc 5 (zQ pc 3 (.bipush 96) 2) (zH pc 8 (zQ pc 5 (.if_icmp .ge 16) 3) (zQ pc 8 (.aload_n 0) 1)))) (zH pc 14 (zH pc 12 (zQ pc 9 (.getfield 22) 3) (zH pc 13 (zQ pc 12 (.iload_n 1) 1) (zQ pc 13 (.iconst 0) 1))) (zH pc 15 (zQ pc 14 .bastore 1) (zH pc 18 (zQ pc 15 (.iinc 1 1) 3) (zQ pc 18 (.goto (-16)) 3))))) (zH pc 31 (zH pc 24 (zH pc 22 (zQ pc 21 (.iconst 0) 1) (zH pc 23 (zQ pc 22 (.istore_n 1) 1) (zQ pc 23 (.iload_n 1) 1))) (zH pc 25 (zQ pc 24 (.aload_n 0) 1) (zH pc 28 (zQ pc 25 (.getfield 41) 3) (zQ pc 28 (.if_icmp .ge 53) 3)))) (zH pc 34 (zH pc 32 (zQ pc 31 (.iconst 0) 1) (zH pc 33 (zQ pc 32 (.istore_n 2) 1) (zQ pc 33 (.iload_n 2) 1))) (zH pc 35 (zQ pc 34 (.aload_n 0) 1) (zH pc 38 (zQ pc 35 (.getfield 15) 3) (zQ pc 38 (.iload_n 1) 1)))))) (zH pc 61 (zH pc 49 (zH pc 44 (zH pc 40 (zQ pc 39 .iaload 1) (zH pc 43 (zQ pc 40 (.if_icmp .ge 35) 3) (zQ pc 43 (.aload_n 0) 1))) (zH pc 47 (zQ pc 44 (.getfield 18) 3) (zH pc 48 (zQ pc 47 (.iload_n 1) 1) (zQ pc 48 .baload 1)))) (zH pc 56 (zH pc 52 (zQ pc 49 (.ifCond .ne 26) 3) (zH pc 53 (zQ pc 52 (.aload_n 0) 1) (zQ pc 53 (.getfield 22) 3))) (zH pc 57 (zQ pc 56 (.aload_n 0) 1) (zH pc 60 (zQ pc 57 (.getfield 11) 3) (zQ pc 60 (.iload_n 1) 1))))) (zH pc 68 (zH pc 65 (zH pc 63 (zQ pc 61 (.bipush 6) 2) (zH pc 64 (zQ pc 63 .imul 1) (zQ pc 64 (.iload_n 2) 1))) (zH pc 66 (zQ pc 65 .iadd 1) (zH pc 67 (zQ pc 66 .iaload 1) (zQ pc 67 (.iconst 1) 1)))) (zH pc 75 (zH pc 69 (zQ pc 68 .bastore 1) (zH pc 72 (zQ pc 69 (.iinc 2 1) 3) (zQ pc 72 (.goto (-39)) 3))) (zH pc 78 (zQ pc 75 (.iinc 1 1) 3) (zH pc 81 (zQ pc 78 (.goto (-55)) 3) (zQ pc 81 .return_ 1)))))))
def zc_91 (pc : Nat) : Option (Instr × Nat) := (zH pc 41 (zH pc 18 (zH pc 8 (zH pc 5 (zH pc 1 (zQ pc 0 (.aload_n 0) 1) (zH pc 2 (zQ pc 1 (.iload_n 1) 1) (zQ pc 2 (.invokevirtual 75) 3))) (zH pc 6 (zQ pc 5 (.istore_n 3) 1) (zH pc 7 (zQ pc 6 (.iload_n 3) 1) (zQ pc 7 (.iconst (-1)) 1)))) (zH pc 13 (zH pc 11 (zQ pc 8 (.if_icmp .ne 9) 3) (zH pc 12 (zQ pc 11 (.aload_n 0) 1) (zQ pc 12 (.iload_n 1) 1))) (zH pc 16 (zQ pc 13 (.invokevirtual 79) 3) (zH pc 17 (zQ pc 16 .return_ 1) (zQ pc 17 (.iconst 0) 1))))) (zH pc 28 (zH pc 23 (zH pc 20 (zQ pc 18 (.istore 4) 2) (zH pc 22 (zQ pc 20 (.iload 4) 2) (zQ pc 22 (.aload_n 0) 1))) (zH pc 26 (zQ pc 23 (.getfield 15) 3) (zH pc 27 (zQ pc 26 (.iload_n 3) 1) (zQ pc 27 .iaload 1)))) (zH pc 33 (zH pc 31 (zQ pc 28 (.if_icmp .ge 54) 3) (zH pc 32 (zQ pc 31 (.iload_n 1) 1) (zQ pc 32 (.iload_n 2) 1))) (zH pc 37 (zH pc 36 (zQ pc 33 (.if_icmp .ge 49) 3) (zQ pc 36 (.aload_n 0) 1)) (zH pc 40 (zQ pc 37 (.getfield 11) 3) (zQ pc 40 (.iload_n 3) 1)))))) (zH pc 61 (zH pc 50 (zH pc 46 (zH pc 43 (zQ pc 41 (.bipush 6) 2) (zH pc 44 (zQ pc 43 .imul 1) (zQ pc 44 (.iload 4) 2))) (zH pc 47 (zQ pc 46 .iadd 1) (zH pc 48 (zQ pc 47 .iaload 1) (zQ pc 48 (.istore 5) 2)))) (zH pc 56 (zH pc 51 (zQ pc 50 (.aload_n 0) 1) (zH pc 54 (zQ pc 51 (.getfield 22) 3) (zQ pc 54 (.iload 5) 2))) (zH pc 57 (zQ pc 56 .baload 1) (zH pc 60 (zQ pc 57 (.ifCond .ne 19) 3) (zQ pc 60 (.aload_n 0) 1))))) (zH pc 70 (zH pc 67 (zH pc 64 (zQ pc 61 (.getfield 25) 3) (zH pc 65 (zQ pc 64 (.iload_n 1) 1) (zQ pc 65 (.iload 5) 2))) (zH pc 68 (zQ pc 67 .iastore 1) (zH pc 69 (zQ pc 68 (.aload_n 0) 1) (zQ pc 69 (.iload_n 1) 1)))) (zH pc 73 (zH pc 71 (zQ pc 70 (.iconst 1) 1) (zH pc 72 (zQ pc 71 .iadd 1) (zQ pc 72 (.iload_n 2) 1))) (zH pc 79 (zH pc 76 (zQ pc 73 (.invokevirtual 71) 3) (zQ pc 76 (.iinc 4 1) 3)) (zH pc 82 (zQ pc 79 (.goto (-59)) 3) (zQ pc 82 .return_ 1)))))))
def zc_92 (pc : Nat) : Option (Instr × Nat) := (zH pc 19 (zH pc 7 (zH pc 2 (zH pc 1 (zQ pc 0 (.iconst 0) 1) (zQ pc 1 (.istore_n 2) 1)) (zH pc 3 (zQ pc 2 (.iload_n 2) 1) (zH pc 4 (zQ pc 3 (.aload_n 0) 1) (zQ pc 4 (.getfield 41) 3)))) (zH pc 14 (zH pc 10 (zQ pc 7 (.if_icmp .ge 29) 3) (zH pc 11 (zQ pc 10 (.aload_n 0) 1) (zQ pc 11 (.getfield 18) 3))) (zH pc 15 (zQ pc 14 (.iload_n 2) 1) (zH pc 16 (zQ pc 15 .baload 1) (zQ pc 16 (.ifCond .eq 14) 3))))) (zH pc 28 (zH pc 21 (zH pc 20 (zQ pc 19 (.aload_n 0) 1) (zQ pc 20 (.iload_n 2) 1)) (zH pc 22 (zQ pc 21 (.iload_n 1) 1) (zH pc 25 (zQ pc 22 (.invokevirtual 83) 3) (zQ pc 25 (.ifCond .ne 5) 3)))) (zH pc 33 (zH pc 29 (zQ pc 28 (.iload_n 2) 1) (zH pc 30 (zQ pc 29 .ireturn 1) (zQ pc 30 (.iinc 2 1) 3))) (zH pc 36 (zQ pc 33 (.goto (-31)) 3) (zH pc 37 (zQ pc 36 (.iconst (-1)) 1) (zQ pc 37 .ireturn 1))))))
def zc_93 (pc : Nat) : Option (Instr × Nat) := (zH pc 28 (zH pc 12 (zH pc 4 (zH pc 2 (zH pc 1 (zQ pc 0 (.iconst 0) 1) (zQ pc 1 (.istore_n 3) 1)) (zH pc 3 (zQ pc 2 (.iload_n 3) 1) (zQ pc 3 (.aload_n 0) 1))) (zH pc 8 (zH pc 7 (zQ pc 4 (.getfield 15) 3) (zQ pc 7 (.iload_n 1) 1)) (zH pc 9 (zQ pc 8 .iaload 1) (zQ pc 9 (.if_icmp .ge 47) 3)))) (zH pc 18 (zH pc 15 (zH pc 13 (zQ pc 12 (.iconst 0) 1) (zQ pc 13 (.istore 4) 2)) (zH pc 17 (zQ pc 15 (.iload 4) 2) (zQ pc 17 (.iload_n 2) 1))) (zH pc 22 (zH pc 21 (zQ pc 18 (.if_icmp .ge 32) 3) (zQ pc 21 (.aload_n 0) 1)) (zH pc 25 (zQ pc 22 (.getfield 11) 3) (zH pc 26 (zQ pc 25 (.iload_n 1) 1) (zQ pc 26 (.bipush 6) 2)))))) (zH pc 39 (zH pc 32 (zH pc 30 (zH pc 29 (zQ pc 28 .imul 1) (zQ pc 29 (.iload_n 3) 1)) (zH pc 31 (zQ pc 30 .iadd 1) (zQ pc 31 .iaload 1))) (zH pc 36 (zH pc 33 (zQ pc 32 (.aload_n 0) 1) (zQ pc 33 (.getfield 25) 3)) (zH pc 38 (zQ pc 36 (.iload 4) 2) (zQ pc 38 .iaload 1)))) (zH pc 47 (zH pc 43 (zH pc 42 (zQ pc 39 (.if_icmp .ne 5) 3) (zQ pc 42 (.iconst 1) 1)) (zH pc 44 (zQ pc 43 .ireturn 1) (zQ pc 44 (.iinc 4 1) 3))) (zH pc 53 (zH pc 50 (zQ pc 47 (.goto (-32)) 3) (zQ pc 50 (.iinc 3 1) 3)) (zH pc 56 (zQ pc 53 (.goto (-51)) 3) (zH pc 57 (zQ pc 56 (.iconst 0) 1) (zQ pc 57 .ireturn 1)))))))
def zc_94 (pc : Nat) : Option (Instr × Nat) := (zH pc 55 (zH pc 24 (zH pc 15 (zH pc 4 (zH pc 2 (zH pc 1 (zQ pc 0 (.iconst 0) 1) (zQ pc 1 (.istore_n 2) 1)) (zH pc 3 (zQ pc 2 (.iload_n 2) 1) (zQ pc 3 (.iload_n 1) 1))) (zH pc 8 (zH pc 7 (zQ pc 4 (.if_icmp .ge 79) 3) (zQ pc 7 (.aload_n 0) 1)) (zH pc 11 (zQ pc 8 (.getfield 34) 3) (zH pc 12 (zQ pc 11 (.aload_n 0) 1) (zQ pc 12 (.getfield 25) 3))))) (zH pc 19 (zH pc 17 (zH pc 16 (zQ pc 15 (.iload_n 2) 1) (zQ pc 16 .iaload 1)) (zH pc 18 (zQ pc 17 .dup2 1) (zQ pc 18 .iaload 1))) (zH pc 21 (zH pc 20 (zQ pc 19 (.iconst 1) 1) (zQ pc 20 .iadd 1)) (zH pc 22 (zQ pc 21 .iastore 1) (zH pc 23 (zQ pc 22 (.iload_n 2) 1) (zQ pc 23 (.istore_n 3) 1)))))) (zH pc 37 (zH pc 32 (zH pc 28 (zH pc 25 (zQ pc 24 (.iload_n 3) 1) (zQ pc 25 (.ifCond .le 40) 3)) (zH pc 29 (zQ pc 28 (.aload_n 0) 1) (zQ pc 29 (.getfield 28) 3))) (zH pc 34 (zH pc 33 (zQ pc 32 (.iload_n 3) 1) (zQ pc 33 (.iconst 1) 1)) (zH pc 35 (zQ pc 34 .isub 1) (zH pc 36 (zQ pc 35 .iaload 1) (zQ pc 36 (.aload_n 0) 1))))) (zH pc 46 (zH pc 41 (zH pc 40 (zQ pc 37 (.getfield 25) 3) (zQ pc 40 (.iload_n 2) 1)) (zH pc 42 (zQ pc 41 .iaload 1) (zH pc 45 (zQ pc 42 (.if_icmp .le 23) 3) (zQ pc 45 (.aload_n 0) 1)))) (zH pc 50 (zH pc 49 (zQ pc 46 (.getfield 28) 3) (zQ pc 49 (.iload_n 3) 1)) (zH pc 51 (zQ pc 50 (.aload_n 0) 1) (zH pc 54 (zQ pc 51 (.getfield 28) 3) (zQ pc 54 (.iload_n 3) 1))))))) (zH pc 90 (zH pc 70 (zH pc 59 (zH pc 57 (zH pc 56 (zQ pc 55 (.iconst 1) 1) (zQ pc 56 .isub 1)) (zH pc 58 (zQ pc 57 .iaload 1) (zQ pc 58 .iastore 1))) (zH pc 65 (zH pc 62 (zQ pc 59 (.iinc 3 (-1)) 3) (zQ pc 62 (.goto (-38)) 3)) (zH pc 66 (zQ pc 65 (.aload_n 0) 1) (zH pc 69 (zQ pc 66 (.getfield 28) 3) (zQ pc 69 (.iload_n 3) 1))))) (zH pc 77 (zH pc 74 (zH pc 71 (zQ pc 70 (.aload_n 0) 1) (zQ pc 71 (.getfield 25) 3)) (zH pc 75 (zQ pc 74 (.iload_n 2) 1) (zH pc 76 (zQ pc 75 .iaload 1) (zQ pc 76 .iastore 1)))) (zH pc 83 (zH pc 80 (zQ pc 77 (.iinc 2 1) 3) (zQ pc 80 (.goto (-78)) 3)) (zH pc 84 (zQ pc 83 (.aload_n 0) 1) (zH pc 87 (zQ pc 84 (.getfield 59) 3) (zQ pc 87 (.ifCond .eq 11) 3)))))) (zH pc 107 (zH pc 98 (zH pc 92 (zH pc 91 (zQ pc 90 (.aload_n 0) 1) (zQ pc 91 (.iload_n 1) 1)) (zH pc 95 (zQ pc 92 (.invokevirtual 87) 3) (zQ pc 95 (.ifCond .eq 17) 3))) (zH pc 102 (zH pc 99 (zQ pc 98 (.aload_n 0) 1) (zQ pc 99 (.getfield 28) 3)) (zH pc 103 (zQ pc 102 (.iconst 0) 1) (zH pc 104 (zQ pc 103 (.aload_n 0) 1) (zQ pc 104 (.getfield 31) 3))))) (zH pc 114 (zH pc 109 (zH pc 108 (zQ pc 107 (.iconst 0) 1) (zQ pc 108 (.iload_n 1) 1)) (zH pc 112 (zQ pc 109 (.invokestatic 90) 3) (zH pc 113 (zQ pc 112 (.aload_n 0) 1) (zQ pc 113 .dup 1)))) (zH pc 118 (zH pc 117 (zQ pc 114 (.getfield 59) 3) (zQ pc 117 (.iconst 1) 1)) (zH pc 119 (zQ pc 118 .iadd 1) (zH pc 122 (zQ pc 119 (.putfield 59) 3) (zQ pc 122 .return_ 1))))))))
def zc_95 (pc : Nat) : Option (Instr × Nat) := (zH pc 23 (zH pc 11 (zH pc 3 (zH pc 1 (zQ pc 0 (.iconst 0) 1) (zH pc 2 (zQ pc 1 (.istore_n 2) 1) (zQ pc 2 (.iload_n 2) 1))) (zH pc 7 (zH pc 4 (zQ pc 3 (.iload_n 1) 1) (zQ pc 4 (.if_icmp .ge 45) 3)) (zH pc 8 (zQ pc 7 (.aload_n 0) 1) (zQ pc 8 (.getfield 28) 3)))) (zH pc 17 (zH pc 13 (zH pc 12 (zQ pc 11 (.iload_n 2) 1) (zQ pc 12 .iaload 1)) (zH pc 14 (zQ pc 13 (.aload_n 0) 1) (zQ pc 14 (.getfield 31) 3))) (zH pc 19 (zH pc 18 (zQ pc 17 (.iload_n 2) 1) (zQ pc 18 .iaload 1)) (zH pc 22 (zQ pc 19 (.if_icmp .eq 24) 3) (zQ pc 22 (.aload_n 0) 1))))) (zH pc 37 (zH pc 29 (zH pc 27 (zH pc 26 (zQ pc 23 (.getfield 28) 3) (zQ pc 26 (.iload_n 2) 1)) (zH pc 28 (zQ pc 27 .iaload 1) (zQ pc 28 (.aload_n 0) 1))) (zH pc 33 (zH pc 32 (zQ pc 29 (.getfield 31) 3) (zQ pc 32 (.iload_n 2) 1)) (zH pc 34 (zQ pc 33 .iaload 1) (zQ pc 34 (.if_icmp .ge 7) 3)))) (zH pc 43 (zH pc 41 (zH pc 38 (zQ pc 37 (.iconst 1) 1) (zQ pc 38 (.goto 4) 3)) (zH pc 42 (zQ pc 41 (.iconst 0) 1) (zQ pc 42 .ireturn 1))) (zH pc 49 (zH pc 46 (zQ pc 43 (.iinc 2 1) 3) (zQ pc 46 (.goto (-44)) 3)) (zH pc 50 (zQ pc 49 (.iconst 0) 1) (zQ pc 50 .ireturn 1))))))
def zc_96 (pc : Nat) : Option (Instr × Nat) := (zH pc 31 (zH pc 16 (zH pc 8 (zH pc 2 (zH pc 1 (zQ pc 0 (.aload_n 0) 1) (zQ pc 1 (.aload_n 1) 1)) (zH pc 5 (zQ pc 2 (.getfield 15) 3) (zQ pc 5 (.putfield 21) 3))) (zH pc 10 (zH pc 9 (zQ pc 8 (.aload_n 0) 1) (zQ pc 9 (.aload_n 1) 1)) (zH pc 13 (zQ pc 10 (.getfield 24) 3) (zQ pc 13 (.putfield 27) 3)))) (zH pc 23 (zH pc 19 (zH pc 17 (zQ pc 16 (.aload_n 0) 1) (zQ pc 17 (.bipush (-2)) 2)) (zH pc 22 (zQ pc 19 (.putfield 28) 3) (zQ pc 22 (.aload_n 0) 1))) (zH pc 25 (zH pc 24 (zQ pc 23 (.iload_n 3) 1) (zQ pc 24 (.iconst 5) 1)) (zH pc 28 (zQ pc 25 (.invokestatic 31) 3) (zQ pc 28 (.putfield 37) 3))))) (zH pc 47 (zH pc 37 (zH pc 34 (zH pc 32 (zQ pc 31 (.iconst 0) 1) (zQ pc 32 (.istore 4) 2)) (zH pc 36 (zQ pc 34 (.iload 4) 2) (zQ pc 36 (.aload_n 0) 1))) (zH pc 43 (zH pc 40 (zQ pc 37 (.getfield 37) 3) (zQ pc 40 (.if_icmp .ge 23) 3)) (zH pc 44 (zQ pc 43 (.aload_n 0) 1) (zQ pc 44 (.getfield 9) 3)))) (zH pc 53 (zH pc 50 (zH pc 49 (zQ pc 47 (.iload 4) 2) (zQ pc 49 (.iload_n 2) 1)) (zH pc 51 (zQ pc 50 (.iload_n 3) 1) (zQ pc 51 (.iload 4) 2))) (zH pc 57 (zH pc 56 (zQ pc 53 (.invokestatic 40) 3) (zQ pc 56 .iastore 1)) (zH pc 60 (zQ pc 57 (.iinc 4 1) 3) (zH pc 63 (zQ pc 60 (.goto (-26)) 3) (zQ pc 63 .return_ 1)))))))
def zc_97 (pc : Nat) : Option (Instr × Nat) := (zH pc 33 (zH pc 16 (zH pc 8 (zH pc 2 (zH pc 1 (zQ pc 0 (.aload_n 0) 1) (zQ pc 1 (.aload_n 1) 1)) (zH pc 5 (zQ pc 2 (.getfield 15) 3) (zQ pc 5 (.putfield 21) 3))) (zH pc 10 (zH pc 9 (zQ pc 8 (.aload_n 0) 1) (zQ pc 9 (.aload_n 1) 1)) (zH pc 13 (zQ pc 10 (.getfield 24) 3) (zQ pc 13 (.putfield 27) 3)))) (zH pc 22 (zH pc 18 (zH pc 17 (zQ pc 16 (.aload_n 0) 1) (zQ pc 17 (.aload_n 1) 1)) (zH pc 21 (zQ pc 18 (.getfield 44) 3) (zQ pc 21 (.iconst (-1)) 1))) (zH pc 26 (zH pc 25 (zQ pc 22 (.if_icmp .ne 7) 3) (zQ pc 25 (.iconst (-1)) 1)) (zH pc 29 (zQ pc 26 (.goto 7) 3) (zH pc 30 (zQ pc 29 (.aload_n 1) 1) (zQ pc 30 (.getfield 44) 3)))))) (zH pc 49 (zH pc 41 (zH pc 37 (zH pc 36 (zQ pc 33 (.putfield 28) 3) (zQ pc 36 (.aload_n 0) 1)) (zH pc 38 (zQ pc 37 (.aload_n 1) 1) (zQ pc 38 (.getfield 47) 3))) (zH pc 45 (zH pc 42 (zQ pc 41 (.iconst 5) 1) (zQ pc 42 (.invokestatic 31) 3)) (zH pc 48 (zQ pc 45 (.putfield 37) 3) (zQ pc 48 (.aload_n 1) 1)))) (zH pc 57 (zH pc 53 (zH pc 52 (zQ pc 49 (.getfield 50) 3) (zQ pc 52 (.iconst 0) 1)) (zH pc 54 (zQ pc 53 (.aload_n 0) 1) (zQ pc 54 (.getfield 9) 3))) (zH pc 59 (zH pc 58 (zQ pc 57 (.iconst 0) 1) (zQ pc 58 (.aload_n 0) 1)) (zH pc 62 (zQ pc 59 (.getfield 37) 3) (zH pc 65 (zQ pc 62 (.invokestatic 51) 3) (zQ pc 65 .return_ 1)))))))
def zc_98 (pc : Nat) : Option (Instr × Nat) := (zH pc 10 (zH pc 5 (zH pc 1 (zQ pc 0 (.aload_n 0) 1) (zH pc 4 (zQ pc 1 (.getfield 37) 3) (zQ pc 4 (.iload_n 1) 1))) (zH pc 6 (zQ pc 5 .isub 1) (zH pc 7 (zQ pc 6 (.iconst 3) 1) (zQ pc 7 (.if_icmp .lt 14) 3)))) (zH pc 17 (zH pc 11 (zQ pc 10 (.aload_n 0) 1) (zH pc 14 (zQ pc 11 (.getfield 28) 3) (zQ pc 14 (.ifCond .ge 7) 3))) (zH pc 21 (zH pc 18 (zQ pc 17 (.iconst 1) 1) (zQ pc 18 (.goto 4) 3)) (zH pc 22 (zQ pc 21 (.iconst 0) 1) (zQ pc 22 .ireturn 1)))))
def zc_99 (pc : Nat) : Option (Instr × Nat) := (zH pc 38 (zH pc 19 (zH pc 10 (zH pc 5 (zH pc 1 (zQ pc 0 (.aload_n 0) 1) (zH pc 4 (zQ pc 1 (.getfield 37) 3) (zQ pc 4 (.iload_n 3) 1))) (zH pc 6 (zQ pc 5 .isub 1) (zH pc 7 (zQ pc 6 (.iconst 2) 1) (zQ pc 7 (.if_icmp .ge 5) 3)))) (zH pc 13 (zH pc 11 (zQ pc 10 (.iconst 0) 1) (zH pc 12 (zQ pc 11 .ireturn 1) (zQ pc 12 (.aload_n 1) 1))) (zH pc 15 (zH pc 14 (zQ pc 13 (.iload_n 2) 1) (zQ pc 14 (.aload_n 0) 1)) (zH pc 18 (zQ pc 15 (.getfield 9) 3) (zQ pc 18 (.iload_n 3) 1))))) (zH pc 28 (zH pc 23 (zH pc 20 (zQ pc 19 .iaload 1) (zH pc 22 (zQ pc 20 (.bipush 10) 2) (zQ pc 22 .imul 1))) (zH pc 24 (zQ pc 23 (.aload_n 0) 1) (zH pc 27 (zQ pc 24 (.getfield 9) 3) (zQ pc 27 (.iload_n 3) 1)))) (zH pc 31 (zH pc 29 (zQ pc 28 (.iconst 1) 1) (zH pc 30 (zQ pc 29 .iadd 1) (zQ pc 30 .iaload 1))) (zH pc 35 (zH pc 32 (zQ pc 31 .iadd 1) (zQ pc 32 (.invokevirtual 57) 3)) (zH pc 37 (zQ pc 35 (.istore 4) 2) (zQ pc 37 (.aload_n 0) 1)))))) (zH pc 68 (zH pc 52 (zH pc 46 (zH pc 41 (zQ pc 38 (.getfield 28) 3) (zH pc 43 (zQ pc 41 (.bipush (-2)) 2) (zQ pc 43 (.if_icmp .ne 29) 3))) (zH pc 48 (zQ pc 46 (.iload 4) 2) (zH pc 49 (zQ pc 48 (.aload_n 0) 1) (zQ pc 49 (.getfield 21) 3)))) (zH pc 58 (zH pc 55 (zQ pc 52 (.if_icmp .eq 16) 3) (zH pc 56 (zQ pc 55 (.aload_n 1) 1) (zQ pc 56 (.iload 4) 2))) (zH pc 64 (zH pc 61 (zQ pc 58 (.invokevirtual 62) 3) (zQ pc 61 (.ifCond .eq 7) 3)) (zH pc 65 (zQ pc 64 (.iconst 1) 1) (zQ pc 65 (.goto 27) 3))))) (zH pc 80 (zH pc 74 (zH pc 69 (zQ pc 68 (.iconst 0) 1) (zH pc 72 (zQ pc 69 (.goto 23) 3) (zQ pc 72 (.iload 4) 2))) (zH pc 75 (zQ pc 74 (.iconst (-1)) 1) (zH pc 78 (zQ pc 75 (.if_icmp .eq 16) 3) (zQ pc 78 (.iload 4) 2)))) (zH pc 87 (zH pc 81 (zQ pc 80 (.aload_n 0) 1) (zH pc 84 (zQ pc 81 (.getfield 28) 3) (zQ pc 84 (.if_icmp .ne 7) 3))) (zH pc 91 (zH pc 88 (zQ pc 87 (.iconst 1) 1) (zQ pc 88 (.goto 4) 3)) (zH pc 92 (zQ pc 91 (.iconst 0) 1) (zQ pc 92 .ireturn 1)))))))
def zc_100 (pc : Nat) : Option (Instr × Nat) := (zH pc 21 (zH pc 10 (zH pc 4 (zH pc 1 (zQ pc 0 (.iload_n 1) 1) (zQ pc 1 (.ifCond .lt 20) 3)) (zH pc 5 (zQ pc 4 (.iload_n 1) 1) (zH pc 7 (zQ pc 5 (.ldc 78) 2) (zQ pc 7 (.if_icmp .gt 14) 3)))) (zH pc 14 (zH pc 11 (zQ pc 10 (.iload_n 1) 1) (zH pc 13 (zQ pc 11 (.ldc 79) 2) (zQ pc 13 (.aload_n 0) 1))) (zH pc 17 (zQ pc 14 (.getfield 74) 3) (zH pc 18 (zQ pc 17 .isub 1) (zQ pc 18 (.if_icmp .le 5) 3))))) (zH pc 28 (zH pc 23 (zH pc 22 (zQ pc 21 (.iconst (-1)) 1) (zQ pc 22 .ireturn 1)) (zH pc 24 (zQ pc 23 (.aload_n 0) 1) (zH pc 25 (zQ pc 24 .dup 1) (zQ pc 25 (.getfield 74) 3)))) (zH pc 33 (zH pc 29 (zQ pc 28 (.iload_n 1) 1) (zH pc 30 (zQ pc 29 .iadd 1) (zQ pc 30 (.putfield 74) 3))) (zH pc 34 (zQ pc 33 (.aload_n 0) 1) (zH pc 37 (zQ pc 34 (.getfield 74) 3) (zQ pc 37 .ireturn 1))))))
def zc_101 (pc : Nat) : Option (Instr × Nat) := (zH pc 5 (zH pc 1 (zQ pc 0 (.aload_n 0) 1) (zH pc 4 (zQ pc 1 (.getfield 12) 3) (zQ pc 4 (.iload_n 1) 1))) (zH pc 7 (zH pc 6 (zQ pc 5 (.iload_n 2) 1) (zQ pc 6 (.iload_n 3) 1)) (zH pc 10 (zQ pc 7 (.invokevirtual 80) 3) (zQ pc 10 .ireturn 1))))
def zc_102 (pc : Nat) : Option (Instr × Nat) := (zH pc 6 (zH pc 4 (zH pc 1 (zQ pc 0 (.aload_n 0) 1) (zQ pc 1 (.getfield 12) 3)) (zH pc 5 (zQ pc 4 (.iload_n 1) 1) (zQ pc 5 (.iload_n 2) 1))) (zH pc 9 (zH pc 7 (zQ pc 6 (.iload_n 3) 1) (zQ pc 7 (.iload 4) 2)) (zH pc 11 (zQ pc 9 (.iload 5) 2) (zH pc 14 (zQ pc 11 (.invokevirtual 84) 3) (zQ pc 14 .ireturn 1)))))
def zc_103 (pc : Nat) : Option (Instr × Nat) := (zH pc 5 (zH pc 1 (zQ pc 0 (.aload_n 0) 1) (zH pc 4 (zQ pc 1 (.getfield 12) 3) (zQ pc 4 (.iload_n 1) 1))) (zH pc 6 (zQ pc 5 (.iload_n 2) 1) (zH pc 9 (zQ pc 6 (.invokevirtual 88) 3) (zQ pc 9 .ireturn 1))))
def zc_104 (pc : Nat) : Option (Instr × Nat) := (zH pc 5 (zH pc 1 (zQ pc 0 (.aload_n 0) 1) (zH pc 4 (zQ pc 1 (.getfield 21) 3) (zQ pc 4 (.iload_n 1) 1))) (zH pc 7 (zH pc 6 (zQ pc 5 (.iload_n 2) 1) (zQ pc 6 (.iload_n 3) 1)) (zH pc 10 (zQ pc 7 (.invokevirtual 92) 3) (zQ pc 10 .ireturn 1))))
def zc_105 (pc : Nat) : Option (Instr × Nat) := (zH pc 13 (zH pc 5 (zH pc 1 (zQ pc 0 (.aload_n 0) 1) (zH pc 4 (zQ pc 1 (.getfield 12) 3) (zQ pc 4 (.iload_n 1) 1))) (zH pc 11 (zH pc 8 (zQ pc 5 (.invokevirtual 95) 3) (zQ pc 8 (.ifCond .ne 5) 3)) (zH pc 12 (zQ pc 11 (.iconst 0) 1) (zQ pc 12 .ireturn 1)))) (zH pc 21 (zH pc 17 (zH pc 14 (zQ pc 13 (.aload_n 0) 1) (zQ pc 14 (.getfield 12) 3)) (zH pc 20 (zQ pc 17 (.getfield 99) 3) (zQ pc 20 (.iload_n 1) 1))) (zH pc 23 (zH pc 22 (zQ pc 21 (.iload_n 2) 1) (zQ pc 22 .bastore 1)) (zH pc 24 (zQ pc 23 (.iconst 1) 1) (zQ pc 24 .ireturn 1)))))
def zc_106 (pc : Nat) : Option (Instr × Nat) := (zH pc 13 (zH pc 5 (zH pc 1 (zQ pc 0 (.aload_n 0) 1) (zH pc 4 (zQ pc 1 (.getfield 12) 3) (zQ pc 4 (.iload_n 1) 1))) (zH pc 11 (zH pc 8 (zQ pc 5 (.invokevirtual 95) 3) (zQ pc 8 (.ifCond .ne 5) 3)) (zH pc 12 (zQ pc 11 (.iconst 0) 1) (zQ pc 12 .ireturn 1)))) (zH pc 21 (zH pc 17 (zH pc 14 (zQ pc 13 (.aload_n 0) 1) (zQ pc 14 (.getfield 12) 3)) (zH pc 20 (zQ pc 17 (.getfield 103) 3) (zQ pc 20 (.iload_n 1) 1))) (zH pc 23 (zH pc 22 (zQ pc 21 (.iload_n 2) 1) (zQ pc 22 .bastore 1)) (zH pc 24 (zQ pc 23 (.iconst 1) 1) (zQ pc 24 .ireturn 1)))))
def zc_107 (pc : Nat) : Option (Instr × Nat) := (zH pc 16 (zH pc 8 (zH pc 4 (zH pc 1 (zQ pc 0 (.aload_n 0) 1) (zQ pc 1 (.getfield 21) 3)) (zH pc 5 (zQ pc 4 (.iload_n 1) 1) (zQ pc 5 (.invokevirtual 106) 3))) (zH pc 12 (zH pc 11 (zQ pc 8 (.ifCond .eq 22) 3) (zQ pc 11 (.aload_n 0) 1)) (zH pc 15 (zQ pc 12 (.getfield 21) 3) (zQ pc 15 (.aload_n 0) 1)))) (zH pc 24 (zH pc 22 (zH pc 19 (zQ pc 16 (.getfield 21) 3) (zQ pc 19 (.getfield 109) 3)) (zH pc 23 (zQ pc 22 (.iload_n 1) 1) (zQ pc 23 .aaload 1))) (zH pc 30 (zH pc 27 (zQ pc 24 (.invokevirtual 113) 3) (zQ pc 27 (.goto 4) 3)) (zH pc 31 (zQ pc 30 (.iconst (-1)) 1) (zQ pc 31 .ireturn 1)))))
def zc_108 (pc : Nat) : Option (Instr × Nat) := (zH pc 22 (zH pc 11 (zH pc 4 (zH pc 1 (zQ pc 0 (.aload_n 0) 1) (zQ pc 1 (.getfield 21) 3)) (zH pc 5 (zQ pc 4 (.iload_n 1) 1) (zH pc 8 (zQ pc 5 (.invokevirtual 117) 3) (zQ pc 8 (.ifCond .eq 13) 3)))) (zH pc 16 (zH pc 12 (zQ pc 11 (.iload_n 2) 1) (zH pc 15 (zQ pc 12 (.ifCond .lt 9) 3) (zQ pc 15 (.iload_n 2) 1))) (zH pc 18 (zQ pc 16 (.bipush 10) 2) (zH pc 21 (zQ pc 18 (.if_icmp .lt 5) 3) (zQ pc 21 (.iconst (-1)) 1))))) (zH pc 31 (zH pc 24 (zH pc 23 (zQ pc 22 .ireturn 1) (zQ pc 23 (.aload_n 0) 1)) (zH pc 27 (zQ pc 24 (.getfield 21) 3) (zH pc 28 (zQ pc 27 (.aload_n 0) 1) (zQ pc 28 (.getfield 21) 3)))) (zH pc 36 (zH pc 34 (zQ pc 31 (.getfield 109) 3) (zH pc 35 (zQ pc 34 (.iload_n 1) 1) (zQ pc 35 .aaload 1))) (zH pc 37 (zQ pc 36 (.iload_n 2) 1) (zH pc 40 (zQ pc 37 (.invokevirtual 120) 3) (zQ pc 40 .ireturn 1))))))
def zc_109 (pc : Nat) : Option (Instr × Nat) := (zH pc 30 (zH pc 18 (zH pc 8 (zH pc 4 (zH pc 1 (zQ pc 0 (.aload_n 0) 1) (zQ pc 1 (.getfield 21) 3)) (zH pc 5 (zQ pc 4 (.iload_n 1) 1) (zQ pc 5 (.invokevirtual 117) 3))) (zH pc 12 (zH pc 11 (zQ pc 8 (.ifCond .eq 19) 3) (zQ pc 11 (.aload_n 0) 1)) (zH pc 15 (zQ pc 12 (.getfield 21) 3) (zQ pc 15 (.getfield 109) 3)))) (zH pc 24 (zH pc 20 (zH pc 19 (zQ pc 18 (.iload_n 1) 1) (zQ pc 19 .aaload 1)) (zH pc 23 (zQ pc 20 (.getfield 124) 3) (zQ pc 23 (.iconst 5) 1))) (zH pc 28 (zH pc 27 (zQ pc 24 (.if_icmp .eq 5) 3) (zQ pc 27 (.iconst 0) 1)) (zH pc 29 (zQ pc 28 .ireturn 1) (zQ pc 29 (.aload_n 0) 1))))) (zH pc 47 (zH pc 38 (zH pc 36 (zH pc 33 (zQ pc 30 (.getfield 21) 3) (zQ pc 33 (.getfield 109) 3)) (zH pc 37 (zQ pc 36 (.iload_n 1) 1) (zQ pc 37 .aaload 1))) (zH pc 43 (zH pc 40 (zQ pc 38 (.bipush 6) 2) (zQ pc 40 (.putfield 124) 3)) (zH pc 44 (zQ pc 43 (.aload_n 0) 1) (zQ pc 44 (.getfield 21) 3)))) (zH pc 53 (zH pc 51 (zH pc 50 (zQ pc 47 (.getfield 109) 3) (zQ pc 50 (.iload_n 1) 1)) (zH pc 52 (zQ pc 51 .aaload 1) (zQ pc 52 (.aload_n 0) 1))) (zH pc 59 (zH pc 56 (zQ pc 53 (.getfield 74) 3) (zQ pc 56 (.putfield 129) 3)) (zH pc 60 (zQ pc 59 (.iconst 1) 1) (zQ pc 60 .ireturn 1))))))
def zc_110 (pc : Nat) : Option (Instr × Nat) := (zH pc 46 (zH pc 22 (zH pc 12 (zH pc 5 (zH pc 1 (zQ pc 0 (.aload_n 0) 1) (zH pc 4 (zQ pc 1 (.getfield 21) 3) (zQ pc 4 (.iload_n 1) 1))) (zH pc 8 (zQ pc 5 (.invokevirtual 117) 3) (zH pc 11 (zQ pc 8 (.ifCond .ne 5) 3) (zQ pc 11 (.iconst (-1)) 1)))) (zH pc 17 (zH pc 13 (zQ pc 12 .ireturn 1) (zH pc 14 (zQ pc 13 (.aload_n 0) 1) (zQ pc 14 (.getfield 21) 3))) (zH pc 20 (zQ pc 17 (.getfield 109) 3) (zH pc 21 (zQ pc 20 (.iload_n 1) 1) (zQ pc 21 .aaload 1))))) (zH pc 31 (zH pc 25 (zH pc 23 (zQ pc 22 (.astore_n 2) 1) (zH pc 24 (zQ pc 23 (.iconst 0) 1) (zQ pc 24 (.istore_n 3) 1))) (zH pc 26 (zQ pc 25 (.aload_n 2) 1) (zH pc 29 (zQ pc 26 (.getfield 124) 3) (zQ pc 29 (.bipush 6) 2)))) (zH pc 38 (zH pc 34 (zQ pc 31 (.if_icmp .ne 51) 3) (zH pc 35 (zQ pc 34 (.aload_n 0) 1) (zQ pc 35 (.getfield 67) 3))) (zH pc 42 (zH pc 39 (zQ pc 38 (.aload_n 2) 1) (zQ pc 39 (.getfield 129) 3)) (zH pc 43 (zQ pc 42 (.aload_n 0) 1) (zQ pc 43 (.getfield 74) 3)))))) (zH pc 68 (zH pc 58 (zH pc 51 (zH pc 47 (zQ pc 46 (.aload_n 0) 1) (zH pc 50 (zQ pc 47 (.getfield 12) 3) (zQ pc 50 (.aload_n 2) 1))) (zH pc 54 (zQ pc 51 (.invokevirtual 132) 3) (zH pc 57 (zQ pc 54 (.invokevirtual 136) 3) (zQ pc 57 (.iload_n 1) 1)))) (zH pc 63 (zH pc 61 (zQ pc 58 (.invokevirtual 140) 3) (zH pc 62 (zQ pc 61 (.istore_n 3) 1) (zQ pc 62 (.aload_n 0) 1))) (zH pc 66 (zQ pc 63 (.getfield 51) 3) (zH pc 67 (zQ pc 66 (.iload_n 1) 1) (zQ pc 67 (.iload_n 3) 1))))) (zH pc 79 (zH pc 74 (zH pc 69 (zQ pc 68 (.aload_n 2) 1) (zH pc 72 (zQ pc 69 (.getfield 129) 3) (zQ pc 72 (.ldc 144) 2))) (zH pc 75 (zQ pc 74 .idiv 1) (zH pc 76 (zQ pc 75 (.aload_n 0) 1) (zQ pc 76 (.invokevirtual 145) 3)))) (zH pc 86 (zH pc 82 (zQ pc 79 (.invokevirtual 148) 3) (zH pc 83 (zQ pc 82 (.aload_n 0) 1) (zQ pc 83 (.getfield 21) 3))) (zH pc 90 (zH pc 87 (zQ pc 86 (.aload_n 2) 1) (zQ pc 87 (.invokevirtual 152) 3)) (zH pc 91 (zQ pc 90 (.iload_n 3) 1) (zQ pc 91 .ireturn 1)))))))
def zc_111 (pc : Nat) : Option (Instr × Nat) := (zH pc 16 (zH pc 8 (zH pc 4 (zH pc 1 (zQ pc 0 (.aload_n 0) 1) (zQ pc 1 (.getfield 58) 3)) (zH pc 5 (zQ pc 4 (.lload_n 1) 1) (zQ pc 5 (.invokevirtual 156) 3))) (zH pc 12 (zH pc 9 (zQ pc 8 (.aload_n 0) 1) (zQ pc 9 (.getfield 58) 3)) (zH pc 13 (zQ pc 12 (.lload_n 3) 1) (zQ pc 13 (.invokevirtual 156) 3)))) (zH pc 25 (zH pc 20 (zH pc 17 (zQ pc 16 (.aload_n 0) 1) (zQ pc 17 (.getfield 58) 3)) (zH pc 22 (zQ pc 20 (.lload 5) 2) (zQ pc 22 (.invokevirtual 156) 3))) (zH pc 29 (zH pc 26 (zQ pc 25 (.aload_n 0) 1) (zQ pc 26 (.getfield 58) 3)) (zH pc 32 (zQ pc 29 (.getfield 160) 3) (zQ pc 32 .ireturn 1)))))
def zc_112 (pc : Nat) : Option (Instr × Nat) := (zH pc 21 (zH pc 9 (zH pc 4 (zH pc 1 (zQ pc 0 (.aload_n 0) 1) (zQ pc 1 (.getfield 71) 3)) (zH pc 7 (zQ pc 4 (.invokevirtual 163) 3) (zH pc 8 (zQ pc 7 (.istore_n 1) 1) (zQ pc 8 (.aload_n 0) 1)))) (zH pc 16 (zH pc 12 (zQ pc 9 (.getfield 58) 3) (zH pc 13 (zQ pc 12 (.iconst 0) 1) (zQ pc 13 (.putfield 160) 3))) (zH pc 17 (zQ pc 16 (.iload_n 1) 1) (zH pc 20 (zQ pc 17 (.ifCond .ne 21) 3) (zQ pc 20 (.aload_n 0) 1))))) (zH pc 30 (zH pc 25 (zH pc 24 (zQ pc 21 (.getfield 71) 3) (zQ pc 24 (.astore_n 2) 1)) (zH pc 26 (zQ pc 25 (.aload_n 0) 1) (zH pc 27 (zQ pc 26 (.aload_n 0) 1) (zQ pc 27 (.getfield 67) 3)))) (zH pc 35 (zH pc 33 (zQ pc 30 (.putfield 71) 3) (zH pc 34 (zQ pc 33 (.aload_n 0) 1) (zQ pc 34 (.aload_n 2) 1))) (zH pc 38 (zQ pc 35 (.putfield 67) 3) (zH pc 39 (zQ pc 38 (.iload_n 1) 1) (zQ pc 39 .ireturn 1))))))
def zc_113 (pc : Nat) : Option (Instr × Nat) := (zH pc 6 (zH pc 4 (zH pc 1 (zQ pc 0 (.aload_n 0) 1) (zQ pc 1 (.getfield 51) 3)) (zH pc 5 (zQ pc 4 (.iload_n 1) 1) (zQ pc 5 (.iload_n 2) 1))) (zH pc 10 (zH pc 7 (zQ pc 6 (.aload_n 0) 1) (zQ pc 7 (.invokevirtual 145) 3)) (zH pc 13 (zQ pc 10 (.invokevirtual 166) 3) (zQ pc 13 .ireturn 1))))
def zc_114 (pc : Nat) : Option (Instr × Nat) := (zH pc 34 (zH pc 15 (zH pc 6 (zH pc 4 (zH pc 1 (zQ pc 0 (.iload_n 2) 1) (zQ pc 1 (.ifCond .lt 32) 3)) (zH pc 5 (zQ pc 4 (.iload_n 2) 1) (zQ pc 5 (.iload_n 3) 1))) (zH pc 10 (zH pc 9 (zQ pc 6 (.if_icmp .gt 27) 3) (zQ pc 9 (.iload_n 3) 1)) (zH pc 12 (zQ pc 10 (.bipush 11) 2) (zQ pc 12 (.if_icmp .gt 21) 3)))) (zH pc 23 (zH pc 20 (zH pc 17 (zQ pc 15 (.iload 4) 2) (zQ pc 17 (.ifCond .lt 16) 3)) (zH pc 22 (zQ pc 20 (.iload 4) 2) (zQ pc 22 (.aload_n 0) 1))) (zH pc 29 (zH pc 26 (zQ pc 23 (.invokevirtual 145) 3) (zQ pc 26 (.if_icmp .gt 7) 3)) (zH pc 30 (zQ pc 29 (.iconst 1) 1) (zH pc 33 (zQ pc 30 (.goto 4) 3) (zQ pc 33 (.iconst 0) 1)))))) (zH pc 53 (zH pc 42 (zH pc 38 (zH pc 36 (zQ pc 34 (.istore 5) 2) (zQ pc 36 (.iload 5) 2)) (zH pc 41 (zQ pc 38 (.ifCond .eq 29) 3) (zQ pc 41 (.aload_n 0) 1))) (zH pc 46 (zH pc 45 (zQ pc 42 (.getfield 21) 3) (zQ pc 45 (.iload_n 1) 1)) (zH pc 49 (zQ pc 46 (.invokevirtual 170) 3) (zH pc 52 (zQ pc 49 (.ifCond .eq 18) 3) (zQ pc 52 (.aload_n 0) 1))))) (zH pc 59 (zH pc 57 (zH pc 56 (zQ pc 53 (.getfield 51) 3) (zQ pc 56 (.iload_n 1) 1)) (zH pc 58 (zQ pc 57 (.iload_n 2) 1) (zQ pc 58 (.iload_n 3) 1))) (zH pc 64 (zH pc 61 (zQ pc 59 (.iload 4) 2) (zQ pc 61 (.invokevirtual 173) 3)) (zH pc 67 (zQ pc 64 (.goto 4) 3) (zH pc 68 (zQ pc 67 (.iconst (-1)) 1) (zQ pc 68 .ireturn 1)))))))
def zc_115 (pc : Nat) : Option (Instr × Nat) := (zH pc 24 (zH pc 11 (zH pc 3 (zH pc 1 (zQ pc 0 (.aload_n 0) 1) (zH pc 2 (zQ pc 1 (.iload_n 1) 1) (zQ pc 2 (.iload_n 2) 1))) (zH pc 7 (zH pc 4 (zQ pc 3 (.iload_n 3) 1) (zQ pc 4 (.invokevirtual 176) 3)) (zH pc 10 (zQ pc 7 (.ifCond .ne 5) 3) (zQ pc 10 (.iconst (-1)) 1)))) (zH pc 16 (zH pc 12 (zQ pc 11 .ireturn 1) (zH pc 13 (zQ pc 12 (.aload_n 0) 1) (zQ pc 13 (.getfield 21) 3))) (zH pc 20 (zH pc 17 (zQ pc 16 (.aload_n 0) 1) (zQ pc 17 (.getfield 21) 3)) (zH pc 23 (zQ pc 20 (.getfield 109) 3) (zQ pc 23 (.iload_n 1) 1))))) (zH pc 36 (zH pc 27 (zH pc 25 (zQ pc 24 .aaload 1) (zH pc 26 (zQ pc 25 (.iload_n 2) 1) (zQ pc 26 (.iload_n 3) 1))) (zH pc 32 (zH pc 30 (zQ pc 27 (.invokevirtual 179) 3) (zQ pc 30 (.istore 4) 2)) (zH pc 33 (zQ pc 32 (.aload_n 0) 1) (zQ pc 33 (.getfield 21) 3)))) (zH pc 44 (zH pc 40 (zH pc 37 (zQ pc 36 (.aload_n 0) 1) (zQ pc 37 (.getfield 21) 3)) (zH pc 43 (zQ pc 40 (.getfield 109) 3) (zQ pc 43 (.iload_n 1) 1))) (zH pc 48 (zH pc 45 (zQ pc 44 .aaload 1) (zQ pc 45 (.invokevirtual 152) 3)) (zH pc 50 (zQ pc 48 (.iload 4) 2) (zQ pc 50 .ireturn 1))))))
def zc_116 (pc : Nat) : Option (Instr × Nat) := (zH pc 52 (zH pc 26 (zH pc 10 (zH pc 6 (zH pc 1 (zQ pc 0 (.iload_n 1) 1) (zH pc 3 (zQ pc 1 (.iload 4) 2) (zQ pc 3 (.if_icmp .eq 26) 3))) (zH pc 8 (zH pc 7 (zQ pc 6 (.aload_n 0) 1) (zQ pc 7 (.iload_n 1) 1)) (zH pc 9 (zQ pc 8 (.iload_n 2) 1) (zQ pc 9 (.iload_n 3) 1)))) (zH pc 17 (zH pc 13 (zQ pc 10 (.invokevirtual 176) 3) (zH pc 16 (zQ pc 13 (.ifCond .eq 16) 3) (zQ pc 16 (.aload_n 0) 1))) (zH pc 21 (zH pc 19 (zQ pc 17 (.iload 4) 2) (zQ pc 19 (.iload 5) 2)) (zH pc 23 (zQ pc 21 (.iload 6) 2) (zQ pc 23 (.invokevirtual 176) 3))))) (zH pc 35 (zH pc 31 (zH pc 29 (zQ pc 26 (.ifCond .ne 5) 3) (zH pc 30 (zQ pc 29 (.iconst (-1)) 1) (zQ pc 30 .ireturn 1))) (zH pc 33 (zH pc 32 (zQ pc 31 (.aload_n 0) 1) (zQ pc 32 (.iload_n 1) 1)) (zH pc 34 (zQ pc 33 (.iload_n 2) 1) (zQ pc 34 (.iload_n 3) 1)))) (zH pc 43 (zH pc 39 (zH pc 38 (zQ pc 35 (.invokevirtual 183) 3) (zQ pc 38 (.iconst 5) 1)) (zH pc 42 (zQ pc 39 (.if_icmp .ne 17) 3) (zQ pc 42 (.aload_n 0) 1))) (zH pc 47 (zH pc 45 (zQ pc 43 (.iload 4) 2) (zQ pc 45 (.iload 5) 2)) (zH pc 49 (zQ pc 47 (.iload 6) 2) (zQ pc 49 (.invokevirtual 183) 3)))))) (zH pc 78 (zH pc 61 (zH pc 57 (zH pc 53 (zQ pc 52 (.iconst 5) 1) (zH pc 56 (zQ pc 53 (.if_icmp .eq 5) 3) (zQ pc 56 (.iconst (-1)) 1))) (zH pc 59 (zH pc 58 (zQ pc 57 .ireturn 1) (zQ pc 58 (.aload_n 0) 1)) (zH pc 60 (zQ pc 59 (.iload_n 1) 1) (zQ pc 60 (.iload_n 2) 1)))) (zH pc 68 (zH pc 64 (zH pc 62 (zQ pc 61 (.iload_n 3) 1) (zQ pc 62 (.iload 4) 2)) (zH pc 66 (zQ pc 64 (.iload 5) 2) (zQ pc 66 (.iload 6) 2))) (zH pc 74 (zH pc 71 (zQ pc 68 (.invokevirtual 186) 3) (zQ pc 71 (.ifCond .eq 7) 3)) (zH pc 75 (zQ pc 74 (.iconst 1) 1) (zQ pc 75 (.goto 4) 3))))) (zH pc 88 (zH pc 82 (zH pc 79 (zQ pc 78 (.iconst 0) 1) (zH pc 80 (zQ pc 79 (.aload_n 0) 1) (zQ pc 80 (.iload 4) 2))) (zH pc 86 (zH pc 84 (zQ pc 82 (.iload 5) 2) (zQ pc 84 (.iload 6) 2)) (zH pc 87 (zQ pc 86 (.iload_n 1) 1) (zQ pc 87 (.iload_n 2) 1)))) (zH pc 96 (zH pc 92 (zH pc 89 (zQ pc 88 (.iload_n 3) 1) (zQ pc 89 (.invokevirtual 186) 3)) (zH pc 95 (zQ pc 92 (.ifCond .eq 7) 3) (zQ pc 95 (.iconst 2) 1))) (zH pc 100 (zH pc 99 (zQ pc 96 (.goto 4) 3) (zQ pc 99 (.iconst 0) 1)) (zH pc 101 (zQ pc 100 .iadd 1) (zQ pc 101 .ireturn 1)))))))
def zc_117 (pc : Nat) : Option (Instr × Nat) := (zH pc 24 (zH pc 12 (zH pc 3 (zH pc 1 (zQ pc 0 (.aload_n 0) 1) (zH pc 2 (zQ pc 1 (.iload_n 1) 1) (zQ pc 2 (.iload_n 2) 1))) (zH pc 7 (zH pc 4 (zQ pc 3 (.iload_n 3) 1) (zQ pc 4 (.invokevirtual 176) 3)) (zH pc 10 (zQ pc 7 (.ifCond .eq 14) 3) (zQ pc 10 (.iload 4) 2)))) (zH pc 18 (zH pc 15 (zQ pc 12 (.ifCond .lt 9) 3) (zH pc 17 (zQ pc 15 (.iload 4) 2) (zQ pc 17 (.iconst 1) 1))) (zH pc 22 (zH pc 21 (zQ pc 18 (.if_icmp .le 5) 3) (zQ pc 21 (.iconst (-1)) 1)) (zH pc 23 (zQ pc 22 .ireturn 1) (zQ pc 23 (.aload_n 0) 1))))) (zH pc 37 (zH pc 29 (zH pc 27 (zQ pc 24 (.getfield 30) 3) (zH pc 28 (zQ pc 27 (.iload_n 1) 1) (zQ pc 28 (.iload_n 2) 1))) (zH pc 33 (zH pc 30 (zQ pc 29 (.iload_n 3) 1) (zQ pc 30 (.invokevirtual 190) 3)) (zH pc 35 (zQ pc 33 (.istore 5) 2) (zQ pc 35 (.iload 4) 2)))) (zH pc 45 (zH pc 40 (zQ pc 37 (.ifCond .ne 8) 3) (zH pc 42 (zQ pc 40 (.iload 5) 2) (zQ pc 42 (.goto 10) 3))) (zH pc 49 (zH pc 46 (zQ pc 45 (.aload_n 0) 1) (zQ pc 46 (.getfield 30) 3)) (zH pc 52 (zQ pc 49 (.getfield 193) 3) (zQ pc 52 .ireturn 1))))))
def zc_118 (pc : Nat) : Option (Instr × Nat) := (zH pc 13 (zH pc 5 (zH pc 1 (zQ pc 0 (.aload_n 0) 1) (zH pc 4 (zQ pc 1 (.getfield 37) 3) (zQ pc 4 (.iload_n 1) 1))) (zH pc 7 (zH pc 6 (zQ pc 5 (.iload_n 2) 1) (zQ pc 6 (.iload_n 3) 1)) (zH pc 10 (zQ pc 7 (.invokevirtual 196) 3) (zQ pc 10 (.ifCond .eq 15) 3)))) (zH pc 19 (zH pc 17 (zH pc 14 (zQ pc 13 (.aload_n 0) 1) (zQ pc 14 (.getfield 37) 3)) (zH pc 18 (zQ pc 17 (.iload_n 3) 1) (zQ pc 18 (.iconst 0) 1))) (zH pc 25 (zH pc 22 (zQ pc 19 (.invokevirtual 199) 3) (zQ pc 22 (.goto 4) 3)) (zH pc 26 (zQ pc 25 (.iconst (-1)) 1) (zQ pc 26 .ireturn 1)))))
def zc_119 (pc : Nat) : Option (Instr × Nat) := (zH pc 21 (zH pc 13 (zH pc 5 (zH pc 2 (zQ pc 0 (.iload 4) 2) (zQ pc 2 (.ifCond .lt 11) 3)) (zH pc 7 (zQ pc 5 (.iload 4) 2) (zH pc 10 (zQ pc 7 (.sipush 1000) 3) (zQ pc 10 (.if_icmp .le 5) 3)))) (zH pc 16 (zH pc 14 (zQ pc 13 (.iconst (-1)) 1) (zH pc 15 (zQ pc 14 .ireturn 1) (zQ pc 15 (.aload_n 0) 1))) (zH pc 19 (zQ pc 16 (.getfield 37) 3) (zH pc 20 (zQ pc 19 (.iload_n 1) 1) (zQ pc 20 (.iload_n 2) 1))))) (zH pc 32 (zH pc 25 (zH pc 22 (zQ pc 21 (.iload_n 3) 1) (zQ pc 22 (.invokevirtual 196) 3)) (zH pc 28 (zQ pc 25 (.ifCond .eq 16) 3) (zH pc 29 (zQ pc 28 (.aload_n 0) 1) (zQ pc 29 (.getfield 37) 3)))) (zH pc 38 (zH pc 33 (zQ pc 32 (.iload_n 3) 1) (zH pc 35 (zQ pc 33 (.iload 4) 2) (zQ pc 35 (.invokevirtual 203) 3))) (zH pc 41 (zQ pc 38 (.goto 4) 3) (zH pc 42 (zQ pc 41 (.iconst (-1)) 1) (zQ pc 42 .ireturn 1))))))
def zc_120 (pc : Nat) : Option (Instr × Nat) := (zH pc 36 (zH pc 16 (zH pc 7 (zH pc 2 (zH pc 1 (zQ pc 0 (.aload_n 0) 1) (zQ pc 1 (.iload_n 1) 1)) (zH pc 3 (zQ pc 2 (.iload_n 2) 1) (zH pc 4 (zQ pc 3 (.iload_n 3) 1) (zQ pc 4 (.invokevirtual 176) 3)))) (zH pc 11 (zH pc 10 (zQ pc 7 (.ifCond .ne 5) 3) (zQ pc 10 (.iconst (-1)) 1)) (zH pc 12 (zQ pc 11 .ireturn 1) (zH pc 13 (zQ pc 12 (.aload_n 0) 1) (zQ pc 13 (.getfield 21) 3))))) (zH pc 24 (zH pc 20 (zH pc 19 (zQ pc 16 (.getfield 109) 3) (zQ pc 19 (.iload_n 1) 1)) (zH pc 21 (zQ pc 20 .aaload 1) (zH pc 23 (zQ pc 21 (.astore 4) 2) (zQ pc 23 (.aload_n 0) 1)))) (zH pc 30 (zH pc 27 (zQ pc 24 (.getfield 21) 3) (zH pc 29 (zQ pc 27 (.aload 4) 2) (zQ pc 29 (.iload_n 2) 1))) (zH pc 31 (zQ pc 30 (.iload_n 3) 1) (zH pc 34 (zQ pc 31 (.invokevirtual 179) 3) (zQ pc 34 (.istore 5) 2)))))) (zH pc 57 (zH pc 45 (zH pc 39 (zH pc 38 (zQ pc 36 (.iload 5) 2) (zQ pc 38 (.iconst 2) 1)) (zH pc 42 (zQ pc 39 (.if_icmp .eq 9) 3) (zH pc 44 (zQ pc 42 (.iload 5) 2) (zQ pc 44 (.iconst 5) 1)))) (zH pc 52 (zH pc 48 (zQ pc 45 (.if_icmp .ne 23) 3) (zH pc 49 (zQ pc 48 (.aload_n 0) 1) (zQ pc 49 (.getfield 44) 3))) (zH pc 54 (zQ pc 52 (.aload 4) 2) (zH pc 56 (zQ pc 54 (.iload 5) 2) (zQ pc 56 (.iconst 2) 1))))) (zH pc 68 (zH pc 61 (zH pc 60 (zQ pc 57 (.if_icmp .ne 7) 3) (zQ pc 60 (.iconst 1) 1)) (zH pc 64 (zQ pc 61 (.goto 4) 3) (zH pc 65 (zQ pc 64 (.iconst 0) 1) (zQ pc 65 (.invokevirtual 206) 3)))) (zH pc 74 (zH pc 69 (zQ pc 68 (.aload_n 0) 1) (zH pc 72 (zQ pc 69 (.getfield 21) 3) (zQ pc 72 (.aload 4) 2))) (zH pc 77 (zQ pc 74 (.invokevirtual 152) 3) (zH pc 79 (zQ pc 77 (.iload 5) 2) (zQ pc 79 .ireturn 1)))))))
def zc_121 (pc : Nat) : Option (Instr × Nat) := (zH pc 24 (zH pc 11 (zH pc 5 (zH pc 1 (zQ pc 0 (.iload_n 1) 1) (zH pc 4 (zQ pc 1 (.ifCond .lt 8) 3) (zQ pc 4 (.iload_n 1) 1))) (zH pc 9 (zH pc 6 (zQ pc 5 (.iconst 3) 1) (zQ pc 6 (.if_icmp .le 5) 3)) (zH pc 10 (zQ pc 9 (.iconst (-1)) 1) (zQ pc 10 .ireturn 1)))) (zH pc 18 (zH pc 12 (zQ pc 11 (.aload_n 0) 1) (zH pc 15 (zQ pc 12 (.getfield 44) 3) (zQ pc 15 (.invokevirtual 210) 3))) (zH pc 20 (zH pc 19 (zQ pc 18 (.istore_n 2) 1) (zQ pc 19 (.iload_n 1) 1)) (zH pc 23 (zQ pc 20 (.ifCond .ne 5) 3) (zQ pc 23 (.iload_n 2) 1))))) (zH pc 37 (zH pc 27 (zH pc 25 (zQ pc 24 .ireturn 1) (zH pc 26 (zQ pc 25 (.iload_n 1) 1) (zQ pc 26 (.iload_n 2) 1))) (zH pc 31 (zH pc 30 (zQ pc 27 (.if_icmp .gt 17) 3) (zQ pc 30 (.aload_n 0) 1)) (zH pc 34 (zQ pc 31 (.getfield 44) 3) (zQ pc 34 (.getfield 213) 3)))) (zH pc 40 (zH pc 38 (zQ pc 37 (.iload_n 1) 1) (zH pc 39 (zQ pc 38 (.iconst 1) 1) (zQ pc 39 .isub 1))) (zH pc 44 (zH pc 41 (zQ pc 40 .iaload 1) (zQ pc 41 (.goto 4) 3)) (zH pc 45 (zQ pc 44 (.iconst (-1)) 1) (zQ pc 45 .ireturn 1))))))
def zc_122 (pc : Nat) : Option (Instr × Nat) := (zH pc 22 (zH pc 11 (zH pc 4 (zH pc 1 (zQ pc 0 (.aload_n 0) 1) (zQ pc 1 (.getfield 12) 3)) (zH pc 5 (zQ pc 4 (.iload_n 1) 1) (zH pc 8 (zQ pc 5 (.invokevirtual 95) 3) (zQ pc 8 (.ifCond .eq 14) 3)))) (zH pc 15 (zH pc 12 (zQ pc 11 (.aload_n 0) 1) (zQ pc 12 (.getfield 44) 3)) (zH pc 18 (zQ pc 15 (.invokevirtual 210) 3) (zH pc 19 (zQ pc 18 (.iconst (-1)) 1) (zQ pc 19 (.if_icmp .ne 5) 3))))) (zH pc 29 (zH pc 24 (zH pc 23 (zQ pc 22 (.iconst (-1)) 1) (zQ pc 23 .ireturn 1)) (zH pc 25 (zQ pc 24 (.aload_n 0) 1) (zH pc 28 (zQ pc 25 (.getfield 44) 3) (zQ pc 28 (.iload_n 1) 1)))) (zH pc 36 (zH pc 32 (zQ pc 29 (.invokevirtual 217) 3) (zH pc 35 (zQ pc 32 (.ifCond .eq 7) 3) (zQ pc 35 (.iconst 1) 1))) (zH pc 39 (zQ pc 36 (.goto 4) 3) (zH pc 40 (zQ pc 39 (.iconst 0) 1) (zQ pc 40 .ireturn 1))))))
def zc_123 (pc : Nat) : Option (Instr × Nat) := (zH pc 9 (zH pc 4 (zH pc 1 (zQ pc 0 (.aload_n 0) 1) (zQ pc 1 (.getfield 44) 3)) (zH pc 7 (zQ pc 4 (.getfield 220) 3) (zH pc 8 (zQ pc 7 (.istore_n 1) 1) (zQ pc 8 (.aload_n 0) 1)))) (zH pc 13 (zH pc 12 (zQ pc 9 (.getfield 44) 3) (zQ pc 12 (.iconst 0) 1)) (zH pc 16 (zQ pc 13 (.putfield 220) 3) (zH pc 17 (zQ pc 16 (.iload_n 1) 1) (zQ pc 17 .ireturn 1)))))
def zc_124 (pc : Nat) : Option (Instr × Nat) := (zH pc 37 (zH pc 17 (zH pc 8 (zH pc 4 (zH pc 1 (zQ pc 0 (.aload_n 0) 1) (zQ pc 1 (.getfield 21) 3)) (zH pc 5 (zQ pc 4 (.iload_n 1) 1) (zQ pc 5 (.invokevirtual 170) 3))) (zH pc 12 (zH pc 11 (zQ pc 8 (.ifCond .eq 12) 3) (zQ pc 11 (.iload_n 2) 1)) (zH pc 15 (zQ pc 12 (.ifCond .lt 8) 3) (zH pc 16 (zQ pc 15 (.iload_n 2) 1) (zQ pc 16 (.iconst 5) 1))))) (zH pc 26 (zH pc 23 (zH pc 20 (zQ pc 17 (.if_icmp .le 13) 3) (zQ pc 20 (.new 223) 3)) (zH pc 24 (zQ pc 23 .dup 1) (zQ pc 24 (.ldc 225) 2))) (zH pc 30 (zH pc 29 (zQ pc 26 (.invokespecial 227) 3) (zQ pc 29 .athrow 1)) (zH pc 31 (zQ pc 30 (.aload_n 0) 1) (zH pc 34 (zQ pc 31 (.getfield 21) 3) (zQ pc 34 (.getfield 109) 3)))))) (zH pc 50 (zH pc 41 (zH pc 39 (zH pc 38 (zQ pc 37 (.iload_n 1) 1) (zQ pc 38 .aaload 1)) (zH pc 40 (zQ pc 39 (.astore_n 3) 1) (zQ pc 40 (.iload_n 2) 1))) (zH pc 45 (zH pc 44 (zQ pc 41 (.ifCond .ne 8) 3) (zQ pc 44 (.aload_n 3) 1)) (zH pc 48 (zQ pc 45 (.getfield 230) 3) (zH pc 49 (zQ pc 48 .ireturn 1) (zQ pc 49 (.aload_n 3) 1))))) (zH pc 58 (zH pc 54 (zH pc 53 (zQ pc 50 (.getfield 230) 3) (zQ pc 53 (.iconst 1) 1)) (zH pc 57 (zQ pc 54 (.if_icmp .ne 11) 3) (zQ pc 57 (.aload_n 3) 1))) (zH pc 62 (zH pc 59 (zQ pc 58 (.iload_n 2) 1) (zQ pc 59 (.invokevirtual 233) 3)) (zH pc 65 (zQ pc 62 (.goto 4) 3) (zH pc 66 (zQ pc 65 (.iconst (-1)) 1) (zQ pc 66 .ireturn 1)))))))
def zc_125 (pc : Nat) : Option (Instr × Nat) := (zH pc 25 (zH pc 12 (zH pc 5 (zH pc 1 (zQ pc 0 (.aload_n 0) 1) (zH pc 4 (zQ pc 1 (.getfield 21) 3) (zQ pc 4 (.iload_n 1) 1))) (zH pc 8 (zQ pc 5 (.invokevirtual 170) 3) (zH pc 11 (zQ pc 8 (.ifCond .eq 23) 3) (zQ pc 11 (.iload_n 2) 1)))) (zH pc 17 (zH pc 15 (zQ pc 12 (.ifCond .lt 19) 3) (zH pc 16 (zQ pc 15 (.iload_n 2) 1) (zQ pc 16 (.aload_n 0) 1))) (zH pc 23 (zH pc 20 (zQ pc 17 (.getfield 21) 3) (zQ pc 20 (.getfield 109) 3)) (zH pc 24 (zQ pc 23 (.iload_n 1) 1) (zQ pc 24 .aaload 1))))) (zH pc 37 (zH pc 32 (zH pc 28 (zQ pc 25 (.getfield 236) 3) (zH pc 31 (zQ pc 28 (.if_icmp .lt 5) 3) (zQ pc 31 (.iconst (-1)) 1))) (zH pc 33 (zQ pc 32 .ireturn 1) (zH pc 34 (zQ pc 33 (.aload_n 0) 1) (zQ pc 34 (.getfield 21) 3)))) (zH pc 42 (zH pc 40 (zQ pc 37 (.getfield 109) 3) (zH pc 41 (zQ pc 40 (.iload_n 1) 1) (zQ pc 41 .aaload 1))) (zH pc 46 (zH pc 45 (zQ pc 42 (.getfield 239) 3) (zQ pc 45 (.iload_n 2) 1)) (zH pc 47 (zQ pc 46 .iaload 1) (zQ pc 47 .ireturn 1))))))
def zc_126 (pc : Nat) : Option (Instr × Nat) := (zH pc 12 (zH pc 5 (zH pc 1 (zQ pc 0 (.aload_n 0) 1) (zH pc 4 (zQ pc 1 (.getfield 12) 3) (zQ pc 4 (.iload_n 1) 1))) (zH pc 8 (zQ pc 5 (.invokevirtual 242) 3) (zH pc 11 (zQ pc 8 (.ifCond .eq 15) 3) (zQ pc 11 (.aload_n 0) 1)))) (zH pc 19 (zH pc 15 (zQ pc 12 (.getfield 12) 3) (zH pc 18 (zQ pc 15 (.getfield 245) 3) (zQ pc 18 (.iload_n 1) 1))) (zH pc 23 (zH pc 20 (zQ pc 19 .iaload 1) (zQ pc 20 (.goto 4) 3)) (zH pc 24 (zQ pc 23 (.iconst (-1)) 1) (zQ pc 24 .ireturn 1)))))
def zc_127 (pc : Nat) : Option (Instr × Nat) := (zH pc 5 (zH pc 1 (zQ pc 0 (.aload_n 0) 1) (zH pc 4 (zQ pc 1 (.getfield 51) 3) (zQ pc 4 (.iload_n 1) 1))) (zH pc 6 (zQ pc 5 (.iload_n 2) 1) (zH pc 9 (zQ pc 6 (.invokevirtual 248) 3) (zQ pc 9 .ireturn 1))))
def zc_128 (pc : Nat) : Option (Instr × Nat) := (zH pc 120 (zH pc 90 (zH pc 77 (zH pc 69 (zH pc 1 (zQ pc 0 (.iload_n 1) 1) (zH pc 68 (zQ pc 1 (.tableswitch 175 0 12 #[67, 72, 80, 88, 96, 107, 115, 123, 131, 139, 147, 155, 163]) 67) (zQ pc 68 (.aload_n 0) 1))) (zH pc 73 (zH pc 72 (zQ pc 69 (.getfield 74) 3) (zQ pc 72 .ireturn 1)) (zH pc 74 (zQ pc 73 (.aload_n 0) 1) (zQ pc 74 (.getfield 12) 3)))) (zH pc 82 (zH pc 80 (zQ pc 77 (.getfield 251) 3) (zH pc 81 (zQ pc 80 .ireturn 1) (zQ pc 81 (.aload_n 0) 1))) (zH pc 88 (zH pc 85 (zQ pc 82 (.getfield 21) 3) (zQ pc 85 (.getfield 254) 3)) (zH pc 89 (zQ pc 88 .ireturn 1) (zQ pc 89 (.aload_n 0) 1))))) (zH pc 104 (zH pc 97 (zH pc 93 (zQ pc 90 (.getfield 21) 3) (zH pc 96 (zQ pc 93 (.invokevirtual 255) 3) (zQ pc 96 .ireturn 1))) (zH pc 101 (zH pc 98 (zQ pc 97 (.aload_n 0) 1) (zQ pc 98 (.getfield 12) 3)) (zH pc 102 (zQ pc 101 (.iconst 0) 1) (zQ pc 102 (.bipush 96) 2)))) (zH pc 112 (zH pc 108 (zH pc 107 (zQ pc 104 (.invokevirtual 258) 3) (zQ pc 107 .ireturn 1)) (zH pc 109 (zQ pc 108 (.aload_n 0) 1) (zQ pc 109 (.getfield 51) 3))) (zH pc 116 (zH pc 115 (zQ pc 112 (.getfield 261) 3) (zQ pc 115 .ireturn 1)) (zH pc 117 (zQ pc 116 (.aload_n 0) 1) (zQ pc 117 (.getfield 51) 3)))))) (zH pc 149 (zH pc 133 (zH pc 125 (zH pc 123 (zQ pc 120 (.getfield 262) 3) (zH pc 124 (zQ pc 123 .ireturn 1) (zQ pc 124 (.aload_n 0) 1))) (zH pc 131 (zH pc 128 (zQ pc 125 (.getfield 44) 3) (zQ pc 128 (.getfield 220) 3)) (zH pc 132 (zQ pc 131 .ireturn 1) (zQ pc 132 (.aload_n 0) 1)))) (zH pc 141 (zH pc 139 (zH pc 136 (zQ pc 133 (.getfield 67) 3) (zQ pc 136 (.getfield 265) 3)) (zH pc 140 (zQ pc 139 .ireturn 1) (zQ pc 140 (.aload_n 0) 1))) (zH pc 147 (zH pc 144 (zQ pc 141 (.getfield 67) 3) (zQ pc 144 (.getfield 267) 3)) (zH pc 148 (zQ pc 147 .ireturn 1) (zQ pc 148 (.aload_n 0) 1))))) (zH pc 164 (zH pc 156 (zH pc 152 (zQ pc 149 (.getfield 58) 3) (zH pc 155 (zQ pc 152 (.getfield 160) 3) (zQ pc 155 .ireturn 1))) (zH pc 160 (zH pc 157 (zQ pc 156 (.aload_n 0) 1) (zQ pc 157 (.getfield 12) 3)) (zH pc 163 (zQ pc 160 (.invokevirtual 270) 3) (zQ pc 163 .ireturn 1)))) (zH pc 172 (zH pc 168 (zH pc 165 (zQ pc 164 (.aload_n 0) 1) (zQ pc 165 (.getfield 12) 3)) (zH pc 170 (zQ pc 168 (.bipush 100) 2) (zQ pc 170 (.bipush 116) 2))) (zH pc 176 (zH pc 175 (zQ pc 172 (.invokevirtual 258) 3) (zQ pc 175 .ireturn 1)) (zH pc 177 (zQ pc 176 (.iconst (-1)) 1) (zQ pc 177 .ireturn 1)))))))
def zc_129 (pc : Nat) : Option (Instr × Nat) := (zH pc 4 (zH pc 1 (zQ pc 0 (.aload_n 0) 1) (zQ pc 1 (.getfield 74) 3)) (zH pc 6 (zQ pc 4 (.ldc 144) 2) (zH pc 7 (zQ pc 6 .idiv 1) (zQ pc 7 .ireturn 1))))
def zc_130 (pc : Nat) : Option (Instr × Nat) := (zH pc 22 (zH pc 11 (zH pc 4 (zH pc 1 (zQ pc 0 (.aload_n 0) 1) (zQ pc 1 (.getfield 21) 3)) (zH pc 5 (zQ pc 4 (.iload_n 1) 1) (zH pc 8 (zQ pc 5 (.invokevirtual 106) 3) (zQ pc 8 (.ifCond .eq 28) 3)))) (zH pc 15 (zH pc 12 (zQ pc 11 (.iload_n 2) 1) (zQ pc 12 (.ifCond .lt 24) 3)) (zH pc 16 (zQ pc 15 (.iload_n 2) 1) (zH pc 19 (zQ pc 16 (.ldc_w 273) 3) (zQ pc 19 (.if_icmp .gt 17) 3))))) (zH pc 29 (zH pc 24 (zH pc 23 (zQ pc 22 (.iload_n 3) 1) (zQ pc 23 (.iconst 1) 1)) (zH pc 27 (zQ pc 24 (.if_icmp .lt 12) 3) (zH pc 28 (zQ pc 27 (.iload_n 3) 1) (zQ pc 28 (.iconst 5) 1)))) (zH pc 33 (zH pc 32 (zQ pc 29 (.if_icmp .gt 7) 3) (zQ pc 32 (.iconst 1) 1)) (zH pc 36 (zQ pc 33 (.goto 4) 3) (zH pc 37 (zQ pc 36 (.iconst 0) 1) (zQ pc 37 .ireturn 1))))))
def zc_131 (pc : Nat) : Option (Instr × Nat) := (zH pc 38 (zH pc 18 (zH pc 11 (zH pc 4 (zH pc 1 (zQ pc 0 (.aload_n 0) 1) (zQ pc 1 (.getfield 21) 3)) (zH pc 5 (zQ pc 4 (.aload_n 0) 1) (zH pc 8 (zQ pc 5 (.getfield 21) 3) (zQ pc 8 (.getfield 109) 3)))) (zH pc 13 (zH pc 12 (zQ pc 11 (.iload_n 1) 1) (zQ pc 12 .aaload 1)) (zH pc 14 (zQ pc 13 (.iload_n 2) 1) (zH pc 15 (zQ pc 14 (.iload_n 3) 1) (zQ pc 15 (.invokevirtual 179) 3))))) (zH pc 28 (zH pc 20 (zH pc 19 (zQ pc 18 .pop 1) (zQ pc 19 (.aload_n 0) 1)) (zH pc 23 (zQ pc 20 (.getfield 21) 3) (zH pc 25 (zQ pc 23 (.iload 4) 2) (zQ pc 25 (.invokevirtual 106) 3)))) (zH pc 32 (zH pc 31 (zQ pc 28 (.ifCond .eq 21) 3) (zQ pc 31 (.aload_n 0) 1)) (zH pc 34 (zQ pc 32 (.iload 4) 2) (zH pc 36 (zQ pc 34 (.iload 5) 2) (zQ pc 36 (.iload 6) 2)))))) (zH pc 57 (zH pc 49 (zH pc 42 (zH pc 41 (zQ pc 38 (.invokevirtual 183) 3) (zQ pc 41 (.iconst 5) 1)) (zH pc 45 (zQ pc 42 (.if_icmp .ne 7) 3) (zH pc 46 (zQ pc 45 (.iconst 1) 1) (zQ pc 46 (.goto 4) 3)))) (zH pc 52 (zH pc 50 (zQ pc 49 (.iconst 0) 1) (zQ pc 50 (.istore 7) 2)) (zH pc 53 (zQ pc 52 (.aload_n 0) 1) (zH pc 56 (zQ pc 53 (.getfield 21) 3) (zQ pc 56 (.aload_n 0) 1))))) (zH pc 68 (zH pc 63 (zH pc 60 (zQ pc 57 (.getfield 21) 3) (zQ pc 60 (.getfield 109) 3)) (zH pc 64 (zQ pc 63 (.iload_n 1) 1) (zH pc 65 (zQ pc 64 .aaload 1) (zQ pc 65 (.invokevirtual 152) 3)))) (zH pc 74 (zH pc 70 (zQ pc 68 (.iload 7) 2) (zH pc 73 (zQ pc 70 (.ifCond .ne 7) 3) (zQ pc 73 (.iconst 1) 1))) (zH pc 77 (zQ pc 74 (.goto 4) 3) (zH pc 78 (zQ pc 77 (.iconst 0) 1) (zQ pc 78 .ireturn 1)))))))
def zc_132 (pc : Nat) : Option (Instr × Nat) := (zH pc 15 (zH pc 5 (zH pc 2 (zH pc 1 (zQ pc 0 (.iload_n 1) 1) (zQ pc 1 (.iconst 1) 1)) (zH pc 3 (zQ pc 2 .isub 1) (zH pc 4 (zQ pc 3 (.iload_n 2) 1) (zQ pc 4 .isub 1)))) (zH pc 10 (zH pc 6 (zQ pc 5 (.istore_n 3) 1) (zH pc 7 (zQ pc 6 (.iload_n 3) 1) (zQ pc 7 (.ifCond .lt 24) 3))) (zH pc 11 (zQ pc 10 (.iload_n 3) 1) (zH pc 14 (zQ pc 11 (.getstatic 274) 3) (zQ pc 14 .arraylength 1))))) (zH pc 24 (zH pc 19 (zH pc 18 (zQ pc 15 (.if_icmp .ge 16) 3) (zQ pc 18 (.iload_n 0) 1)) (zH pc 22 (zQ pc 19 (.getstatic 274) 3) (zH pc 23 (zQ pc 22 (.iload_n 3) 1) (zQ pc 23 .iaload 1)))) (zH pc 28 (zH pc 25 (zQ pc 24 .idiv 1) (zH pc 27 (zQ pc 25 (.bipush 10) 2) (zQ pc 27 .irem 1))) (zH pc 31 (zQ pc 28 (.goto 4) 3) (zH pc 32 (zQ pc 31 (.iconst 0) 1) (zQ pc 32 .ireturn 1))))))
def zc_133 (pc : Nat) : Option (Instr × Nat) := (zH pc 1 (zQ pc 0 (.aload_n 0) 1) (zH pc 4 (zQ pc 1 (.getfield 201) 3) (zQ pc 4 .ireturn 1)))
def zc_134 (pc : Nat) : Option (Instr × Nat) := (zH pc 7 (zH pc 2 (zH pc 1 (zQ pc 0 (.iload_n 0) 1) (zQ pc 1 (.iload_n 1) 1)) (zH pc 5 (zQ pc 2 (.if_icmp .lt 12) 3) (zH pc 6 (zQ pc 5 (.iload_n 0) 1) (zQ pc 6 (.iload_n 2) 1)))) (zH pc 11 (zH pc 10 (zQ pc 7 (.if_icmp .gt 7) 3) (zQ pc 10 (.iconst 1) 1)) (zH pc 14 (zQ pc 11 (.goto 4) 3) (zH pc 15 (zQ pc 14 (.iconst 0) 1) (zQ pc 15 .ireturn 1)))))
def zc_135 (pc : Nat) : Option (Instr × Nat) := (zH pc 22 (zH pc 11 (zH pc 5 (zH pc 1 (zQ pc 0 (.iload_n 1) 1) (zH pc 4 (zQ pc 1 (.ifCond .lt 40) 3) (zQ pc 4 (.iload_n 1) 1))) (zH pc 7 (zQ pc 5 (.bipush 96) 2) (zH pc 10 (zQ pc 7 (.if_icmp .ge 34) 3) (zQ pc 10 (.iload_n 1) 1)))) (zH pc 15 (zH pc 13 (zQ pc 11 (.bipush 8) 2) (zH pc 14 (zQ pc 13 .idiv 1) (zQ pc 14 (.aload_n 0) 1))) (zH pc 18 (zQ pc 15 (.getfield 205) 3) (zH pc 21 (zQ pc 18 (.if_icmp .ge 23) 3) (zQ pc 21 (.iload_n 1) 1))))) (zH pc 32 (zH pc 26 (zH pc 24 (zQ pc 22 (.bipush 8) 2) (zH pc 25 (zQ pc 24 .irem 1) (zQ pc 25 (.aload_n 0) 1))) (zH pc 29 (zQ pc 26 (.getfield 13) 3) (zH pc 30 (zQ pc 29 (.iload_n 1) 1) (zQ pc 30 (.bipush 8) 2)))) (zH pc 37 (zH pc 33 (zQ pc 32 .idiv 1) (zH pc 34 (zQ pc 33 .iaload 1) (zQ pc 34 (.if_icmp .ge 7) 3))) (zH pc 41 (zH pc 38 (zQ pc 37 (.iconst 1) 1) (zQ pc 38 (.goto 4) 3)) (zH pc 42 (zQ pc 41 (.iconst 0) 1) (zQ pc 42 .ireturn 1))))))
def zc_136 (pc : Nat) : Option (Instr × Nat) := (zH pc 11 (zH pc 5 (zH pc 1 (zQ pc 0 (.aload_n 0) 1) (zH pc 2 (zQ pc 1 (.iload_n 1) 1) (zQ pc 2 (.invokevirtual 208) 3))) (zH pc 8 (zQ pc 5 (.ifCond .ne 14) 3) (zH pc 9 (zQ pc 8 (.iload_n 1) 1) (zQ pc 9 (.bipush 100) 2)))) (zH pc 19 (zH pc 13 (zQ pc 11 (.bipush 115) 2) (zH pc 16 (zQ pc 13 (.invokestatic 212) 3) (zQ pc 16 (.ifCond .eq 7) 3))) (zH pc 23 (zH pc 20 (zQ pc 19 (.iconst 1) 1) (zQ pc 20 (.goto 4) 3)) (zH pc 24 (zQ pc 23 (.iconst 0) 1) (zQ pc 24 .ireturn 1)))))
def zc_137 (pc : Nat) : Option (Instr × Nat) := (zH pc 6 (zH pc 2 (zH pc 1 (zQ pc 0 (.iload_n 1) 1) (zQ pc 1 (.iconst 0) 1)) (zH pc 3 (zQ pc 2 (.aload_n 0) 1) (zQ pc 3 (.getfield 216) 3))) (zH pc 8 (zH pc 7 (zQ pc 6 (.iconst 1) 1) (zQ pc 7 .isub 1)) (zH pc 11 (zQ pc 8 (.invokestatic 212) 3) (zQ pc 11 .ireturn 1))))
def zc_138 (pc : Nat) : Option (Instr × Nat) := (zH pc 14 (zH pc 6 (zH pc 2 (zH pc 1 (zQ pc 0 (.iload_n 1) 1) (zQ pc 1 (.iconst 0) 1)) (zH pc 3 (zQ pc 2 (.aload_n 0) 1) (zQ pc 3 (.getfield 205) 3))) (zH pc 8 (zH pc 7 (zQ pc 6 (.iconst 1) 1) (zQ pc 7 .isub 1)) (zH pc 11 (zQ pc 8 (.invokestatic 212) 3) (zQ pc 11 (.ifCond .eq 16) 3)))) (zH pc 20 (zH pc 18 (zH pc 15 (zQ pc 14 (.aload_n 0) 1) (zQ pc 15 (.getfield 7) 3)) (zH pc 19 (zQ pc 18 (.iload_n 1) 1) (zQ pc 19 .iaload 1))) (zH pc 24 (zH pc 23 (zQ pc 20 (.ifCond .ne 7) 3) (zQ pc 23 (.iconst 1) 1)) (zH pc 27 (zQ pc 24 (.goto 4) 3) (zH pc 28 (zQ pc 27 (.iconst 0) 1) (zQ pc 28 .ireturn 1))))))
def zc_139 (pc : Nat) : Option (Instr × Nat) := (zH pc 21 (zH pc 9 (zH pc 5 (zH pc 1 (zQ pc 0 (.aload_n 0) 1) (zH pc 2 (zQ pc 1 (.iconst 0) 1) (zQ pc 2 (.putfield 201) 3))) (zH pc 6 (zQ pc 5 (.iload_n 1) 1) (zH pc 7 (zQ pc 6 (.iconst 0) 1) (zQ pc 7 (.ldc 219) 2)))) (zH pc 16 (zH pc 12 (zQ pc 9 (.invokestatic 212) 3) (zH pc 15 (zQ pc 12 (.ifCond .eq 14) 3) (zQ pc 15 (.aload_n 0) 1))) (zH pc 19 (zQ pc 16 (.getfield 220) 3) (zH pc 20 (zQ pc 19 (.iload_n 1) 1) (zQ pc 20 .iadd 1))))) (zH pc 30 (zH pc 27 (zH pc 23 (zQ pc 21 (.ldc 223) 2) (zH pc 26 (zQ pc 23 (.if_icmp .le 5) 3) (zQ pc 26 (.iconst (-1)) 1))) (zH pc 28 (zQ pc 27 .ireturn 1) (zH pc 29 (zQ pc 28 (.aload_n 0) 1) (zQ pc 29 .dup 1)))) (zH pc 35 (zH pc 33 (zQ pc 30 (.getfield 220) 3) (zH pc 34 (zQ pc 33 (.iload_n 1) 1) (zQ pc 34 .iadd 1))) (zH pc 39 (zH pc 38 (zQ pc 35 (.putfield 220) 3) (zQ pc 38 (.aload_n 0) 1)) (zH pc 42 (zQ pc 39 (.getfield 220) 3) (zQ pc 42 .ireturn 1))))))
def zc_140 (pc : Nat) : Option (Instr × Nat) := (zH pc 52 (zH pc 25 (zH pc 11 (zH pc 5 (zH pc 1 (zQ pc 0 (.aload_n 0) 1) (zH pc 2 (zQ pc 1 (.iconst 0) 1) (zQ pc 2 (.putfield 201) 3))) (zH pc 7 (zH pc 6 (zQ pc 5 (.iload_n 1) 1) (zQ pc 6 (.iconst 0) 1)) (zH pc 8 (zQ pc 7 (.iconst 1) 1) (zQ pc 8 (.invokestatic 212) 3)))) (zH pc 16 (zH pc 14 (zQ pc 11 (.ifCond .eq 39) 3) (zH pc 15 (zQ pc 14 (.iload_n 2) 1) (zQ pc 15 (.iconst 1) 1))) (zH pc 21 (zH pc 18 (zQ pc 16 (.bipush 8) 2) (zQ pc 18 (.invokestatic 212) 3)) (zH pc 24 (zQ pc 21 (.ifCond .eq 29) 3) (zQ pc 24 (.iload_n 3) 1))))) (zH pc 38 (zH pc 30 (zH pc 26 (zQ pc 25 (.iconst 1) 1) (zH pc 27 (zQ pc 26 (.iload_n 1) 1) (zQ pc 27 (.ifCond .ne 7) 3))) (zH pc 34 (zH pc 31 (zQ pc 30 (.iconst 2) 1) (zQ pc 31 (.goto 4) 3)) (zH pc 35 (zQ pc 34 (.iconst 1) 1) (zQ pc 35 (.invokestatic 212) 3)))) (zH pc 45 (zH pc 41 (zQ pc 38 (.ifCond .eq 12) 3) (zH pc 42 (zQ pc 41 (.aload_n 0) 1) (zQ pc 42 (.getfield 205) 3))) (zH pc 50 (zH pc 47 (zQ pc 45 (.bipush 12) 2) (zQ pc 47 (.if_icmp .ne 5) 3)) (zH pc 51 (zQ pc 50 (.iconst (-1)) 1) (zQ pc 51 .ireturn 1)))))) (zH pc 76 (zH pc 63 (zH pc 57 (zH pc 53 (zQ pc 52 (.aload_n 0) 1) (zH pc 56 (zQ pc 53 (.getfield 7) 3) (zQ pc 56 (.aload_n 0) 1))) (zH pc 61 (zH pc 60 (zQ pc 57 (.getfield 205) 3) (zQ pc 60 (.iload_n 1) 1)) (zH pc 62 (zQ pc 61 .iastore 1) (zQ pc 62 (.aload_n 0) 1)))) (zH pc 70 (zH pc 66 (zQ pc 63 (.getfield 13) 3) (zH pc 67 (zQ pc 66 (.aload_n 0) 1) (zQ pc 67 (.getfield 205) 3))) (zH pc 72 (zH pc 71 (zQ pc 70 (.iload_n 2) 1) (zQ pc 71 .iastore 1)) (zH pc 73 (zQ pc 72 (.aload_n 0) 1) (zQ pc 73 (.getfield 16) 3))))) (zH pc 87 (zH pc 81 (zH pc 77 (zQ pc 76 (.aload_n 0) 1) (zH pc 80 (zQ pc 77 (.getfield 205) 3) (zQ pc 80 (.iload_n 3) 1))) (zH pc 83 (zH pc 82 (zQ pc 81 .iastore 1) (zQ pc 82 (.aload_n 0) 1)) (zH pc 84 (zQ pc 83 .dup 1) (zQ pc 84 (.getfield 205) 3)))) (zH pc 93 (zH pc 89 (zH pc 88 (zQ pc 87 (.iconst 1) 1) (zQ pc 88 .iadd 1)) (zH pc 92 (zQ pc 89 (.putfield 205) 3) (zQ pc 92 (.aload_n 0) 1))) (zH pc 97 (zH pc 96 (zQ pc 93 (.getfield 205) 3) (zQ pc 96 (.iconst 1) 1)) (zH pc 98 (zQ pc 97 .isub 1) (zQ pc 98 .ireturn 1)))))))
def zc_141 (pc : Nat) : Option (Instr × Nat) := (zH pc 9 (zH pc 4 (zH pc 2 (zQ pc 0 (.bipush 80) 2) (zH pc 3 (zQ pc 2 (.iload_n 0) 1) (zQ pc 3 .imul 1))) (zH pc 7 (zH pc 6 (zQ pc 4 (.bipush 40) 2) (zQ pc 6 (.iload_n 1) 1)) (zH pc 8 (zQ pc 7 .imul 1) (zQ pc 8 .iadd 1)))) (zH pc 12 (zH pc 10 (zQ pc 9 (.iconst 4) 1) (zH pc 11 (zQ pc 10 (.iload_n 2) 1) (zQ pc 11 .imul 1))) (zH pc 14 (zH pc 13 (zQ pc 12 .iadd 1) (zQ pc 13 (.iload_n 3) 1)) (zH pc 15 (zQ pc 14 .iadd 1) (zQ pc 15 .ireturn 1)))))
def zc_142 (pc : Nat) : Option (Instr × Nat) := (zH pc 51 (zH pc 22 (zH pc 13 (zH pc 5 (zH pc 1 (zQ pc 0 (.aload_n 0) 1) (zH pc 2 (zQ pc 1 (.iconst 0) 1) (zQ pc 2 (.putfield 201) 3))) (zH pc 7 (zH pc 6 (zQ pc 5 (.aload_n 0) 1) (zQ pc 6 (.iload_n 1) 1)) (zH pc 10 (zQ pc 7 (.invokevirtual 224) 3) (zQ pc 10 (.ifCond .eq 39) 3)))) (zH pc 16 (zH pc 14 (zQ pc 13 (.iload_n 2) 1) (zH pc 15 (zQ pc 14 (.iconst 0) 1) (zQ pc 15 (.aload_n 0) 1))) (zH pc 20 (zH pc 19 (zQ pc 16 (.getfield 16) 3) (zQ pc 19 (.iload_n 1) 1)) (zH pc 21 (zQ pc 20 .iaload 1) (zQ pc 21 (.iconst 1) 1))))) (zH pc 36 (zH pc 29 (zH pc 23 (zQ pc 22 .isub 1) (zH pc 26 (zQ pc 23 (.invokestatic 212) 3) (zQ pc 26 (.ifCond .eq 23) 3))) (zH pc 31 (zH pc 30 (zQ pc 29 (.iload_n 3) 1) (zQ pc 30 (.iconst 0) 1)) (zH pc 33 (zQ pc 31 (.bipush 9) 2) (zQ pc 33 (.invokestatic 212) 3)))) (zH pc 43 (zH pc 41 (zH pc 39 (zQ pc 36 (.ifCond .eq 13) 3) (zQ pc 39 (.iload 4) 2)) (zH pc 42 (zQ pc 41 (.iconst 0) 1) (zQ pc 42 (.iconst 3) 1))) (zH pc 49 (zH pc 46 (zQ pc 43 (.invokestatic 212) 3) (zQ pc 46 (.ifCond .ne 5) 3)) (zH pc 50 (zQ pc 49 (.iconst 0) 1) (zQ pc 50 .ireturn 1)))))) (zH pc 83 (zH pc 66 (zH pc 57 (zH pc 53 (zQ pc 51 (.iload 5) 2) (zH pc 54 (zQ pc 53 (.iconst (-1)) 1) (zQ pc 54 (.if_icmp .eq 12) 3))) (zH pc 60 (zH pc 58 (zQ pc 57 (.aload_n 0) 1) (zQ pc 58 (.iload 5) 2)) (zH pc 63 (zQ pc 60 (.invokevirtual 227) 3) (zQ pc 63 (.ifCond .eq 24) 3)))) (zH pc 75 (zH pc 71 (zH pc 68 (zQ pc 66 (.iload 5) 2) (zQ pc 68 (.ifCond .lt 21) 3)) (zH pc 73 (zQ pc 71 (.iload 5) 2) (zQ pc 73 (.bipush 96) 2))) (zH pc 80 (zH pc 78 (zQ pc 75 (.if_icmp .ge 14) 3) (zQ pc 78 (.iload 5) 2)) (zH pc 82 (zQ pc 80 (.bipush 8) 2) (zQ pc 82 .idiv 1))))) (zH pc 94 (zH pc 88 (zH pc 84 (zQ pc 83 (.iload_n 1) 1) (zH pc 87 (zQ pc 84 (.if_icmp .ne 5) 3) (zQ pc 87 (.iconst 0) 1))) (zH pc 90 (zH pc 89 (zQ pc 88 .ireturn 1) (zQ pc 89 (.aload_n 0) 1)) (zH pc 93 (zQ pc 90 (.getfield 19) 3) (zQ pc 93 (.iload_n 1) 1)))) (zH pc 101 (zH pc 96 (zH pc 95 (zQ pc 94 (.iload_n 2) 1) (zQ pc 95 (.iload_n 3) 1)) (zH pc 98 (zQ pc 96 (.iload 4) 2) (zQ pc 98 (.invokestatic 230) 3))) (zH pc 104 (zH pc 103 (zQ pc 101 (.iload 5) 2) (zQ pc 103 .iastore 1)) (zH pc 105 (zQ pc 104 (.iconst 1) 1) (zQ pc 105 .ireturn 1)))))))
def zc_143 (pc : Nat) : Option (Instr × Nat) := (zH pc 19 (zH pc 7 (zH pc 2 (zH pc 1 (zQ pc 0 (.aload_n 0) 1) (zQ pc 1 (.iconst 0) 1)) (zH pc 5 (zQ pc 2 (.putfield 201) 3) (zH pc 6 (zQ pc 5 (.iload_n 1) 1) (zQ pc 6 (.iconst 0) 1)))) (zH pc 15 (zH pc 9 (zQ pc 7 (.bipush 15) 2) (zH pc 12 (zQ pc 9 (.invokestatic 212) 3) (zQ pc 12 (.ifCond .eq 13) 3))) (zH pc 16 (zQ pc 15 (.iload_n 2) 1) (zH pc 17 (zQ pc 16 (.iconst 1) 1) (zQ pc 17 (.bipush 9) 2))))) (zH pc 28 (zH pc 25 (zH pc 22 (zQ pc 19 (.invokestatic 212) 3) (zQ pc 22 (.ifCond .ne 5) 3)) (zH pc 26 (zQ pc 25 (.iconst 0) 1) (zH pc 27 (zQ pc 26 .ireturn 1) (zQ pc 27 (.aload_n 0) 1)))) (zH pc 33 (zH pc 31 (zQ pc 28 (.getfield 22) 3) (zH pc 32 (zQ pc 31 (.iload_n 1) 1) (zQ pc 32 (.iload_n 2) 1))) (zH pc 34 (zQ pc 33 .iastore 1) (zH pc 35 (zQ pc 34 (.iconst 1) 1) (zQ pc 35 .ireturn 1))))))
def zc_144 (pc : Nat) : Option (Instr × Nat) := (zH pc 20 (zH pc 10 (zH pc 3 (zH pc 1 (zQ pc 0 (.iconst 0) 1) (zH pc 2 (zQ pc 1 (.istore_n 3) 1) (zQ pc 2 (.iload_n 3) 1))) (zH pc 4 (zQ pc 3 (.aload_n 0) 1) (zH pc 7 (zQ pc 4 (.getfield 216) 3) (zQ pc 7 (.if_icmp .ge 31) 3)))) (zH pc 15 (zH pc 11 (zQ pc 10 (.aload_n 0) 1) (zH pc 14 (zQ pc 11 (.getfield 38) 3) (zQ pc 14 (.iload_n 3) 1))) (zH pc 16 (zQ pc 15 .iaload 1) (zH pc 17 (zQ pc 16 (.iload_n 1) 1) (zQ pc 17 (.if_icmp .ne 15) 3))))) (zH pc 30 (zH pc 25 (zH pc 21 (zQ pc 20 (.aload_n 0) 1) (zH pc 24 (zQ pc 21 (.getfield 41) 3) (zQ pc 24 (.iload_n 3) 1))) (zH pc 26 (zQ pc 25 .iaload 1) (zH pc 27 (zQ pc 26 (.iload_n 2) 1) (zQ pc 27 (.if_icmp .ne 5) 3)))) (zH pc 35 (zH pc 31 (zQ pc 30 (.iload_n 3) 1) (zH pc 32 (zQ pc 31 .ireturn 1) (zQ pc 32 (.iinc 3 1) 3))) (zH pc 38 (zQ pc 35 (.goto (-33)) 3) (zH pc 39 (zQ pc 38 (.iconst (-1)) 1) (zQ pc 39 .ireturn 1))))))
def zc_145 (pc : Nat) : Option (Instr × Nat) := (zH pc 60 (zH pc 28 (zH pc 14 (zH pc 6 (zH pc 2 (zH pc 1 (zQ pc 0 (.aload_n 0) 1) (zQ pc 1 (.iconst 0) 1)) (zH pc 5 (zQ pc 2 (.putfield 201) 3) (zQ pc 5 (.aload_n 0) 1))) (zH pc 10 (zH pc 7 (zQ pc 6 (.iload_n 1) 1) (zQ pc 7 (.invokevirtual 224) 3)) (zH pc 13 (zQ pc 10 (.ifCond .eq 55) 3) (zQ pc 13 (.iload_n 2) 1)))) (zH pc 20 (zH pc 16 (zH pc 15 (zQ pc 14 (.iconst 0) 1) (zQ pc 15 (.aload_n 0) 1)) (zH pc 19 (zQ pc 16 (.getfield 205) 3) (zQ pc 19 (.iconst 1) 1))) (zH pc 24 (zH pc 21 (zQ pc 20 .isub 1) (zQ pc 21 (.invokestatic 212) 3)) (zH pc 27 (zQ pc 24 (.ifCond .eq 41) 3) (zQ pc 27 (.aload_n 0) 1))))) (zH pc 41 (zH pc 34 (zH pc 32 (zH pc 31 (zQ pc 28 (.getfield 7) 3) (zQ pc 31 (.iload_n 2) 1)) (zH pc 33 (zQ pc 32 .iaload 1) (zQ pc 33 (.iconst 1) 1))) (zH pc 38 (zH pc 37 (zQ pc 34 (.if_icmp .ne 31) 3) (zQ pc 37 (.iload_n 3) 1)) (zH pc 39 (zQ pc 38 (.iconst 0) 1) (zQ pc 39 (.bipush 99) 2)))) (zH pc 49 (zH pc 47 (zH pc 44 (zQ pc 41 (.invokestatic 212) 3) (zQ pc 44 (.ifCond .eq 21) 3)) (zH pc 48 (zQ pc 47 (.aload_n 0) 1) (zQ pc 48 (.iload_n 2) 1))) (zH pc 53 (zH pc 50 (zQ pc 49 (.iload_n 3) 1) (zQ pc 50 (.invokevirtual 234) 3)) (zH pc 56 (zQ pc 53 (.ifCond .ge 12) 3) (zH pc 57 (zQ pc 56 (.aload_n 0) 1) (zQ pc 57 (.getfield 216) 3))))))) (zH pc 87 (zH pc 75 (zH pc 67 (zH pc 65 (zH pc 62 (zQ pc 60 (.bipush 40) 2) (zQ pc 62 (.if_icmp .ne 5) 3)) (zH pc 66 (zQ pc 65 (.iconst (-1)) 1) (zQ pc 66 .ireturn 1))) (zH pc 71 (zH pc 68 (zQ pc 67 (.aload_n 0) 1) (zQ pc 68 (.getfield 35) 3)) (zH pc 72 (zQ pc 71 (.aload_n 0) 1) (zQ pc 72 (.getfield 216) 3)))) (zH pc 81 (zH pc 77 (zH pc 76 (zQ pc 75 (.iload_n 1) 1) (zQ pc 76 .iastore 1)) (zH pc 78 (zQ pc 77 (.aload_n 0) 1) (zQ pc 78 (.getfield 38) 3))) (zH pc 85 (zH pc 82 (zQ pc 81 (.aload_n 0) 1) (zQ pc 82 (.getfield 216) 3)) (zH pc 86 (zQ pc 85 (.iload_n 2) 1) (zQ pc 86 .iastore 1))))) (zH pc 99 (zH pc 95 (zH pc 91 (zH pc 88 (zQ pc 87 (.aload_n 0) 1) (zQ pc 88 (.getfield 41) 3)) (zH pc 92 (zQ pc 91 (.aload_n 0) 1) (zQ pc 92 (.getfield 216) 3))) (zH pc 97 (zH pc 96 (zQ pc 95 (.iload_n 3) 1) (zQ pc 96 .iastore 1)) (zH pc 98 (zQ pc 97 (.aload_n 0) 1) (zQ pc 98 .dup 1)))) (zH pc 107 (zH pc 103 (zH pc 102 (zQ pc 99 (.getfield 216) 3) (zQ pc 102 (.iconst 1) 1)) (zH pc 104 (zQ pc 103 .iadd 1) (zQ pc 104 (.putfield 216) 3))) (zH pc 111 (zH pc 108 (zQ pc 107 (.aload_n 0) 1) (zQ pc 108 (.getfield 216) 3)) (zH pc 112 (zQ pc 111 (.iconst 1) 1) (zH pc 113 (zQ pc 112 .isub 1) (zQ pc 113 .ireturn 1))))))))
def zc_146 (pc : Nat) : Option (Instr × Nat) := (zH pc 14 (zH pc 6 (zH pc 2 (zH pc 1 (zQ pc 0 (.aload_n 0) 1) (zQ pc 1 (.iconst 0) 1)) (zH pc 5 (zQ pc 2 (.putfield 201) 3) (zQ pc 5 (.aload_n 0) 1))) (zH pc 10 (zH pc 7 (zQ pc 6 (.iload_n 1) 1) (zQ pc 7 (.invokevirtual 208) 3)) (zH pc 13 (zQ pc 10 (.ifCond .ne 5) 3) (zQ pc 13 (.iconst 0) 1)))) (zH pc 20 (zH pc 16 (zH pc 15 (zQ pc 14 .ireturn 1) (zQ pc 15 (.aload_n 0) 1)) (zH pc 19 (zQ pc 16 (.getfield 28) 3) (zQ pc 19 (.iload_n 1) 1))) (zH pc 22 (zH pc 21 (zQ pc 20 (.iload_n 2) 1) (zQ pc 21 .bastore 1)) (zH pc 23 (zQ pc 22 (.iconst 1) 1) (zQ pc 23 .ireturn 1)))))
def zc_147 (pc : Nat) : Option (Instr × Nat) := (zH pc 14 (zH pc 6 (zH pc 2 (zH pc 1 (zQ pc 0 (.aload_n 0) 1) (zQ pc 1 (.iconst 0) 1)) (zH pc 5 (zQ pc 2 (.putfield 201) 3) (zQ pc 5 (.aload_n 0) 1))) (zH pc 10 (zH pc 7 (zQ pc 6 (.iload_n 1) 1) (zQ pc 7 (.invokevirtual 208) 3)) (zH pc 13 (zQ pc 10 (.ifCond .ne 5) 3) (zQ pc 13 (.iconst 0) 1)))) (zH pc 20 (zH pc 16 (zH pc 15 (zQ pc 14 .ireturn 1) (zQ pc 15 (.aload_n 0) 1)) (zH pc 19 (zQ pc 16 (.getfield 32) 3) (zQ pc 19 (.iload_n 1) 1))) (zH pc 22 (zH pc 21 (zQ pc 20 (.iload_n 2) 1) (zQ pc 21 .bastore 1)) (zH pc 23 (zQ pc 22 (.iconst 1) 1) (zQ pc 23 .ireturn 1)))))
def zc_148 (pc : Nat) : Option (Instr × Nat) := (zH pc 15 (zH pc 6 (zH pc 4 (zH pc 1 (zQ pc 0 (.aload_n 0) 1) (zQ pc 1 (.getfield 25) 3)) (zH pc 5 (zQ pc 4 (.iload_n 1) 1) (zQ pc 5 .iaload 1))) (zH pc 10 (zH pc 9 (zQ pc 6 (.ifCond .ge 25) 3) (zQ pc 9 (.aload_n 0) 1)) (zH pc 13 (zQ pc 10 (.getfield 28) 3) (zH pc 14 (zQ pc 13 (.iload_n 1) 1) (zQ pc 14 .baload 1))))) (zH pc 24 (zH pc 19 (zH pc 18 (zQ pc 15 (.ifCond .ne 16) 3) (zQ pc 18 (.aload_n 0) 1)) (zH pc 22 (zQ pc 19 (.getfield 74) 3) (zH pc 23 (zQ pc 22 (.iload_n 1) 1) (zQ pc 23 .baload 1)))) (zH pc 28 (zH pc 27 (zQ pc 24 (.ifCond .ne 7) 3) (zQ pc 27 (.iconst 1) 1)) (zH pc 31 (zQ pc 28 (.goto 4) 3) (zH pc 32 (zQ pc 31 (.iconst 0) 1) (zQ pc 32 .ireturn 1))))))
def zc_149 (pc : Nat) : Option (Instr × Nat) := (zH pc 13 (zH pc 5 (zH pc 1 (zQ pc 0 (.aload_n 0) 1) (zH pc 4 (zQ pc 1 (.getfield 44) 3) (zQ pc 4 (.iload_n 1) 1))) (zH pc 9 (zH pc 6 (zQ pc 5 .iaload 1) (zQ pc 6 (.ifCond .ne 16) 3)) (zH pc 10 (zQ pc 9 (.aload_n 0) 1) (zQ pc 10 (.getfield 77) 3)))) (zH pc 18 (zH pc 14 (zQ pc 13 (.iload_n 1) 1) (zH pc 15 (zQ pc 14 .baload 1) (zQ pc 15 (.ifCond .ne 7) 3))) (zH pc 22 (zH pc 19 (zQ pc 18 (.iconst 1) 1) (zQ pc 19 (.goto 4) 3)) (zH pc 23 (zQ pc 22 (.iconst 0) 1) (zQ pc 23 .ireturn 1)))))
def zc_150 (pc : Nat) : Option (Instr × Nat) := (zH pc 18 (zH pc 8 (zH pc 3 (zH pc 1 (zQ pc 0 (.iconst 0) 1) (zH pc 2 (zQ pc 1 (.istore_n 2) 1) (zQ pc 2 (.iload_n 2) 1))) (zH pc 4 (zQ pc 3 (.aload_n 0) 1) (zH pc 7 (zQ pc 4 (.getfield 13) 3) (zQ pc 7 (.iload_n 1) 1)))) (zH pc 13 (zH pc 9 (zQ pc 8 .iaload 1) (zH pc 12 (zQ pc 9 (.if_icmp .ge 29) 3) (zQ pc 12 (.aload_n 0) 1))) (zH pc 16 (zH pc 15 (zQ pc 13 (.bipush 8) 2) (zQ pc 15 (.iload_n 1) 1)) (zH pc 17 (zQ pc 16 .imul 1) (zQ pc 17 (.iload_n 2) 1))))) (zH pc 29 (zH pc 25 (zH pc 19 (zQ pc 18 .iadd 1) (zH pc 22 (zQ pc 19 (.invokevirtual 238) 3) (zQ pc 22 (.ifCond .eq 10) 3))) (zH pc 27 (zQ pc 25 (.bipush 8) 2) (zH pc 28 (zQ pc 27 (.iload_n 1) 1) (zQ pc 28 .imul 1)))) (zH pc 32 (zH pc 30 (zQ pc 29 (.iload_n 2) 1) (zH pc 31 (zQ pc 30 .iadd 1) (zQ pc 31 .ireturn 1))) (zH pc 38 (zH pc 35 (zQ pc 32 (.iinc 2 1) 3) (zQ pc 35 (.goto (-33)) 3)) (zH pc 39 (zQ pc 38 (.iconst (-1)) 1) (zQ pc 39 .ireturn 1))))))
def zc_151 (pc : Nat) : Option (Instr × Nat) := (zH pc 34 (zH pc 17 (zH pc 6 (zH pc 3 (zH pc 1 (zQ pc 0 (.iload_n 1) 1) (zQ pc 1 (.bipush 8) 2)) (zH pc 4 (zQ pc 3 .idiv 1) (zH pc 5 (zQ pc 4 (.istore_n 3) 1) (zQ pc 5 (.iconst 0) 1)))) (zH pc 11 (zH pc 8 (zQ pc 6 (.istore 4) 2) (zH pc 9 (zQ pc 8 (.iconst 0) 1) (zQ pc 9 (.istore 5) 2))) (zH pc 13 (zQ pc 11 (.iload 5) 2) (zH pc 14 (zQ pc 13 (.iconst 4) 1) (zQ pc 14 (.if_icmp .ge 57) 3))))) (zH pc 26 (zH pc 22 (zH pc 18 (zQ pc 17 (.aload_n 0) 1) (zH pc 21 (zQ pc 18 (.getfield 19) 3) (zQ pc 21 (.iload_n 3) 1))) (zH pc 23 (zQ pc 22 (.iload_n 1) 1) (zH pc 25 (zQ pc 23 (.bipush 8) 2) (zQ pc 25 .irem 1)))) (zH pc 31 (zH pc 27 (zQ pc 26 (.aload_n 0) 1) (zH pc 30 (zQ pc 27 (.getfield 16) 3) (zQ pc 30 (.iload_n 3) 1))) (zH pc 32 (zQ pc 31 .iaload 1) (zH pc 33 (zQ pc 32 .irem 1) (zQ pc 33 (.iload_n 2) 1)))))) (zH pc 56 (zH pc 44 (zH pc 39 (zH pc 36 (zQ pc 34 (.iload 5) 2) (zQ pc 36 (.invokestatic 230) 3)) (zH pc 40 (zQ pc 39 .iaload 1) (zH pc 42 (zQ pc 40 (.istore 6) 2) (zQ pc 42 (.iload 6) 2)))) (zH pc 51 (zH pc 47 (zQ pc 44 (.ifCond .ge 6) 3) (zH pc 50 (zQ pc 47 (.goto 18) 3) (zQ pc 50 (.iconst 1) 1))) (zH pc 53 (zQ pc 51 (.istore 4) 2) (zH pc 54 (zQ pc 53 (.aload_n 0) 1) (zQ pc 54 (.iload 6) 2))))) (zH pc 71 (zH pc 64 (zH pc 59 (zQ pc 56 (.invokevirtual 238) 3) (zH pc 62 (zQ pc 59 (.ifCond .eq 6) 3) (zQ pc 62 (.iload 6) 2))) (zH pc 65 (zQ pc 64 .ireturn 1) (zH pc 68 (zQ pc 65 (.iinc 5 1) 3) (zQ pc 68 (.goto (-57)) 3)))) (zH pc 77 (zH pc 73 (zQ pc 71 (.iload 4) 2) (zH pc 76 (zQ pc 73 (.ifCond .eq 7) 3) (zQ pc 76 (.iconst (-1)) 1))) (zH pc 80 (zQ pc 77 (.goto 5) 3) (zH pc 82 (zQ pc 80 (.bipush (-2)) 2) (zQ pc 82 .ireturn 1)))))))
def zc_152 (pc : Nat) : Option (Instr × Nat) := (zH pc 20 (zH pc 8 (zH pc 5 (zH pc 1 (zQ pc 0 (.aload_n 0) 1) (zH pc 4 (zQ pc 1 (.getfield 25) 3) (zQ pc 4 (.iload_n 2) 1))) (zH pc 6 (zQ pc 5 (.iload_n 1) 1) (zH pc 7 (zQ pc 6 .iastore 1) (zQ pc 7 (.aload_n 0) 1)))) (zH pc 14 (zH pc 11 (zQ pc 8 (.getfield 71) 3) (zH pc 13 (zQ pc 11 (.bipush 120) 2) (zQ pc 13 (.iload_n 1) 1))) (zH pc 16 (zH pc 15 (zQ pc 14 .imul 1) (zQ pc 15 (.aload_n 0) 1)) (zH pc 19 (zQ pc 16 (.getfield 68) 3) (zQ pc 19 (.iload_n 1) 1))))) (zH pc 28 (zH pc 23 (zH pc 21 (zQ pc 20 .iaload 1) (zH pc 22 (zQ pc 21 .iadd 1) (zQ pc 22 (.iload_n 2) 1))) (zH pc 24 (zQ pc 23 .iastore 1) (zH pc 25 (zQ pc 24 (.aload_n 0) 1) (zQ pc 25 (.getfield 68) 3)))) (zH pc 31 (zH pc 29 (zQ pc 28 (.iload_n 1) 1) (zH pc 30 (zQ pc 29 .dup2 1) (zQ pc 30 .iaload 1))) (zH pc 33 (zH pc 32 (zQ pc 31 (.iconst 1) 1) (zQ pc 32 .iadd 1)) (zH pc 34 (zQ pc 33 .iastore 1) (zQ pc 34 .return_ 1))))))
def zc_153 (pc : Nat) : Option (Instr × Nat) := (zH pc 61 (zH pc 31 (zH pc 17 (zH pc 6 (zH pc 2 (zH pc 1 (zQ pc 0 (.aload_n 0) 1) (zQ pc 1 (.iconst 0) 1)) (zH pc 5 (zQ pc 2 (.putfield 201) 3) (zQ pc 5 (.aload_n 0) 1))) (zH pc 10 (zH pc 7 (zQ pc 6 (.iload_n 1) 1) (zQ pc 7 (.invokevirtual 241) 3)) (zH pc 13 (zQ pc 10 (.ifCond .eq 12) 3) (zH pc 14 (zQ pc 13 (.aload_n 0) 1) (zQ pc 14 (.getfield 44) 3))))) (zH pc 24 (zH pc 19 (zH pc 18 (zQ pc 17 (.iload_n 1) 1) (zQ pc 18 .iaload 1)) (zH pc 22 (zQ pc 19 (.ifCond .eq 5) 3) (zH pc 23 (zQ pc 22 (.iconst (-1)) 1) (zQ pc 23 .ireturn 1)))) (zH pc 26 (zH pc 25 (zQ pc 24 (.aload_n 0) 1) (zQ pc 25 (.aload_n 0) 1)) (zH pc 29 (zQ pc 26 (.getfield 35) 3) (zH pc 30 (zQ pc 29 (.iload_n 1) 1) (zQ pc 30 .iaload 1)))))) (zH pc 47 (zH pc 39 (zH pc 35 (zH pc 34 (zQ pc 31 (.invokevirtual 244) 3) (zQ pc 34 (.istore_n 2) 1)) (zH pc 36 (zQ pc 35 (.iload_n 2) 1) (zQ pc 36 (.ifCond .ge 6) 3))) (zH pc 42 (zH pc 41 (zQ pc 39 (.bipush 7) 2) (zQ pc 41 .ireturn 1)) (zH pc 43 (zQ pc 42 (.aload_n 0) 1) (zH pc 46 (zQ pc 43 (.getfield 44) 3) (zQ pc 46 (.iload_n 1) 1))))) (zH pc 54 (zH pc 49 (zH pc 48 (zQ pc 47 (.iconst 1) 1) (zQ pc 48 .iastore 1)) (zH pc 50 (zQ pc 49 (.aload_n 0) 1) (zH pc 53 (zQ pc 50 (.getfield 68) 3) (zQ pc 53 (.iload_n 1) 1)))) (zH pc 56 (zH pc 55 (zQ pc 54 (.iconst 0) 1) (zQ pc 55 .iastore 1)) (zH pc 57 (zQ pc 56 (.aload_n 0) 1) (zH pc 60 (zQ pc 57 (.getfield 53) 3) (zQ pc 60 (.iload_n 1) 1))))))) (zH pc 86 (zH pc 74 (zH pc 67 (zH pc 63 (zH pc 62 (zQ pc 61 (.iconst 0) 1) (zQ pc 62 .iastore 1)) (zH pc 64 (zQ pc 63 (.aload_n 0) 1) (zQ pc 64 (.getfield 59) 3))) (zH pc 69 (zH pc 68 (zQ pc 67 (.iload_n 1) 1) (zQ pc 68 (.iconst 0) 1)) (zH pc 70 (zQ pc 69 .iastore 1) (zH pc 71 (zQ pc 70 (.aload_n 0) 1) (zQ pc 71 (.getfield 50) 3))))) (zH pc 81 (zH pc 76 (zH pc 75 (zQ pc 74 (.iload_n 1) 1) (zQ pc 75 (.iconst (-1)) 1)) (zH pc 77 (zQ pc 76 .iastore 1) (zH pc 78 (zQ pc 77 (.aload_n 0) 1) (zQ pc 78 (.getfield 65) 3)))) (zH pc 83 (zH pc 82 (zQ pc 81 (.iload_n 1) 1) (zQ pc 82 (.iconst (-1)) 1)) (zH pc 84 (zQ pc 83 .iastore 1) (zH pc 85 (zQ pc 84 (.aload_n 0) 1) (zQ pc 85 (.iload_n 1) 1)))))) (zH pc 101 (zH pc 94 (zH pc 90 (zH pc 87 (zQ pc 86 (.iload_n 2) 1) (zQ pc 87 (.invokevirtual 248) 3)) (zH pc 91 (zQ pc 90 (.aload_n 0) 1) (zQ pc 91 (.getfield 47) 3))) (zH pc 96 (zH pc 95 (zQ pc 94 (.iload_n 1) 1) (zQ pc 95 (.aload_n 0) 1)) (zH pc 99 (zQ pc 96 (.getfield 32) 3) (zH pc 100 (zQ pc 99 (.iload_n 2) 1) (zQ pc 100 .baload 1))))) (zH pc 110 (zH pc 105 (zH pc 104 (zQ pc 101 (.ifCond .eq 7) 3) (zQ pc 104 (.iconst 2) 1)) (zH pc 108 (zQ pc 105 (.goto 4) 3) (zH pc 109 (zQ pc 108 (.iconst 0) 1) (zQ pc 109 .iastore 1)))) (zH pc 114 (zH pc 111 (zQ pc 110 (.aload_n 0) 1) (zQ pc 111 (.getfield 47) 3)) (zH pc 115 (zQ pc 114 (.iload_n 1) 1) (zH pc 116 (zQ pc 115 .iaload 1) (zQ pc 116 .ireturn 1))))))))
def zc_154 (pc : Nat) : Option (Instr × Nat) := (zH pc 12 (zH pc 6 (zH pc 1 (zQ pc 0 (.aload_n 0) 1) (zH pc 4 (zQ pc 1 (.getfield 71) 3) (zQ pc 4 (.bipush 120) 2))) (zH pc 8 (zH pc 7 (zQ pc 6 (.iload_n 1) 1) (zQ pc 7 .imul 1)) (zH pc 9 (zQ pc 8 (.aload_n 0) 1) (zQ pc 9 (.getfield 68) 3)))) (zH pc 15 (zH pc 13 (zQ pc 12 (.iload_n 1) 1) (zH pc 14 (zQ pc 13 .iaload 1) (zQ pc 14 .iadd 1))) (zH pc 17 (zH pc 16 (zQ pc 15 (.iconst 1) 1) (zQ pc 16 .isub 1)) (zH pc 18 (zQ pc 17 .iaload 1) (zQ pc 18 .ireturn 1)))))
def zc_155 (pc : Nat) : Option (Instr × Nat) := (zH pc 13 (zH pc 6 (zH pc 1 (zQ pc 0 (.iload_n 1) 1) (zH pc 3 (zQ pc 1 (.bipush 100) 2) (zQ pc 3 (.if_icmp .ge 16) 3))) (zH pc 10 (zH pc 7 (zQ pc 6 (.aload_n 0) 1) (zQ pc 7 (.getfield 7) 3)) (zH pc 11 (zQ pc 10 (.iload_n 1) 1) (zQ pc 11 (.bipush 8) 2)))) (zH pc 19 (zH pc 15 (zH pc 14 (zQ pc 13 .idiv 1) (zQ pc 14 .iaload 1)) (zH pc 16 (zQ pc 15 (.iconst 1) 1) (zQ pc 16 (.if_icmp .ne 7) 3))) (zH pc 23 (zH pc 20 (zQ pc 19 (.iconst 1) 1) (zQ pc 20 (.goto 4) 3)) (zH pc 24 (zQ pc 23 (.iconst 0) 1) (zQ pc 24 .ireturn 1)))))
def zc_156 (pc : Nat) : Option (Instr × Nat) := (zH pc 171 (zH pc 82 (zH pc 42 (zH pc 20 (zH pc 10 (zH pc 5 (zH pc 1 (zQ pc 0 (.aload_n 0) 1) (zH pc 2 (zQ pc 1 (.iconst 0) 1) (zQ pc 2 (.putfield 201) 3))) (zH pc 6 (zQ pc 5 (.aload_n 0) 1) (zH pc 7 (zQ pc 6 (.iload_n 1) 1) (zQ pc 7 (.invokevirtual 241) 3)))) (zH pc 17 (zH pc 13 (zQ pc 10 (.ifCond .eq 23) 3) (zH pc 14 (zQ pc 13 (.aload_n 0) 1) (zQ pc 14 (.getfield 44) 3))) (zH pc 18 (zQ pc 17 (.iload_n 1) 1) (zH pc 19 (zQ pc 18 .iaload 1) (zQ pc 19 (.iconst 1) 1))))) (zH pc 33 (zH pc 25 (zH pc 23 (zQ pc 20 (.if_icmp .ne 13) 3) (zH pc 24 (zQ pc 23 (.iload_n 2) 1) (zQ pc 24 (.iconst 0) 1))) (zH pc 27 (zQ pc 25 (.bipush 9) 2) (zH pc 30 (zQ pc 27 (.invokestatic 212) 3) (zQ pc 30 (.ifCond .ne 5) 3)))) (zH pc 36 (zH pc 34 (zQ pc 33 (.iconst (-1)) 1) (zH pc 35 (zQ pc 34 .ireturn 1) (zQ pc 35 (.aload_n 0) 1))) (zH pc 40 (zH pc 39 (zQ pc 36 (.getfield 47) 3) (zQ pc 39 (.iload_n 1) 1)) (zH pc 41 (zQ pc 40 .iaload 1) (zQ pc 41 (.iconst 1) 1)))))) (zH pc 63 (zH pc 52 (zH pc 49 (zH pc 45 (zQ pc 42 (.if_icmp .le 10) 3) (zH pc 46 (zQ pc 45 (.aload_n 0) 1) (zQ pc 46 (.getfield 47) 3))) (zH pc 50 (zQ pc 49 (.iload_n 1) 1) (zH pc 51 (zQ pc 50 .iaload 1) (zQ pc 51 .ireturn 1)))) (zH pc 57 (zH pc 53 (zQ pc 52 (.aload_n 0) 1) (zH pc 56 (zQ pc 53 (.getfield 53) 3) (zQ pc 56 (.iload_n 1) 1))) (zH pc 59 (zH pc 58 (zQ pc 57 .iaload 1) (zQ pc 58 (.iconst 5) 1)) (zH pc 62 (zQ pc 59 (.if_icmp .ge 19) 3) (zQ pc 62 (.aload_n 0) 1))))) (zH pc 73 (zH pc 68 (zH pc 66 (zQ pc 63 (.getfield 56) 3) (zH pc 67 (zQ pc 66 (.iconst 5) 1) (zQ pc 67 (.iload_n 1) 1))) (zH pc 69 (zQ pc 68 .imul 1) (zH pc 70 (zQ pc 69 (.aload_n 0) 1) (zQ pc 70 (.getfield 53) 3)))) (zH pc 76 (zH pc 74 (zQ pc 73 (.iload_n 1) 1) (zH pc 75 (zQ pc 74 .iaload 1) (zQ pc 75 .iadd 1))) (zH pc 78 (zH pc 77 (zQ pc 76 (.iload_n 2) 1) (zQ pc 77 .iastore 1)) (zH pc 79 (zQ pc 78 (.aload_n 0) 1) (zQ pc 79 (.getfield 53) 3))))))) (zH pc 123 (zH pc 99 (zH pc 88 (zH pc 85 (zH pc 83 (zQ pc 82 (.iload_n 1) 1) (zH pc 84 (zQ pc 83 .dup2 1) (zQ pc 84 .iaload 1))) (zH pc 86 (zQ pc 85 (.iconst 1) 1) (zH pc 87 (zQ pc 86 .iadd 1) (zQ pc 87 .iastore 1)))) (zH pc 93 (zH pc 89 (zQ pc 88 (.aload_n 0) 1) (zH pc 90 (zQ pc 89 (.iload_n 1) 1) (zQ pc 90 (.invokevirtual 252) 3))) (zH pc 95 (zH pc 94 (zQ pc 93 (.istore_n 3) 1) (zQ pc 94 (.aload_n 0) 1)) (zH pc 96 (zQ pc 95 (.iload_n 3) 1) (zQ pc 96 (.invokevirtual 255) 3))))) (zH pc 110 (zH pc 104 (zH pc 102 (zQ pc 99 (.ifCond .ne 72) 3) (zH pc 103 (zQ pc 102 (.aload_n 0) 1) (zQ pc 103 (.iload_n 3) 1))) (zH pc 105 (zQ pc 104 (.iload_n 2) 1) (zH pc 108 (zQ pc 105 (.invokevirtual 258) 3) (zQ pc 108 (.istore 4) 2)))) (zH pc 116 (zH pc 112 (zQ pc 110 (.iload 4) 2) (zH pc 115 (zQ pc 112 (.ifCond .lt 10) 3) (zQ pc 115 (.aload_n 0) 1))) (zH pc 119 (zH pc 117 (zQ pc 116 (.iload_n 1) 1) (zQ pc 117 (.iload 4) 2)) (zH pc 122 (zQ pc 119 (.invokevirtual 248) 3) (zQ pc 122 (.aload_n 0) 1)))))) (zH pc 149 (zH pc 134 (zH pc 129 (zH pc 126 (zQ pc 123 (.getfield 47) 3) (zH pc 127 (zQ pc 126 (.iload_n 1) 1) (zQ pc 127 (.iload 4) 2))) (zH pc 130 (zQ pc 129 (.iconst (-1)) 1) (zH pc 133 (zQ pc 130 (.if_icmp .ne 7) 3) (zQ pc 133 (.iconst 3) 1)))) (zH pc 141 (zH pc 137 (zQ pc 134 (.goto 29) 3) (zH pc 139 (zQ pc 137 (.iload 4) 2) (zQ pc 139 (.bipush (-2)) 2))) (zH pc 145 (zH pc 144 (zQ pc 141 (.if_icmp .ne 7) 3) (zQ pc 144 (.iconst 4) 1)) (zH pc 148 (zQ pc 145 (.goto 18) 3) (zQ pc 148 (.aload_n 0) 1))))) (zH pc 162 (zH pc 155 (zH pc 152 (zQ pc 149 (.getfield 32) 3) (zH pc 154 (zQ pc 152 (.iload 4) 2) (zQ pc 154 .baload 1))) (zH pc 158 (zQ pc 155 (.ifCond .eq 7) 3) (zH pc 159 (zQ pc 158 (.iconst 2) 1) (zQ pc 159 (.goto 4) 3)))) (zH pc 165 (zH pc 163 (zQ pc 162 (.iconst 1) 1) (zH pc 164 (zQ pc 163 .iastore 1) (zQ pc 164 (.aload_n 0) 1))) (zH pc 169 (zH pc 168 (zQ pc 165 (.getfield 47) 3) (zQ pc 168 (.iload_n 1) 1)) (zH pc 170 (zQ pc 169 .iaload 1) (zQ pc 170 .ireturn 1)))))))) (zH pc 248 (zH pc 208 (zH pc 188 (zH pc 179 (zH pc 176 (zH pc 172 (zQ pc 171 (.aload_n 0) 1) (zH pc 175 (zQ pc 172 (.getfield 59) 3) (zQ pc 175 (.iload_n 1) 1))) (zH pc 177 (zQ pc 176 .dup2 1) (zH pc 178 (zQ pc 177 .iaload 1) (zQ pc 178 (.iconst 1) 1)))) (zH pc 182 (zH pc 180 (zQ pc 179 .iadd 1) (zH pc 181 (zQ pc 180 .iastore 1) (zQ pc 181 (.aload_n 0) 1))) (zH pc 186 (zH pc 185 (zQ pc 182 (.getfield 59) 3) (zQ pc 185 (.iload_n 1) 1)) (zH pc 187 (zQ pc 186 .iaload 1) (zQ pc 187 (.iconst 1) 1))))) (zH pc 198 (zH pc 195 (zH pc 191 (zQ pc 188 (.if_icmp .ne 10) 3) (zH pc 192 (zQ pc 191 (.aload_n 0) 1) (zQ pc 192 (.getfield 62) 3))) (zH pc 196 (zQ pc 195 (.iload_n 1) 1) (zH pc 197 (zQ pc 196 (.iload_n 2) 1) (zQ pc 197 .iastore 1)))) (zH pc 203 (zH pc 199 (zQ pc 198 (.aload_n 0) 1) (zH pc 202 (zQ pc 199 (.getfield 47) 3) (zQ pc 202 (.iload_n 1) 1))) (zH pc 205 (zH pc 204 (zQ pc 203 (.iconst 1) 1) (zQ pc 204 .iastore 1)) (zH pc 206 (zQ pc 205 (.iload_n 3) 1) (zQ pc 206 (.bipush 100) 2)))))) (zH pc 229 (zH pc 218 (zH pc 215 (zH pc 211 (zQ pc 208 (.if_icmp .lt 27) 3) (zH pc 212 (zQ pc 211 (.aload_n 0) 1) (zQ pc 212 (.getfield 59) 3))) (zH pc 216 (zQ pc 215 (.iload_n 1) 1) (zH pc 217 (zQ pc 216 .iaload 1) (zQ pc 217 (.iconst 3) 1)))) (zH pc 225 (zH pc 221 (zQ pc 218 (.if_icmp .ne 10) 3) (zH pc 222 (zQ pc 221 (.aload_n 0) 1) (zQ pc 222 (.getfield 47) 3))) (zH pc 227 (zH pc 226 (zQ pc 225 (.iload_n 1) 1) (zQ pc 226 (.iconst 5) 1)) (zH pc 228 (zQ pc 227 .iastore 1) (zQ pc 228 (.aload_n 0) 1))))) (zH pc 239 (zH pc 234 (zH pc 232 (zQ pc 229 (.getfield 47) 3) (zH pc 233 (zQ pc 232 (.iload_n 1) 1) (zQ pc 233 .iaload 1))) (zH pc 235 (zQ pc 234 .ireturn 1) (zH pc 236 (zQ pc 235 (.aload_n 0) 1) (zQ pc 236 (.getfield 59) 3)))) (zH pc 242 (zH pc 240 (zQ pc 239 (.iload_n 1) 1) (zH pc 241 (zQ pc 240 .iaload 1) (zQ pc 241 (.iconst 2) 1))) (zH pc 246 (zH pc 245 (zQ pc 242 (.if_icmp .ge 5) 3) (zQ pc 245 (.iconst 1) 1)) (zH pc 247 (zQ pc 246 .ireturn 1) (zQ pc 247 (.aload_n 0) 1))))))) (zH pc 293 (zH pc 268 (zH pc 258 (zH pc 252 (zH pc 249 (zQ pc 248 (.iload_n 3) 1) (zH pc 251 (zQ pc 249 (.bipush 8) 2) (zQ pc 251 .idiv 1))) (zH pc 254 (zQ pc 252 (.bipush 10) 2) (zH pc 255 (zQ pc 254 (.aload_n 0) 1) (zQ pc 255 (.getfield 62) 3)))) (zH pc 261 (zH pc 259 (zQ pc 258 (.iload_n 1) 1) (zH pc 260 (zQ pc 259 .iaload 1) (zQ pc 260 .imul 1))) (zH pc 263 (zH pc 262 (zQ pc 261 (.iload_n 2) 1) (zQ pc 262 .iadd 1)) (zH pc 266 (zQ pc 263 (.invokevirtual 234) 3) (zQ pc 266 (.istore 4) 2))))) (zH pc 279 (zH pc 273 (zH pc 269 (zQ pc 268 (.aload_n 0) 1) (zH pc 272 (zQ pc 269 (.getfield 47) 3) (zQ pc 272 (.iload_n 1) 1))) (zH pc 275 (zQ pc 273 (.iload 4) 2) (zH pc 278 (zQ pc 275 (.ifCond .ge 7) 3) (zQ pc 278 (.iconst 4) 1)))) (zH pc 286 (zH pc 282 (zQ pc 279 (.goto 18) 3) (zH pc 283 (zQ pc 282 (.aload_n 0) 1) (zQ pc 283 (.getfield 44) 3))) (zH pc 289 (zH pc 288 (zQ pc 286 (.iload 4) 2) (zQ pc 288 .iaload 1)) (zH pc 292 (zQ pc 289 (.ifCond .ne 7) 3) (zQ pc 292 (.iconst 5) 1)))))) (zH pc 314 (zH pc 303 (zH pc 298 (zH pc 296 (zQ pc 293 (.goto 4) 3) (zH pc 297 (zQ pc 296 (.iconst 3) 1) (zQ pc 297 .iastore 1))) (zH pc 299 (zQ pc 298 (.aload_n 0) 1) (zH pc 302 (zQ pc 299 (.getfield 47) 3) (zQ pc 302 (.iload_n 1) 1)))) (zH pc 308 (zH pc 304 (zQ pc 303 .iaload 1) (zH pc 305 (zQ pc 304 (.iconst 5) 1) (zQ pc 305 (.if_icmp .eq 10) 3))) (zH pc 312 (zH pc 309 (zQ pc 308 (.aload_n 0) 1) (zQ pc 309 (.getfield 47) 3)) (zH pc 313 (zQ pc 312 (.iload_n 1) 1) (zQ pc 313 .iaload 1))))) (zH pc 323 (zH pc 319 (zH pc 315 (zQ pc 314 .ireturn 1) (zH pc 316 (zQ pc 315 (.aload_n 0) 1) (zQ pc 316 (.getfield 50) 3))) (zH pc 320 (zQ pc 319 (.iload_n 1) 1) (zH pc 322 (zQ pc 320 (.iload 4) 2) (zQ pc 322 .iastore 1)))) (zH pc 329 (zH pc 324 (zQ pc 323 (.aload_n 0) 1) (zH pc 327 (zQ pc 324 (.getfield 44) 3) (zQ pc 327 (.iload 4) 2))) (zH pc 331 (zH pc 330 (zQ pc 329 (.iconst 2) 1) (zQ pc 330 .iastore 1)) (zH pc 332 (zQ pc 331 (.iconst 5) 1) (zQ pc 332 .ireturn 1)))))))))
def zc_157 (pc : Nat) : Option (Instr × Nat) := (zH pc 29 (zH pc 14 (zH pc 6 (zH pc 2 (zH pc 1 (zQ pc 0 (.aload_n 0) 1) (zQ pc 1 (.iconst 0) 1)) (zH pc 5 (zQ pc 2 (.putfield 201) 3) (zQ pc 5 (.aload_n 0) 1))) (zH pc 10 (zH pc 7 (zQ pc 6 (.iload_n 1) 1) (zQ pc 7 (.invokevirtual 241) 3)) (zH pc 13 (zQ pc 10 (.ifCond .eq 23) 3) (zQ pc 13 (.aload_n 0) 1)))) (zH pc 20 (zH pc 18 (zH pc 17 (zQ pc 14 (.getfield 44) 3) (zQ pc 17 (.iload_n 1) 1)) (zH pc 19 (zQ pc 18 .iaload 1) (zQ pc 19 (.iconst 1) 1))) (zH pc 24 (zH pc 23 (zQ pc 20 (.if_icmp .ne 13) 3) (zQ pc 23 (.aload_n 0) 1)) (zH pc 27 (zQ pc 24 (.getfield 47) 3) (zH pc 28 (zQ pc 27 (.iload_n 1) 1) (zQ pc 28 .iaload 1)))))) (zH pc 42 (zH pc 35 (zH pc 33 (zH pc 30 (zQ pc 29 (.iconst 5) 1) (zQ pc 30 (.if_icmp .eq 5) 3)) (zH pc 34 (zQ pc 33 (.iconst 0) 1) (zQ pc 34 .ireturn 1))) (zH pc 39 (zH pc 36 (zQ pc 35 (.aload_n 0) 1) (zQ pc 36 (.getfield 47) 3)) (zH pc 40 (zQ pc 39 (.iload_n 1) 1) (zQ pc 40 (.bipush 6) 2)))) (zH pc 48 (zH pc 44 (zH pc 43 (zQ pc 42 .iastore 1) (zQ pc 43 (.aload_n 0) 1)) (zH pc 47 (zQ pc 44 (.getfield 65) 3) (zQ pc 47 (.iload_n 1) 1))) (zH pc 52 (zH pc 49 (zQ pc 48 (.aload_n 0) 1) (zQ pc 49 (.getfield 220) 3)) (zH pc 53 (zQ pc 52 .iastore 1) (zH pc 54 (zQ pc 53 (.iconst 1) 1) (zQ pc 54 .ireturn 1)))))))
def zc_158 (pc : Nat) : Option (Instr × Nat) := (zH pc 101 (zH pc 48 (zH pc 24 (zH pc 13 (zH pc 5 (zH pc 1 (zQ pc 0 (.aload_n 0) 1) (zH pc 2 (zQ pc 1 (.iconst 0) 1) (zQ pc 2 (.putfield 201) 3))) (zH pc 7 (zH pc 6 (zQ pc 5 (.aload_n 0) 1) (zQ pc 6 (.iload_n 1) 1)) (zH pc 10 (zQ pc 7 (.invokevirtual 241) 3) (zQ pc 10 (.ifCond .eq 13) 3)))) (zH pc 18 (zH pc 14 (zQ pc 13 (.aload_n 0) 1) (zH pc 17 (zQ pc 14 (.getfield 44) 3) (zQ pc 17 (.iload_n 1) 1))) (zH pc 20 (zH pc 19 (zQ pc 18 .iaload 1) (zQ pc 19 (.iconst 1) 1)) (zH pc 23 (zQ pc 20 (.if_icmp .eq 5) 3) (zQ pc 23 (.iconst (-1)) 1))))) (zH pc 33 (zH pc 27 (zH pc 25 (zQ pc 24 .ireturn 1) (zH pc 26 (zQ pc 25 (.iconst 0) 1) (zQ pc 26 (.istore_n 2) 1))) (zH pc 31 (zH pc 28 (zQ pc 27 (.aload_n 0) 1) (zQ pc 28 (.getfield 47) 3)) (zH pc 32 (zQ pc 31 (.iload_n 1) 1) (zQ pc 32 .iaload 1)))) (zH pc 40 (zH pc 38 (zH pc 35 (zQ pc 33 (.bipush 6) 2) (zQ pc 35 (.if_icmp .ne 85) 3)) (zH pc 39 (zQ pc 38 (.aload_n 0) 1) (zQ pc 39 (.iload_n 1) 1))) (zH pc 44 (zH pc 43 (zQ pc 40 (.invokevirtual 261) 3) (zQ pc 43 (.istore_n 2) 1)) (zH pc 45 (zQ pc 44 (.aload_n 0) 1) (zQ pc 45 (.getfield 264) 3)))))) (zH pc 74 (zH pc 63 (zH pc 55 (zH pc 51 (zQ pc 48 (.sipush 200) 3) (zH pc 54 (zQ pc 51 (.if_icmp .ge 69) 3) (zQ pc 54 (.aload_n 0) 1))) (zH pc 59 (zH pc 58 (zQ pc 55 (.getfield 80) 3) (zQ pc 58 (.aload_n 0) 1)) (zH pc 62 (zQ pc 59 (.getfield 264) 3) (zQ pc 62 (.iload_n 1) 1)))) (zH pc 68 (zH pc 64 (zQ pc 63 .iastore 1) (zH pc 65 (zQ pc 64 (.aload_n 0) 1) (zQ pc 65 (.getfield 83) 3))) (zH pc 72 (zH pc 69 (zQ pc 68 (.aload_n 0) 1) (zQ pc 69 (.getfield 264) 3)) (zH pc 73 (zQ pc 72 (.iload_n 2) 1) (zQ pc 73 .iastore 1))))) (zH pc 87 (zH pc 79 (zH pc 75 (zQ pc 74 (.aload_n 0) 1) (zH pc 78 (zQ pc 75 (.getfield 86) 3) (zQ pc 78 (.aload_n 0) 1))) (zH pc 83 (zH pc 82 (zQ pc 79 (.getfield 264) 3) (zQ pc 82 (.aload_n 0) 1)) (zH pc 86 (zQ pc 83 (.getfield 65) 3) (zQ pc 86 (.iload_n 1) 1)))) (zH pc 93 (zH pc 91 (zH pc 88 (zQ pc 87 .iaload 1) (zQ pc 88 (.ldc_w 267) 3)) (zH pc 92 (zQ pc 91 .idiv 1) (zQ pc 92 .iastore 1))) (zH pc 97 (zH pc 94 (zQ pc 93 (.aload_n 0) 1) (zQ pc 94 (.getfield 89) 3)) (zH pc 98 (zQ pc 97 (.aload_n 0) 1) (zQ pc 98 (.getfield 264) 3))))))) (zH pc 147 (zH pc 123 (zH pc 112 (zH pc 108 (zH pc 102 (zQ pc 101 (.aload_n 0) 1) (zH pc 105 (zQ pc 102 (.getfield 220) 3) (zQ pc 105 (.ldc_w 267) 3))) (zH pc 110 (zH pc 109 (zQ pc 108 .idiv 1) (zQ pc 109 .iastore 1)) (zH pc 111 (zQ pc 110 (.aload_n 0) 1) (zQ pc 111 .dup 1)))) (zH pc 117 (zH pc 115 (zQ pc 112 (.getfield 264) 3) (zH pc 116 (zQ pc 115 (.iconst 1) 1) (zQ pc 116 .iadd 1))) (zH pc 121 (zH pc 120 (zQ pc 117 (.putfield 264) 3) (zQ pc 120 (.iconst 0) 1)) (zH pc 122 (zQ pc 121 (.istore_n 3) 1) (zQ pc 122 (.iload_n 3) 1))))) (zH pc 136 (zH pc 128 (zH pc 124 (zQ pc 123 (.aload_n 0) 1) (zH pc 127 (zQ pc 124 (.getfield 68) 3) (zQ pc 127 (.iload_n 1) 1))) (zH pc 132 (zH pc 129 (zQ pc 128 .iaload 1) (zQ pc 129 (.if_icmp .ge 26) 3)) (zH pc 133 (zQ pc 132 (.aload_n 0) 1) (zQ pc 133 (.getfield 25) 3)))) (zH pc 143 (zH pc 140 (zH pc 137 (zQ pc 136 (.aload_n 0) 1) (zQ pc 137 (.getfield 71) 3)) (zH pc 142 (zQ pc 140 (.bipush 120) 2) (zQ pc 142 (.iload_n 1) 1))) (zH pc 145 (zH pc 144 (zQ pc 143 .imul 1) (zQ pc 144 (.iload_n 3) 1)) (zH pc 146 (zQ pc 145 .iadd 1) (zQ pc 146 .iaload 1)))))) (zH pc 171 (zH pc 160 (zH pc 152 (zH pc 148 (zQ pc 147 (.iconst (-1)) 1) (zH pc 149 (zQ pc 148 .iastore 1) (zQ pc 149 (.iinc 3 1) 3))) (zH pc 156 (zH pc 155 (zQ pc 152 (.goto (-30)) 3) (zQ pc 155 (.aload_n 0) 1)) (zH pc 159 (zQ pc 156 (.getfield 68) 3) (zQ pc 159 (.iload_n 1) 1)))) (zH pc 163 (zH pc 161 (zQ pc 160 (.iconst 0) 1) (zH pc 162 (zQ pc 161 .iastore 1) (zQ pc 162 (.aload_n 0) 1))) (zH pc 167 (zH pc 166 (zQ pc 163 (.getfield 50) 3) (zQ pc 166 (.iload_n 1) 1)) (zH pc 168 (zQ pc 167 .iaload 1) (zQ pc 168 (.ifCond .lt 15) 3))))) (zH pc 182 (zH pc 176 (zH pc 172 (zQ pc 171 (.aload_n 0) 1) (zH pc 175 (zQ pc 172 (.getfield 44) 3) (zQ pc 175 (.aload_n 0) 1))) (zH pc 180 (zH pc 179 (zQ pc 176 (.getfield 50) 3) (zQ pc 179 (.iload_n 1) 1)) (zH pc 181 (zQ pc 180 .iaload 1) (zQ pc 181 (.iconst 0) 1)))) (zH pc 188 (zH pc 184 (zH pc 183 (zQ pc 182 .iastore 1) (zQ pc 183 (.aload_n 0) 1)) (zH pc 187 (zQ pc 184 (.getfield 44) 3) (zQ pc 187 (.iload_n 1) 1))) (zH pc 190 (zH pc 189 (zQ pc 188 (.iconst 0) 1) (zQ pc 189 .iastore 1)) (zH pc 191 (zQ pc 190 (.iload_n 2) 1) (zQ pc 191 .ireturn 1))))))))
def zc_159 (pc : Nat) : Option (Instr × Nat) := (zH pc 47 (zH pc 20 (zH pc 8 (zH pc 5 (zH pc 1 (zQ pc 0 (.aload_n 0) 1) (zH pc 2 (zQ pc 1 (.iconst 0) 1) (zQ pc 2 (.putfield 201) 3))) (zH pc 6 (zQ pc 5 (.iload_n 1) 1) (zH pc 7 (zQ pc 6 (.iconst 0) 1) (zQ pc 7 (.aload_n 0) 1)))) (zH pc 13 (zH pc 11 (zQ pc 8 (.getfield 264) 3) (zH pc 12 (zQ pc 11 (.iconst 1) 1) (zQ pc 12 .isub 1))) (zH pc 16 (zQ pc 13 (.invokestatic 212) 3) (zH pc 19 (zQ pc 16 (.ifCond .eq 24) 3) (zQ pc 19 (.iload_n 2) 1))))) (zH pc 34 (zH pc 27 (zH pc 21 (zQ pc 20 (.iconst 0) 1) (zH pc 24 (zQ pc 21 (.sipush 9999) 3) (zQ pc 24 (.invokestatic 212) 3))) (zH pc 30 (zQ pc 27 (.ifCond .eq 13) 3) (zH pc 31 (zQ pc 30 (.aload_n 0) 1) (zQ pc 31 (.getfield 268) 3)))) (zH pc 41 (zH pc 37 (zQ pc 34 (.sipush 200) 3) (zH pc 40 (zQ pc 37 (.if_icmp .ne 5) 3) (zQ pc 40 (.iconst 0) 1))) (zH pc 43 (zH pc 42 (zQ pc 41 .ireturn 1) (zQ pc 42 (.aload_n 0) 1)) (zH pc 46 (zQ pc 43 (.getfield 92) 3) (zQ pc 46 (.aload_n 0) 1)))))) (zH pc 70 (zH pc 57 (zH pc 52 (zH pc 50 (zQ pc 47 (.getfield 268) 3) (zH pc 51 (zQ pc 50 (.iload_n 1) 1) (zQ pc 51 .iastore 1))) (zH pc 53 (zQ pc 52 (.aload_n 0) 1) (zH pc 56 (zQ pc 53 (.getfield 95) 3) (zQ pc 56 (.aload_n 0) 1)))) (zH pc 62 (zH pc 60 (zQ pc 57 (.getfield 268) 3) (zH pc 61 (zQ pc 60 (.iload_n 2) 1) (zQ pc 61 .iastore 1))) (zH pc 66 (zH pc 63 (zQ pc 62 (.aload_n 0) 1) (zQ pc 63 (.getfield 98) 3)) (zH pc 67 (zQ pc 66 (.aload_n 0) 1) (zQ pc 67 (.getfield 268) 3))))) (zH pc 80 (zH pc 77 (zH pc 71 (zQ pc 70 (.aload_n 0) 1) (zH pc 74 (zQ pc 71 (.getfield 220) 3) (zQ pc 74 (.ldc_w 267) 3))) (zH pc 78 (zQ pc 77 .idiv 1) (zH pc 79 (zQ pc 78 .iastore 1) (zQ pc 79 (.aload_n 0) 1)))) (zH pc 85 (zH pc 81 (zQ pc 80 .dup 1) (zH pc 84 (zQ pc 81 (.getfield 268) 3) (zQ pc 84 (.iconst 1) 1))) (zH pc 89 (zH pc 86 (zQ pc 85 .iadd 1) (zQ pc 86 (.putfield 268) 3)) (zH pc 90 (zQ pc 89 (.iconst 1) 1) (zQ pc 90 .ireturn 1)))))))
def zc_160 (pc : Nat) : Option (Instr × Nat) := (zH pc 27 (zH pc 12 (zH pc 6 (zH pc 4 (zH pc 1 (zQ pc 0 (.aload_n 0) 1) (zQ pc 1 (.getfield 83) 3)) (zH pc 5 (zQ pc 4 (.iload_n 1) 1) (zQ pc 5 .iaload 1))) (zH pc 8 (zH pc 7 (zQ pc 6 (.istore_n 3) 1) (zQ pc 7 (.iconst 0) 1)) (zH pc 10 (zQ pc 8 (.istore 4) 2) (zQ pc 10 (.iload 4) 2)))) (zH pc 20 (zH pc 16 (zH pc 13 (zQ pc 12 (.aload_n 0) 1) (zQ pc 13 (.getfield 268) 3)) (zH pc 19 (zQ pc 16 (.if_icmp .ge 39) 3) (zQ pc 19 (.aload_n 0) 1))) (zH pc 25 (zH pc 23 (zQ pc 20 (.getfield 92) 3) (zQ pc 23 (.iload 4) 2)) (zH pc 26 (zQ pc 25 .iaload 1) (zQ pc 26 (.iload_n 1) 1))))) (zH pc 42 (zH pc 36 (zH pc 31 (zH pc 30 (zQ pc 27 (.if_icmp .ne 22) 3) (zQ pc 30 (.aload_n 0) 1)) (zH pc 34 (zQ pc 31 (.getfield 98) 3) (zQ pc 34 (.iload 4) 2))) (zH pc 38 (zH pc 37 (zQ pc 36 .iaload 1) (zQ pc 37 (.iload_n 2) 1)) (zH pc 41 (zQ pc 38 (.if_icmp .gt 11) 3) (zQ pc 41 (.aload_n 0) 1)))) (zH pc 49 (zH pc 47 (zH pc 45 (zQ pc 42 (.getfield 95) 3) (zQ pc 45 (.iload 4) 2)) (zH pc 48 (zQ pc 47 .iaload 1) (zQ pc 48 (.istore_n 3) 1))) (zH pc 55 (zH pc 52 (zQ pc 49 (.iinc 4 1) 3) (zQ pc 52 (.goto (-42)) 3)) (zH pc 56 (zQ pc 55 (.iload_n 3) 1) (zQ pc 56 .ireturn 1))))))
def zc_161 (pc : Nat) : Option (Instr × Nat) := (zH pc 61 (zH pc 30 (zH pc 14 (zH pc 6 (zH pc 2 (zH pc 1 (zQ pc 0 (.aload_n 0) 1) (zQ pc 1 (.iconst 0) 1)) (zH pc 5 (zQ pc 2 (.putfield 201) 3) (zQ pc 5 (.aload_n 0) 1))) (zH pc 10 (zH pc 7 (zQ pc 6 (.iload_n 1) 1) (zQ pc 7 (.invokevirtual 241) 3)) (zH pc 13 (zQ pc 10 (.ifCond .eq 40) 3) (zQ pc 13 (.iload_n 2) 1)))) (zH pc 23 (zH pc 17 (zH pc 15 (zQ pc 14 (.iconst 0) 1) (zQ pc 15 (.bipush 11) 2)) (zH pc 20 (zQ pc 17 (.invokestatic 212) 3) (zQ pc 20 (.ifCond .eq 30) 3))) (zH pc 25 (zH pc 24 (zQ pc 23 (.iload_n 3) 1) (zQ pc 24 (.iload_n 2) 1)) (zH pc 27 (zQ pc 25 (.bipush 11) 2) (zQ pc 27 (.invokestatic 212) 3))))) (zH pc 47 (zH pc 37 (zH pc 35 (zH pc 33 (zQ pc 30 (.ifCond .eq 20) 3) (zQ pc 33 (.iload 4) 2)) (zH pc 36 (zQ pc 35 (.iconst 0) 1) (zQ pc 36 (.aload_n 0) 1))) (zH pc 43 (zH pc 40 (zQ pc 37 (.getfield 220) 3) (zQ pc 40 (.ldc_w 267) 3)) (zH pc 44 (zQ pc 43 .idiv 1) (zQ pc 44 (.invokestatic 212) 3)))) (zH pc 53 (zH pc 51 (zH pc 50 (zQ pc 47 (.ifCond .ne 5) 3) (zQ pc 50 (.iconst (-1)) 1)) (zH pc 52 (zQ pc 51 .ireturn 1) (zQ pc 52 (.iconst 0) 1))) (zH pc 56 (zH pc 55 (zQ pc 53 (.istore 5) 2) (zQ pc 55 (.iconst 0) 1)) (zH pc 58 (zQ pc 56 (.istore 6) 2) (zH pc 60 (zQ pc 58 (.iload 6) 2) (zQ pc 60 (.aload_n 0) 1))))))) (zH pc 93 (zH pc 78 (zH pc 71 (zH pc 67 (zH pc 64 (zQ pc 61 (.getfield 264) 3) (zQ pc 64 (.if_icmp .ge 60) 3)) (zH pc 68 (zQ pc 67 (.aload_n 0) 1) (zQ pc 68 (.getfield 80) 3))) (zH pc 74 (zH pc 73 (zQ pc 71 (.iload 6) 2) (zQ pc 73 .iaload 1)) (zH pc 75 (zQ pc 74 (.iload_n 1) 1) (zQ pc 75 (.if_icmp .ne 43) 3)))) (zH pc 85 (zH pc 82 (zH pc 79 (zQ pc 78 (.aload_n 0) 1) (zQ pc 79 (.getfield 86) 3)) (zH pc 84 (zQ pc 82 (.iload 6) 2) (zQ pc 84 .iaload 1))) (zH pc 87 (zH pc 86 (zQ pc 85 (.iload_n 2) 1) (zQ pc 86 (.iload_n 3) 1)) (zH pc 90 (zQ pc 87 (.invokestatic 212) 3) (zQ pc 90 (.ifCond .eq 28) 3))))) (zH pc 108 (zH pc 100 (zH pc 97 (zH pc 94 (zQ pc 93 (.aload_n 0) 1) (zQ pc 94 (.getfield 89) 3)) (zH pc 99 (zQ pc 97 (.iload 6) 2) (zQ pc 99 .iaload 1))) (zH pc 105 (zH pc 102 (zQ pc 100 (.iload 4) 2) (zQ pc 102 (.if_icmp .gt 16) 3)) (zH pc 107 (zQ pc 105 (.iload 5) 2) (zQ pc 107 (.aload_n 0) 1)))) (zH pc 116 (zH pc 112 (zH pc 110 (zQ pc 108 (.iload 6) 2) (zQ pc 110 (.iload 4) 2)) (zH pc 115 (zQ pc 112 (.invokevirtual 271) 3) (zQ pc 115 .iadd 1))) (zH pc 121 (zH pc 118 (zQ pc 116 (.istore 5) 2) (zQ pc 118 (.iinc 6 1) 3)) (zH pc 124 (zQ pc 121 (.goto (-63)) 3) (zH pc 126 (zQ pc 124 (.iload 5) 2) (zQ pc 126 .ireturn 1))))))))
def zc_162 (pc : Nat) : Option (Instr × Nat) := (zH pc 59 (zH pc 30 (zH pc 12 (zH pc 5 (zH pc 1 (zQ pc 0 (.aload_n 0) 1) (zH pc 2 (zQ pc 1 (.iconst 0) 1) (zQ pc 2 (.putfield 201) 3))) (zH pc 8 (zH pc 6 (zQ pc 5 (.iconst 0) 1) (zQ pc 6 (.istore 7) 2)) (zH pc 10 (zQ pc 8 (.iload 7) 2) (zQ pc 10 (.bipush 24) 2)))) (zH pc 22 (zH pc 17 (zH pc 15 (zQ pc 12 (.if_icmp .ge 108) 3) (zQ pc 15 (.iload 7) 2)) (zH pc 19 (zQ pc 17 (.bipush 8) 2) (zQ pc 19 (.if_icmp .ge 7) 3))) (zH pc 26 (zH pc 23 (zQ pc 22 (.lload_n 1) 1) (zQ pc 23 (.goto 16) 3)) (zH pc 28 (zQ pc 26 (.iload 7) 2) (zQ pc 28 (.bipush 16) 2))))) (zH pc 47 (zH pc 39 (zH pc 34 (zH pc 33 (zQ pc 30 (.if_icmp .ge 7) 3) (zQ pc 33 (.lload_n 3) 1)) (zH pc 37 (zQ pc 34 (.goto 5) 3) (zQ pc 37 (.lload 5) 2))) (zH pc 43 (zH pc 41 (zQ pc 39 (.lstore 8) 2) (zQ pc 41 (.lload 8) 2)) (zH pc 45 (zQ pc 43 (.bipush 56) 2) (zQ pc 45 (.bipush 8) 2)))) (zH pc 53 (zH pc 51 (zH pc 49 (zQ pc 47 (.iload 7) 2) (zQ pc 49 (.bipush 7) 2)) (zH pc 52 (zQ pc 51 .iand 1) (zQ pc 52 .imul 1))) (zH pc 55 (zH pc 54 (zQ pc 53 .isub 1) (zQ pc 54 .lushr 1)) (zH pc 58 (zQ pc 55 (.ldc2_w 274) 3) (zQ pc 58 .land 1)))))) (zH pc 94 (zH pc 76 (zH pc 66 (zH pc 62 (zH pc 60 (zQ pc 59 .l2i 1) (zQ pc 60 (.istore 10) 2)) (zH pc 63 (zQ pc 62 (.aload_n 0) 1) (zQ pc 63 (.getfield 276) 3))) (zH pc 72 (zH pc 69 (zQ pc 66 (.sipush 1000) 3) (zQ pc 69 (.if_icmp .ge 45) 3)) (zH pc 74 (zQ pc 72 (.iload 10) 2) (zQ pc 74 (.bipush 10) 2)))) (zH pc 86 (zH pc 81 (zH pc 79 (zQ pc 76 (.if_icmp .eq 17) 3) (zQ pc 79 (.iload 10) 2)) (zH pc 83 (zQ pc 81 (.bipush 32) 2) (zQ pc 83 (.if_icmp .lt 31) 3))) (zH pc 90 (zH pc 88 (zQ pc 86 (.iload 10) 2) (zQ pc 88 (.bipush 126) 2)) (zH pc 93 (zQ pc 90 (.if_icmp .gt 24) 3) (zQ pc 93 (.aload_n 0) 1))))) (zH pc 109 (zH pc 103 (zH pc 98 (zH pc 97 (zQ pc 94 (.getfield 101) 3) (zQ pc 97 (.aload_n 0) 1)) (zH pc 101 (zQ pc 98 (.getfield 276) 3) (zQ pc 101 (.iload 10) 2))) (zH pc 105 (zH pc 104 (zQ pc 103 .iastore 1) (zQ pc 104 (.aload_n 0) 1)) (zH pc 106 (zQ pc 105 .dup 1) (zQ pc 106 (.getfield 276) 3)))) (zH pc 117 (zH pc 111 (zH pc 110 (zQ pc 109 (.iconst 1) 1) (zQ pc 110 .iadd 1)) (zH pc 114 (zQ pc 111 (.putfield 276) 3) (zQ pc 114 (.iinc 7 1) 3))) (zH pc 121 (zH pc 120 (zQ pc 117 (.goto (-109)) 3) (zQ pc 120 (.aload_n 0) 1)) (zH pc 124 (zQ pc 121 (.getfield 276) 3) (zQ pc 124 .ireturn 1)))))))
def zc_163 (pc : Nat) : Option (Instr × Nat) := (zH pc 9 (zH pc 2 (zH pc 1 (zQ pc 0 (.iload_n 1) 1) (zQ pc 1 (.aload_n 0) 1)) (zH pc 5 (zQ pc 2 (.getfield 279) 3) (zH pc 8 (zQ pc 5 (.if_icmp .ge 12) 3) (zQ pc 8 (.aload_n 0) 1)))) (zH pc 14 (zH pc 12 (zQ pc 9 (.getfield 101) 3) (zH pc 13 (zQ pc 12 (.iload_n 1) 1) (zQ pc 13 .iaload 1))) (zH pc 17 (zQ pc 14 (.goto 4) 3) (zH pc 18 (zQ pc 17 (.iconst 0) 1) (zQ pc 18 .ireturn 1)))))
def zc_164 (pc : Nat) : Option (Instr × Nat) := (zH pc 188 (zH pc 92 (zH pc 46 (zH pc 25 (zH pc 12 (zH pc 5 (zH pc 1 (zQ pc 0 (.aload_n 0) 1) (zH pc 4 (zQ pc 1 (.getfield 282) 3) (zQ pc 4 (.aload_n 0) 1))) (zH pc 8 (zQ pc 5 (.getfield 279) 3) (zH pc 11 (zQ pc 8 (.if_icmp .ge 44) 3) (zQ pc 11 (.aload_n 0) 1)))) (zH pc 19 (zH pc 15 (zQ pc 12 (.getfield 101) 3) (zH pc 16 (zQ pc 15 (.aload_n 0) 1) (zQ pc 16 (.getfield 282) 3))) (zH pc 20 (zQ pc 19 .iaload 1) (zH pc 22 (zQ pc 20 (.bipush 32) 2) (zQ pc 22 (.if_icmp .eq 17) 3))))) (zH pc 36 (zH pc 30 (zH pc 26 (zQ pc 25 (.aload_n 0) 1) (zH pc 29 (zQ pc 26 (.getfield 101) 3) (zQ pc 29 (.aload_n 0) 1))) (zH pc 33 (zQ pc 30 (.getfield 282) 3) (zH pc 34 (zQ pc 33 .iaload 1) (zQ pc 34 (.bipush 10) 2)))) (zH pc 41 (zH pc 39 (zQ pc 36 (.if_icmp .ne 16) 3) (zH pc 40 (zQ pc 39 (.aload_n 0) 1) (zQ pc 40 .dup 1))) (zH pc 44 (zQ pc 41 (.getfield 282) 3) (zH pc 45 (zQ pc 44 (.iconst 1) 1) (zQ pc 45 .iadd 1)))))) (zH pc 70 (zH pc 60 (zH pc 53 (zH pc 49 (zQ pc 46 (.putfield 282) 3) (zH pc 52 (zQ pc 49 (.goto (-49)) 3) (zQ pc 52 (.aload_n 0) 1))) (zH pc 54 (zQ pc 53 (.aload_n 0) 1) (zH pc 57 (zQ pc 54 (.getfield 282) 3) (zQ pc 57 (.putfield 285) 3)))) (zH pc 65 (zH pc 61 (zQ pc 60 (.aload_n 0) 1) (zH pc 62 (zQ pc 61 (.lconst 0) 1) (zQ pc 62 (.putfield 288) 3))) (zH pc 66 (zQ pc 65 (.aload_n 0) 1) (zH pc 67 (zQ pc 66 (.iconst 0) 1) (zQ pc 67 (.putfield 292) 3))))) (zH pc 82 (zH pc 75 (zH pc 71 (zQ pc 70 (.aload_n 0) 1) (zH pc 74 (zQ pc 71 (.getfield 282) 3) (zQ pc 74 (.aload_n 0) 1))) (zH pc 78 (zQ pc 75 (.getfield 279) 3) (zH pc 81 (zQ pc 78 (.if_icmp .ne 9) 3) (zQ pc 81 (.aload_n 0) 1)))) (zH pc 87 (zH pc 83 (zQ pc 82 (.iconst 0) 1) (zH pc 86 (zQ pc 83 (.putfield 295) 3) (zQ pc 86 .return_ 1))) (zH pc 88 (zQ pc 87 (.aload_n 0) 1) (zH pc 91 (zQ pc 88 (.getfield 101) 3) (zQ pc 91 (.aload_n 0) 1))))))) (zH pc 140 (zH pc 114 (zH pc 103 (zH pc 97 (zH pc 95 (zQ pc 92 (.getfield 282) 3) (zH pc 96 (zQ pc 95 .iaload 1) (zQ pc 96 (.istore_n 1) 1))) (zH pc 98 (zQ pc 97 (.iload_n 1) 1) (zH pc 100 (zQ pc 98 (.bipush 97) 2) (zQ pc 100 (.if_icmp .lt 112) 3)))) (zH pc 109 (zH pc 104 (zQ pc 103 (.iload_n 1) 1) (zH pc 106 (zQ pc 104 (.bipush 122) 2) (zQ pc 106 (.if_icmp .gt 106) 3))) (zH pc 110 (zQ pc 109 (.aload_n 0) 1) (zH pc 111 (zQ pc 110 (.aload_n 0) 1) (zQ pc 111 (.getfield 282) 3))))) (zH pc 127 (zH pc 122 (zH pc 117 (zQ pc 114 (.invokevirtual 298) 3) (zH pc 119 (zQ pc 117 (.bipush 97) 2) (zQ pc 119 (.if_icmp .lt 69) 3))) (zH pc 123 (zQ pc 122 (.aload_n 0) 1) (zH pc 124 (zQ pc 123 (.aload_n 0) 1) (zQ pc 124 (.getfield 282) 3)))) (zH pc 135 (zH pc 130 (zQ pc 127 (.invokevirtual 298) 3) (zH pc 132 (zQ pc 130 (.bipush 122) 2) (zQ pc 132 (.if_icmp .gt 56) 3))) (zH pc 136 (zQ pc 135 (.aload_n 0) 1) (zH pc 139 (zQ pc 136 (.getfield 282) 3) (zQ pc 139 (.aload_n 0) 1)))))) (zH pc 163 (zH pc 151 (zH pc 146 (zH pc 143 (zQ pc 140 (.getfield 285) 3) (zH pc 144 (zQ pc 143 .isub 1) (zQ pc 144 (.bipush 8) 2))) (zH pc 149 (zQ pc 146 (.if_icmp .ge 29) 3) (zH pc 150 (zQ pc 149 (.aload_n 0) 1) (zQ pc 150 (.aload_n 0) 1)))) (zH pc 158 (zH pc 154 (zQ pc 151 (.getfield 288) 3) (zH pc 157 (zQ pc 154 (.ldc2_w 301) 3) (zQ pc 157 .lmul 1))) (zH pc 159 (zQ pc 158 (.aload_n 0) 1) (zH pc 160 (zQ pc 159 (.aload_n 0) 1) (zQ pc 160 (.getfield 282) 3))))) (zH pc 175 (zH pc 168 (zH pc 166 (zQ pc 163 (.invokevirtual 298) 3) (zH pc 167 (zQ pc 166 .i2l 1) (zQ pc 167 .ladd 1))) (zH pc 171 (zQ pc 168 (.ldc2_w 303) 3) (zH pc 172 (zQ pc 171 .lsub 1) (zQ pc 172 (.putfield 288) 3)))) (zH pc 180 (zH pc 176 (zQ pc 175 (.aload_n 0) 1) (zH pc 177 (zQ pc 176 .dup 1) (zQ pc 177 (.getfield 282) 3))) (zH pc 182 (zH pc 181 (zQ pc 180 (.iconst 1) 1) (zQ pc 181 .iadd 1)) (zH pc 185 (zQ pc 182 (.putfield 282) 3) (zQ pc 185 (.goto (-76)) 3)))))))) (zH pc 282 (zH pc 234 (zH pc 211 (zH pc 198 (zH pc 193 (zH pc 189 (zQ pc 188 (.aload_n 0) 1) (zH pc 190 (zQ pc 189 (.aload_n 0) 1) (zQ pc 190 (.getfield 282) 3))) (zH pc 194 (zQ pc 193 (.aload_n 0) 1) (zH pc 197 (zQ pc 194 (.getfield 285) 3) (zQ pc 197 .isub 1)))) (zH pc 204 (zH pc 200 (zQ pc 198 (.bipush 8) 2) (zH pc 203 (zQ pc 200 (.if_icmp .le 7) 3) (zQ pc 203 (.iconst 4) 1))) (zH pc 207 (zQ pc 204 (.goto 4) 3) (zH pc 208 (zQ pc 207 (.iconst 1) 1) (zQ pc 208 (.putfield 295) 3))))) (zH pc 221 (zH pc 215 (zH pc 212 (zQ pc 211 .return_ 1) (zH pc 213 (zQ pc 212 (.iload_n 1) 1) (zQ pc 213 (.bipush 48) 2))) (zH pc 218 (zQ pc 215 (.if_icmp .lt 107) 3) (zH pc 219 (zQ pc 218 (.iload_n 1) 1) (zQ pc 219 (.bipush 57) 2)))) (zH pc 226 (zH pc 224 (zQ pc 221 (.if_icmp .gt 101) 3) (zH pc 225 (zQ pc 224 (.aload_n 0) 1) (zQ pc 225 (.aload_n 0) 1))) (zH pc 229 (zQ pc 226 (.getfield 282) 3) (zH pc 232 (zQ pc 229 (.invokevirtual 298) 3) (zQ pc 232 (.bipush 48) 2)))))) (zH pc 259 (zH pc 247 (zH pc 239 (zH pc 237 (zQ pc 234 (.if_icmp .lt 65) 3) (zH pc 238 (zQ pc 237 (.aload_n 0) 1) (zQ pc 238 (.aload_n 0) 1))) (zH pc 242 (zQ pc 239 (.getfield 282) 3) (zH pc 245 (zQ pc 242 (.invokevirtual 298) 3) (zQ pc 245 (.bipush 57) 2)))) (zH pc 254 (zH pc 250 (zQ pc 247 (.if_icmp .gt 52) 3) (zH pc 251 (zQ pc 250 (.aload_n 0) 1) (zQ pc 251 (.getfield 282) 3))) (zH pc 255 (zQ pc 254 (.aload_n 0) 1) (zH pc 258 (zQ pc 255 (.getfield 285) 3) (zQ pc 258 .isub 1))))) (zH pc 270 (zH pc 264 (zH pc 260 (zQ pc 259 (.iconst 4) 1) (zH pc 263 (zQ pc 260 (.if_icmp .ge 26) 3) (zQ pc 263 (.aload_n 0) 1))) (zH pc 265 (zQ pc 264 (.aload_n 0) 1) (zH pc 268 (zQ pc 265 (.getfield 292) 3) (zQ pc 268 (.bipush 10) 2)))) (zH pc 273 (zH pc 271 (zQ pc 270 .imul 1) (zH pc 272 (zQ pc 271 (.aload_n 0) 1) (zQ pc 272 (.aload_n 0) 1))) (zH pc 279 (zH pc 276 (zQ pc 273 (.getfield 282) 3) (zQ pc 276 (.invokevirtual 298) 3)) (zH pc 280 (zQ pc 279 .iadd 1) (zQ pc 280 (.bipush 48) 2))))))) (zH pc 324 (zH pc 304 (zH pc 292 (zH pc 287 (zH pc 283 (zQ pc 282 .isub 1) (zH pc 286 (zQ pc 283 (.putfield 292) 3) (zQ pc 286 (.aload_n 0) 1))) (zH pc 288 (zQ pc 287 .dup 1) (zH pc 291 (zQ pc 288 (.getfield 282) 3) (zQ pc 291 (.iconst 1) 1)))) (zH pc 299 (zH pc 293 (zQ pc 292 .iadd 1) (zH pc 296 (zQ pc 293 (.putfield 282) 3) (zQ pc 296 (.goto (-72)) 3))) (zH pc 300 (zQ pc 299 (.aload_n 0) 1) (zH pc 301 (zQ pc 300 (.aload_n 0) 1) (zQ pc 301 (.getfield 282) 3))))) (zH pc 314 (zH pc 309 (zH pc 305 (zQ pc 304 (.aload_n 0) 1) (zH pc 308 (zQ pc 305 (.getfield 285) 3) (zQ pc 308 .isub 1))) (zH pc 310 (zQ pc 309 (.iconst 4) 1) (zH pc 313 (zQ pc 310 (.if_icmp .le 7) 3) (zQ pc 313 (.iconst 4) 1)))) (zH pc 321 (zH pc 317 (zQ pc 314 (.goto 4) 3) (zH pc 318 (zQ pc 317 (.iconst 2) 1) (zQ pc 318 (.putfield 295) 3))) (zH pc 322 (zQ pc 321 .return_ 1) (zH pc 323 (zQ pc 322 (.aload_n 0) 1) (zQ pc 323 .dup 1)))))) (zH pc 346 (zH pc 334 (zH pc 329 (zH pc 327 (zQ pc 324 (.getfield 282) 3) (zH pc 328 (zQ pc 327 (.iconst 1) 1) (zQ pc 328 .iadd 1))) (zH pc 332 (zQ pc 329 (.putfield 282) 3) (zH pc 333 (zQ pc 332 (.aload_n 0) 1) (zQ pc 333 (.iload_n 1) 1)))) (zH pc 340 (zH pc 336 (zQ pc 334 (.bipush 40) 2) (zH pc 339 (zQ pc 336 (.if_icmp .lt 9) 3) (zQ pc 339 (.iload_n 1) 1))) (zH pc 342 (zQ pc 340 (.bipush 43) 2) (zH pc 345 (zQ pc 342 (.if_icmp .le 21) 3) (zQ pc 345 (.iload_n 1) 1))))) (zH pc 358 (zH pc 352 (zH pc 348 (zQ pc 346 (.bipush 45) 2) (zH pc 351 (zQ pc 348 (.if_icmp .eq 15) 3) (zQ pc 351 (.iload_n 1) 1))) (zH pc 354 (zQ pc 352 (.bipush 59) 2) (zH pc 357 (zQ pc 354 (.if_icmp .lt 13) 3) (zQ pc 357 (.iload_n 1) 1)))) (zH pc 364 (zH pc 360 (zQ pc 358 (.bipush 61) 2) (zH pc 363 (zQ pc 360 (.if_icmp .gt 7) 3) (zQ pc 363 (.iconst 3) 1))) (zH pc 368 (zH pc 367 (zQ pc 364 (.goto 4) 3) (zQ pc 367 (.iconst 4) 1)) (zH pc 371 (zQ pc 368 (.putfield 295) 3) (zQ pc 371 .return_ 1)))))))))
def zc_165 (pc : Nat) : Option (Instr × Nat) := (zH pc 12 (zH pc 5 (zH pc 1 (zQ pc 0 (.aload_n 0) 1) (zH pc 4 (zQ pc 1 (.getfield 295) 3) (zQ pc 4 (.iconst 1) 1))) (zH pc 8 (zQ pc 5 (.if_icmp .ne 16) 3) (zH pc 9 (zQ pc 8 (.aload_n 0) 1) (zQ pc 9 (.getfield 288) 3)))) (zH pc 17 (zH pc 13 (zQ pc 12 (.lload_n 1) 1) (zH pc 14 (zQ pc 13 .lcmp 1) (zQ pc 14 (.ifCond .ne 7) 3))) (zH pc 21 (zH pc 18 (zQ pc 17 (.iconst 1) 1) (zQ pc 18 (.goto 4) 3)) (zH pc 22 (zQ pc 21 (.iconst 0) 1) (zQ pc 22 .ireturn 1)))))
def zc_166 (pc : Nat) : Option (Instr × Nat) := (zH pc 13 (zH pc 5 (zH pc 1 (zQ pc 0 (.aload_n 0) 1) (zH pc 4 (zQ pc 1 (.getfield 295) 3) (zQ pc 4 (.iconst 3) 1))) (zH pc 9 (zH pc 8 (zQ pc 5 (.if_icmp .ne 20) 3) (zQ pc 8 (.aload_n 0) 1)) (zH pc 12 (zQ pc 9 (.getfield 101) 3) (zQ pc 12 (.aload_n 0) 1)))) (zH pc 21 (zH pc 17 (zH pc 16 (zQ pc 13 (.getfield 285) 3) (zQ pc 16 .iaload 1)) (zH pc 18 (zQ pc 17 (.iload_n 1) 1) (zQ pc 18 (.if_icmp .ne 7) 3))) (zH pc 25 (zH pc 22 (zQ pc 21 (.iconst 1) 1) (zQ pc 22 (.goto 4) 3)) (zH pc 26 (zQ pc 25 (.iconst 0) 1) (zQ pc 26 .ireturn 1)))))
def zc_167 (pc : Nat) : Option (Instr × Nat) := (zH pc 8 (zH pc 2 (zH pc 1 (zQ pc 0 (.aload_n 0) 1) (zQ pc 1 (.iload_n 1) 1)) (zH pc 4 (zQ pc 2 (.bipush 16) 2) (zH pc 5 (zQ pc 4 (.aload_n 0) 1) (zQ pc 5 (.getfield 285) 3)))) (zH pc 10 (zH pc 9 (zQ pc 8 .imul 1) (zQ pc 9 .iadd 1)) (zH pc 13 (zQ pc 10 (.putfield 305) 3) (zH pc 14 (zQ pc 13 (.iconst 0) 1) (zQ pc 14 .ireturn 1)))))
def zc_168 (pc : Nat) : Option (Instr × Nat) := (zH pc 10 (zH pc 5 (zH pc 1 (zQ pc 0 (.aload_n 0) 1) (zH pc 4 (zQ pc 1 (.getfield 129) 3) (zQ pc 4 (.aload_n 0) 1))) (zH pc 8 (zQ pc 5 (.getfield 308) 3) (zH pc 9 (zQ pc 8 (.iload_n 1) 1) (zQ pc 9 .iastore 1)))) (zH pc 15 (zH pc 11 (zQ pc 10 (.aload_n 0) 1) (zH pc 12 (zQ pc 11 .dup 1) (zQ pc 12 (.getfield 308) 3))) (zH pc 17 (zH pc 16 (zQ pc 15 (.iconst 1) 1) (zQ pc 16 .iadd 1)) (zH pc 20 (zQ pc 17 (.putfield 308) 3) (zQ pc 20 .return_ 1)))))
def zc_169 (pc : Nat) : Option (Instr × Nat) := (zH pc 51 (zH pc 22 (zH pc 10 (zH pc 5 (zH pc 1 (zQ pc 0 (.aload_n 0) 1) (zH pc 4 (zQ pc 1 (.getfield 295) 3) (zQ pc 4 (.iconst 1) 1))) (zH pc 8 (zQ pc 5 (.if_icmp .eq 5) 3) (zH pc 9 (zQ pc 8 (.iconst 0) 1) (zQ pc 9 .ireturn 1)))) (zH pc 17 (zH pc 11 (zQ pc 10 (.aload_n 0) 1) (zH pc 14 (zQ pc 11 (.getfield 288) 3) (zQ pc 14 (.ldc2_w 311) 3))) (zH pc 18 (zQ pc 17 .lcmp 1) (zH pc 21 (zQ pc 18 (.ifCond .ne 7) 3) (zQ pc 21 (.iconst 1) 1))))) (zH pc 36 (zH pc 29 (zH pc 25 (zQ pc 22 (.goto 80) 3) (zH pc 26 (zQ pc 25 (.aload_n 0) 1) (zQ pc 26 (.getfield 288) 3))) (zH pc 32 (zQ pc 29 (.ldc2_w 313) 3) (zH pc 33 (zQ pc 32 .lcmp 1) (zQ pc 33 (.ifCond .ne 7) 3)))) (zH pc 41 (zH pc 37 (zQ pc 36 (.iconst 2) 1) (zH pc 40 (zQ pc 37 (.goto 65) 3) (zQ pc 40 (.aload_n 0) 1))) (zH pc 47 (zH pc 44 (zQ pc 41 (.getfield 288) 3) (zQ pc 44 (.ldc2_w 315) 3)) (zH pc 48 (zQ pc 47 .lcmp 1) (zQ pc 48 (.ifCond .ne 7) 3)))))) (zH pc 77 (zH pc 63 (zH pc 56 (zH pc 52 (zQ pc 51 (.iconst 3) 1) (zH pc 55 (zQ pc 52 (.goto 50) 3) (zQ pc 55 (.aload_n 0) 1))) (zH pc 59 (zQ pc 56 (.getfield 288) 3) (zH pc 62 (zQ pc 59 (.ldc2_w 317) 3) (zQ pc 62 .lcmp 1)))) (zH pc 70 (zH pc 66 (zQ pc 63 (.ifCond .ne 7) 3) (zH pc 67 (zQ pc 66 (.iconst 4) 1) (zQ pc 67 (.goto 35) 3))) (zH pc 71 (zQ pc 70 (.aload_n 0) 1) (zH pc 74 (zQ pc 71 (.getfield 288) 3) (zQ pc 74 (.ldc2_w 319) 3))))) (zH pc 89 (zH pc 82 (zH pc 78 (zQ pc 77 .lcmp 1) (zH pc 81 (zQ pc 78 (.ifCond .ne 7) 3) (zQ pc 81 (.iconst 5) 1))) (zH pc 85 (zQ pc 82 (.goto 20) 3) (zH pc 86 (zQ pc 85 (.aload_n 0) 1) (zQ pc 86 (.getfield 288) 3)))) (zH pc 96 (zH pc 92 (zQ pc 89 (.ldc2_w 321) 3) (zH pc 93 (zQ pc 92 .lcmp 1) (zQ pc 93 (.ifCond .ne 8) 3))) (zH pc 101 (zH pc 98 (zQ pc 96 (.bipush 6) 2) (zQ pc 98 (.goto 4) 3)) (zH pc 102 (zQ pc 101 (.iconst 0) 1) (zQ pc 102 .ireturn 1)))))))
def zc_170 (pc : Nat) : Option (Instr × Nat) := (zH pc 45 (zH pc 22 (zH pc 11 (zH pc 4 (zH pc 1 (zQ pc 0 (.aload_n 0) 1) (zQ pc 1 (.getfield 288) 3)) (zH pc 7 (zQ pc 4 (.ldc2_w 323) 3) (zH pc 8 (zQ pc 7 .lcmp 1) (zQ pc 8 (.ifCond .eq 76) 3)))) (zH pc 15 (zH pc 12 (zQ pc 11 (.aload_n 0) 1) (zQ pc 12 (.getfield 288) 3)) (zH pc 18 (zQ pc 15 (.ldc2_w 325) 3) (zH pc 19 (zQ pc 18 .lcmp 1) (zQ pc 19 (.ifCond .eq 65) 3))))) (zH pc 33 (zH pc 26 (zH pc 23 (zQ pc 22 (.aload_n 0) 1) (zQ pc 23 (.getfield 288) 3)) (zH pc 29 (zQ pc 26 (.ldc2_w 327) 3) (zH pc 30 (zQ pc 29 .lcmp 1) (zQ pc 30 (.ifCond .eq 54) 3)))) (zH pc 40 (zH pc 34 (zQ pc 33 (.aload_n 0) 1) (zH pc 37 (zQ pc 34 (.getfield 288) 3) (zQ pc 37 (.ldc2_w 329) 3))) (zH pc 41 (zQ pc 40 .lcmp 1) (zH pc 44 (zQ pc 41 (.ifCond .eq 43) 3) (zQ pc 44 (.aload_n 0) 1)))))) (zH pc 67 (zH pc 56 (zH pc 51 (zH pc 48 (zQ pc 45 (.getfield 288) 3) (zQ pc 48 (.ldc2_w 331) 3)) (zH pc 52 (zQ pc 51 .lcmp 1) (zH pc 55 (zQ pc 52 (.ifCond .eq 32) 3) (zQ pc 55 (.aload_n 0) 1)))) (zH pc 62 (zH pc 59 (zQ pc 56 (.getfield 288) 3) (zQ pc 59 (.ldc2_w 333) 3)) (zH pc 63 (zQ pc 62 .lcmp 1) (zH pc 66 (zQ pc 63 (.ifCond .eq 21) 3) (zQ pc 66 (.aload_n 0) 1))))) (zH pc 78 (zH pc 73 (zH pc 70 (zQ pc 67 (.getfield 288) 3) (zQ pc 70 (.ldc2_w 335) 3)) (zH pc 74 (zQ pc 73 .lcmp 1) (zH pc 77 (zQ pc 74 (.ifCond .eq 10) 3) (zQ pc 77 (.aload_n 0) 1)))) (zH pc 85 (zH pc 81 (zQ pc 78 (.invokevirtual 337) 3) (zH pc 84 (zQ pc 81 (.ifCond .le 7) 3) (zQ pc 84 (.iconst 1) 1))) (zH pc 88 (zQ pc 85 (.goto 4) 3) (zH pc 89 (zQ pc 88 (.iconst 0) 1) (zQ pc 89 .ireturn 1)))))))
def zc_171 (pc : Nat) : Option (Instr × Nat) := (zH pc 17 (zH pc 7 (zH pc 2 (zH pc 1 (zQ pc 0 (.iconst 0) 1) (zQ pc 1 (.istore_n 1) 1)) (zH pc 3 (zQ pc 2 (.iload_n 1) 1) (zH pc 4 (zQ pc 3 (.aload_n 0) 1) (zQ pc 4 (.getfield 122) 3)))) (zH pc 12 (zH pc 8 (zQ pc 7 (.iconst 1) 1) (zH pc 9 (zQ pc 8 .iaload 1) (zQ pc 9 (.if_icmp .ge 25) 3))) (zH pc 13 (zQ pc 12 (.aload_n 0) 1) (zH pc 16 (zQ pc 13 (.getfield 125) 3) (zQ pc 16 (.iload_n 1) 1))))) (zH pc 26 (zH pc 19 (zH pc 18 (zQ pc 17 .laload 1) (zQ pc 18 (.aload_n 0) 1)) (zH pc 22 (zQ pc 19 (.getfield 288) 3) (zH pc 23 (zQ pc 22 .lcmp 1) (zQ pc 23 (.ifCond .ne 5) 3)))) (zH pc 31 (zH pc 27 (zQ pc 26 (.iload_n 1) 1) (zH pc 28 (zQ pc 27 .ireturn 1) (zQ pc 28 (.iinc 1 1) 3))) (zH pc 34 (zQ pc 31 (.goto (-29)) 3) (zH pc 35 (zQ pc 34 (.iconst (-1)) 1) (zQ pc 35 .ireturn 1))))))
def zc_172 (pc : Nat) : Option (Instr × Nat) := (zH pc 250 (zH pc 122 (zH pc 56 (zH pc 22 (zH pc 10 (zH pc 4 (zH pc 2 (zH pc 1 (zQ pc 0 (.iconst 0) 1) (zQ pc 1 (.istore_n 2) 1)) (zH pc 3 (zQ pc 2 (.iconst 1) 1) (zQ pc 3 (.istore_n 3) 1))) (zH pc 8 (zH pc 5 (zQ pc 4 (.aload_n 0) 1) (zQ pc 5 (.getfield 135) 3)) (zH pc 9 (zQ pc 8 (.iconst 0) 1) (zQ pc 9 (.iconst 0) 1)))) (zH pc 16 (zH pc 12 (zH pc 11 (zQ pc 10 .bastore 1) (zQ pc 11 (.aload_n 0) 1)) (zH pc 15 (zQ pc 12 (.getfield 116) 3) (zQ pc 15 (.iload_n 1) 1))) (zH pc 20 (zH pc 17 (zQ pc 16 (.aload_n 0) 1) (zQ pc 17 (.getfield 308) 3)) (zH pc 21 (zQ pc 20 .iastore 1) (zQ pc 21 (.iload_n 3) 1))))) (zH pc 40 (zH pc 31 (zH pc 26 (zH pc 25 (zQ pc 22 (.ifCond .eq 231) 3) (zQ pc 25 (.aload_n 0) 1)) (zH pc 29 (zQ pc 26 (.invokevirtual 337) 3) (zQ pc 29 (.istore 4) 2))) (zH pc 35 (zH pc 32 (zQ pc 31 (.aload_n 0) 1) (zQ pc 32 (.ldc2_w 335) 3)) (zH pc 38 (zQ pc 35 (.invokevirtual 341) 3) (zQ pc 38 (.istore 5) 2)))) (zH pc 48 (zH pc 43 (zH pc 41 (zQ pc 40 (.aload_n 0) 1) (zQ pc 41 (.bipush 40) 2)) (zH pc 46 (zQ pc 43 (.invokevirtual 345) 3) (zQ pc 46 (.istore 6) 2))) (zH pc 52 (zH pc 49 (zQ pc 48 (.aload_n 0) 1) (zQ pc 49 (.getfield 295) 3)) (zH pc 53 (zQ pc 52 (.iconst 1) 1) (zQ pc 53 (.if_icmp .ne 14) 3)))))) (zH pc 91 (zH pc 72 (zH pc 64 (zH pc 60 (zH pc 57 (zQ pc 56 (.aload_n 0) 1) (zQ pc 57 (.invokevirtual 348) 3)) (zH pc 63 (zQ pc 60 (.ifCond .ne 7) 3) (zQ pc 63 (.iconst 1) 1))) (zH pc 68 (zH pc 67 (zQ pc 64 (.goto 4) 3) (zQ pc 67 (.iconst 0) 1)) (zH pc 70 (zQ pc 68 (.istore 7) 2) (zQ pc 70 (.iload 4) 2)))) (zH pc 82 (zH pc 77 (zH pc 75 (zQ pc 72 (.ifCond .ne 32) 3) (zQ pc 75 (.iload 5) 2)) (zH pc 80 (zQ pc 77 (.ifCond .ne 27) 3) (zQ pc 80 (.iload 6) 2))) (zH pc 87 (zH pc 85 (zQ pc 82 (.ifCond .ne 22) 3) (zQ pc 85 (.iload 7) 2)) (zH pc 90 (zQ pc 87 (.ifCond .ne 17) 3) (zQ pc 90 (.aload_n 0) 1))))) (zH pc 106 (zH pc 99 (zH pc 95 (zH pc 94 (zQ pc 91 (.getfield 295) 3) (zQ pc 94 (.iconst 2) 1)) (zH pc 98 (zQ pc 95 (.if_icmp .eq 9) 3) (zQ pc 98 (.aload_n 0) 1))) (zH pc 103 (zH pc 100 (zQ pc 99 (.iconst 1) 1) (zQ pc 100 (.invokevirtual 352) 3)) (zH pc 104 (zQ pc 103 .ireturn 1) (zQ pc 104 (.iload 7) 2)))) (zH pc 116 (zH pc 110 (zH pc 109 (zQ pc 106 (.ifCond .eq 16) 3) (zQ pc 109 (.aload_n 0) 1)) (zH pc 113 (zQ pc 110 (.invokevirtual 355) 3) (zQ pc 113 (.ifCond .ge 9) 3))) (zH pc 118 (zH pc 117 (zQ pc 116 (.aload_n 0) 1) (zQ pc 117 (.iconst 2) 1)) (zH pc 121 (zQ pc 118 (.invokevirtual 352) 3) (zQ pc 121 .ireturn 1))))))) (zH pc 184 (zH pc 154 (zH pc 135 (zH pc 128 (zH pc 124 (zH pc 123 (zQ pc 122 (.iload_n 2) 1) (zQ pc 123 (.iconst 5) 1)) (zH pc 127 (zQ pc 124 (.if_icmp .ne 9) 3) (zQ pc 127 (.aload_n 0) 1))) (zH pc 132 (zH pc 129 (zQ pc 128 (.iconst 5) 1) (zQ pc 129 (.invokevirtual 352) 3)) (zH pc 133 (zQ pc 132 .ireturn 1) (zQ pc 133 (.iload 5) 2)))) (zH pc 144 (zH pc 140 (zH pc 138 (zQ pc 135 (.ifCond .ne 8) 3) (zQ pc 138 (.iload 6) 2)) (zH pc 143 (zQ pc 140 (.ifCond .eq 48) 3) (zQ pc 143 (.aload_n 0) 1))) (zH pc 149 (zH pc 146 (zQ pc 144 (.iload 5) 2) (zQ pc 146 (.ifCond .eq 8) 3)) (zH pc 151 (zQ pc 149 (.bipush 30) 2) (zQ pc 151 (.goto 5) 3))))) (zH pc 172 (zH pc 163 (zH pc 159 (zH pc 156 (zQ pc 154 (.bipush 28) 2) (zQ pc 156 (.invokevirtual 358) 3)) (zH pc 162 (zQ pc 159 (.iinc 2 1) 3) (zQ pc 162 (.aload_n 0) 1))) (zH pc 167 (zH pc 166 (zQ pc 163 (.getfield 132) 3) (zQ pc 166 (.iload_n 2) 1)) (zH pc 169 (zQ pc 167 (.iload 5) 2) (zQ pc 169 (.ifCond .eq 7) 3)))) (zH pc 178 (zH pc 176 (zH pc 173 (zQ pc 172 (.iconst 1) 1) (zQ pc 173 (.goto 4) 3)) (zH pc 177 (zQ pc 176 (.iconst 2) 1) (zQ pc 177 .iastore 1))) (zH pc 182 (zH pc 179 (zQ pc 178 (.aload_n 0) 1) (zQ pc 179 (.getfield 135) 3)) (zH pc 183 (zQ pc 182 (.iload_n 2) 1) (zQ pc 183 (.iconst 0) 1)))))) (zH pc 217 (zH pc 201 (zH pc 191 (zH pc 188 (zH pc 185 (zQ pc 184 .bastore 1) (zQ pc 185 (.goto 61) 3)) (zH pc 189 (zQ pc 188 (.aload_n 0) 1) (zQ pc 189 (.iload 4) 2))) (zH pc 196 (zH pc 194 (zQ pc 191 (.ifCond .le 8) 3) (zQ pc 194 (.iload 4) 2)) (zH pc 199 (zQ pc 196 (.goto 25) 3) (zQ pc 199 (.iload 7) 2)))) (zH pc 210 (zH pc 206 (zH pc 204 (zQ pc 201 (.ifCond .eq 13) 3) (zQ pc 204 (.bipush 10) 2)) (zH pc 207 (zQ pc 206 (.aload_n 0) 1) (zQ pc 207 (.invokevirtual 355) 3))) (zH pc 214 (zH pc 211 (zQ pc 210 .iadd 1) (zQ pc 211 (.goto 10) 3)) (zH pc 216 (zQ pc 214 (.bipush 100) 2) (zQ pc 216 (.aload_n 0) 1))))) (zH pc 231 (zH pc 225 (zH pc 221 (zH pc 220 (zQ pc 217 (.getfield 292) 3) (zQ pc 220 .iadd 1)) (zH pc 224 (zQ pc 221 (.invokevirtual 358) 3) (zQ pc 224 (.iconst 0) 1))) (zH pc 227 (zH pc 226 (zQ pc 225 (.istore_n 3) 1) (zQ pc 226 (.iload_n 2) 1)) (zH pc 230 (zQ pc 227 (.ifCond .le 19) 3) (zQ pc 230 (.aload_n 0) 1)))) (zH pc 237 (zH pc 235 (zH pc 234 (zQ pc 231 (.getfield 132) 3) (zQ pc 234 (.iload_n 2) 1)) (zH pc 236 (zQ pc 235 .iaload 1) (zQ pc 236 (.iconst 1) 1))) (zH pc 243 (zH pc 240 (zQ pc 237 (.if_icmp .ne 9) 3) (zQ pc 240 (.iinc 2 (-1)) 3)) (zH pc 246 (zQ pc 243 (.goto (-17)) 3) (zH pc 247 (zQ pc 246 (.aload_n 0) 1) (zQ pc 247 (.invokevirtual 362) 3))))))))) (zH pc 385 (zH pc 320 (zH pc 284 (zH pc 268 (zH pc 259 (zH pc 254 (zH pc 253 (zQ pc 250 (.goto (-229)) 3) (zQ pc 253 (.aload_n 0) 1)) (zH pc 256 (zQ pc 254 (.bipush 43) 2) (zQ pc 256 (.invokevirtual 345) 3))) (zH pc 263 (zH pc 262 (zQ pc 259 (.ifCond .ne 21) 3) (zQ pc 262 (.aload_n 0) 1)) (zH pc 265 (zQ pc 263 (.bipush 45) 2) (zQ pc 265 (.invokevirtual 345) 3)))) (zH pc 277 (zH pc 272 (zH pc 271 (zQ pc 268 (.ifCond .ne 12) 3) (zQ pc 271 (.aload_n 0) 1)) (zH pc 274 (zQ pc 272 (.bipush 42) 2) (zQ pc 274 (.invokevirtual 345) 3))) (zH pc 281 (zH pc 280 (zQ pc 277 (.ifCond .eq 42) 3) (zQ pc 280 (.aload_n 0) 1)) (zH pc 282 (zQ pc 281 (.aload_n 0) 1) (zQ pc 282 (.bipush 43) 2))))) (zH pc 304 (zH pc 295 (zH pc 290 (zH pc 287 (zQ pc 284 (.invokevirtual 345) 3) (zQ pc 287 (.ifCond .eq 8) 3)) (zH pc 292 (zQ pc 290 (.bipush 20) 2) (zQ pc 292 (.goto 19) 3))) (zH pc 298 (zH pc 296 (zQ pc 295 (.aload_n 0) 1) (zQ pc 296 (.bipush 45) 2)) (zH pc 301 (zQ pc 298 (.invokevirtual 345) 3) (zQ pc 301 (.ifCond .eq 8) 3)))) (zH pc 314 (zH pc 309 (zH pc 306 (zQ pc 304 (.bipush 21) 2) (zQ pc 306 (.goto 5) 3)) (zH pc 311 (zQ pc 309 (.bipush 22) 2) (zQ pc 311 (.invokevirtual 358) 3))) (zH pc 316 (zH pc 315 (zQ pc 314 (.iconst 1) 1) (zQ pc 315 (.istore_n 3) 1)) (zH pc 319 (zQ pc 316 (.goto 192) 3) (zQ pc 319 (.aload_n 0) 1)))))) (zH pc 353 (zH pc 338 (zH pc 329 (zH pc 325 (zH pc 322 (zQ pc 320 (.bipush 60) 2) (zQ pc 322 (.invokevirtual 345) 3)) (zH pc 328 (zQ pc 325 (.ifCond .ne 12) 3) (zQ pc 328 (.aload_n 0) 1))) (zH pc 334 (zH pc 331 (zQ pc 329 (.bipush 61) 2) (zQ pc 331 (.invokevirtual 345) 3)) (zH pc 337 (zQ pc 334 (.ifCond .eq 44) 3) (zQ pc 337 (.aload_n 0) 1)))) (zH pc 346 (zH pc 342 (zH pc 341 (zQ pc 338 (.getfield 135) 3) (zQ pc 341 (.iload_n 2) 1)) (zH pc 343 (zQ pc 342 .baload 1) (zQ pc 343 (.ifCond .ne 35) 3))) (zH pc 348 (zH pc 347 (zQ pc 346 (.aload_n 0) 1) (zQ pc 347 (.aload_n 0) 1)) (zH pc 350 (zQ pc 348 (.bipush 60) 2) (zQ pc 350 (.invokevirtual 345) 3))))) (zH pc 371 (zH pc 363 (zH pc 358 (zH pc 356 (zQ pc 353 (.ifCond .eq 8) 3) (zQ pc 356 (.bipush 24) 2)) (zH pc 361 (zQ pc 358 (.goto 5) 3) (zQ pc 361 (.bipush 25) 2))) (zH pc 367 (zH pc 366 (zQ pc 363 (.invokevirtual 358) 3) (zQ pc 366 (.aload_n 0) 1)) (zH pc 370 (zQ pc 367 (.getfield 135) 3) (zQ pc 370 (.iload_n 2) 1)))) (zH pc 375 (zH pc 373 (zH pc 372 (zQ pc 371 (.iconst 1) 1) (zQ pc 372 .bastore 1)) (zH pc 374 (zQ pc 373 (.iconst 1) 1) (zQ pc 374 (.istore_n 3) 1))) (zH pc 379 (zH pc 378 (zQ pc 375 (.goto 133) 3) (zQ pc 378 (.aload_n 0) 1)) (zH pc 382 (zQ pc 379 (.ldc2_w 331) 3) (zQ pc 382 (.invokevirtual 341) 3))))))) (zH pc 453 (zH pc 423 (zH pc 403 (zH pc 395 (zH pc 389 (zH pc 388 (zQ pc 385 (.ifCond .ne 13) 3) (zQ pc 388 (.aload_n 0) 1)) (zH pc 392 (zQ pc 389 (.ldc2_w 333) 3) (zQ pc 392 (.invokevirtual 341) 3))) (zH pc 399 (zH pc 398 (zQ pc 395 (.ifCond .eq 36) 3) (zQ pc 398 (.aload_n 0) 1)) (zH pc 400 (zQ pc 399 (.aload_n 0) 1) (zQ pc 400 (.ldc2_w 331) 3)))) (zH pc 414 (zH pc 409 (zH pc 406 (zQ pc 403 (.invokevirtual 341) 3) (zQ pc 406 (.ifCond .eq 8) 3)) (zH pc 411 (zQ pc 409 (.bipush 26) 2) (zQ pc 411 (.goto 5) 3))) (zH pc 419 (zH pc 416 (zQ pc 414 (.bipush 27) 2) (zQ pc 416 (.invokevirtual 358) 3)) (zH pc 420 (zQ pc 419 (.aload_n 0) 1) (zQ pc 420 (.getfield 135) 3))))) (zH pc 434 (zH pc 427 (zH pc 425 (zH pc 424 (zQ pc 423 (.iload_n 2) 1) (zQ pc 424 (.iconst 0) 1)) (zH pc 426 (zQ pc 425 .bastore 1) (zQ pc 426 (.iconst 1) 1))) (zH pc 431 (zH pc 428 (zQ pc 427 (.istore_n 3) 1) (zQ pc 428 (.goto 80) 3)) (zH pc 432 (zQ pc 431 (.aload_n 0) 1) (zQ pc 432 (.bipush 41) 2)))) (zH pc 444 (zH pc 440 (zH pc 437 (zQ pc 434 (.invokevirtual 345) 3) (zQ pc 437 (.ifCond .eq 36) 3)) (zH pc 441 (zQ pc 440 (.iload_n 2) 1) (zQ pc 441 (.ifCond .le 32) 3))) (zH pc 447 (zH pc 445 (zQ pc 444 (.aload_n 0) 1) (zQ pc 445 (.bipush 29) 2)) (zH pc 450 (zQ pc 447 (.invokevirtual 358) 3) (zQ pc 450 (.iinc 2 (-1)) 3)))))) (zH pc 486 (zH pc 467 (zH pc 461 (zH pc 457 (zH pc 454 (zQ pc 453 (.iload_n 2) 1) (zQ pc 454 (.ifCond .le 54) 3)) (zH pc 458 (zQ pc 457 (.aload_n 0) 1) (zQ pc 458 (.getfield 132) 3))) (zH pc 463 (zH pc 462 (zQ pc 461 (.iload_n 2) 1) (zQ pc 462 .iaload 1)) (zH pc 464 (zQ pc 463 (.iconst 1) 1) (zQ pc 464 (.if_icmp .ne 44) 3)))) (zH pc 476 (zH pc 473 (zH pc 470 (zQ pc 467 (.iinc 2 (-1)) 3) (zQ pc 470 (.goto (-17)) 3)) (zH pc 474 (zQ pc 473 (.aload_n 0) 1) (zQ pc 474 (.bipush 59) 2))) (zH pc 482 (zH pc 479 (zQ pc 476 (.invokevirtual 345) 3) (zQ pc 479 (.ifCond .eq 23) 3)) (zH pc 483 (zQ pc 482 (.iload_n 2) 1) (zQ pc 483 (.ifCond .ne 19) 3))))) (zH pc 500 (zH pc 492 (zH pc 490 (zH pc 487 (zQ pc 486 (.aload_n 0) 1) (zQ pc 487 (.getfield 119) 3)) (zH pc 491 (zQ pc 490 (.iload_n 1) 1) (zQ pc 491 (.aload_n 0) 1))) (zH pc 496 (zH pc 495 (zQ pc 492 (.getfield 308) 3) (zQ pc 495 .iastore 1)) (zH pc 497 (zQ pc 496 (.aload_n 0) 1) (zQ pc 497 (.invokevirtual 362) 3)))) (zH pc 504 (zH pc 502 (zH pc 501 (zQ pc 500 (.iconst 1) 1) (zQ pc 501 .ireturn 1)) (zH pc 503 (zQ pc 502 (.aload_n 0) 1) (zQ pc 503 (.iconst 1) 1))) (zH pc 508 (zH pc 507 (zQ pc 504 (.invokevirtual 352) 3) (zQ pc 507 .ireturn 1)) (zH pc 509 (zQ pc 508 (.aload_n 0) 1) (zH pc 512 (zQ pc 509 (.invokevirtual 362) 3) (zQ pc 512 (.goto (-491)) 3))))))))))
def zc_173 (pc : Nat) : Option (Instr × Nat) := (zH pc 176 (zH pc 92 (zH pc 47 (zH pc 24 (zH pc 12 (zH pc 7 (zH pc 1 (zQ pc 0 (.aload_n 0) 1) (zH pc 4 (zQ pc 1 (.ldc2_w 323) 3) (zQ pc 4 (.invokevirtual 341) 3))) (zH pc 8 (zQ pc 7 (.istore_n 1) 1) (zH pc 9 (zQ pc 8 (.iload_n 1) 1) (zQ pc 9 (.ifCond .ne 19) 3)))) (zH pc 19 (zH pc 13 (zQ pc 12 (.aload_n 0) 1) (zH pc 16 (zQ pc 13 (.ldc2_w 325) 3) (zQ pc 16 (.invokevirtual 341) 3))) (zH pc 22 (zQ pc 19 (.ifCond .ne 9) 3) (zH pc 23 (zQ pc 22 (.aload_n 0) 1) (zQ pc 23 (.iconst 1) 1))))) (zH pc 34 (zH pc 29 (zH pc 27 (zQ pc 24 (.invokevirtual 352) 3) (zH pc 28 (zQ pc 27 .ireturn 1) (zQ pc 28 (.aload_n 0) 1))) (zH pc 32 (zQ pc 29 (.getfield 104) 3) (zH pc 33 (zQ pc 32 (.iconst 1) 1) (zQ pc 33 .iaload 1)))) (zH pc 40 (zH pc 36 (zQ pc 34 (.bipush 16) 2) (zH pc 39 (zQ pc 36 (.if_icmp .ne 9) 3) (zQ pc 39 (.aload_n 0) 1))) (zH pc 44 (zH pc 41 (zQ pc 40 (.iconst 5) 1) (zQ pc 41 (.invokevirtual 352) 3)) (zH pc 45 (zQ pc 44 .ireturn 1) (zQ pc 45 (.bipush 16) 2)))))) (zH pc 67 (zH pc 55 (zH pc 52 (zH pc 48 (zQ pc 47 (.aload_n 0) 1) (zH pc 51 (zQ pc 48 (.getfield 104) 3) (zQ pc 51 (.iconst 1) 1))) (zH pc 53 (zQ pc 52 .iaload 1) (zH pc 54 (zQ pc 53 .iadd 1) (zQ pc 54 (.istore_n 2) 1)))) (zH pc 60 (zH pc 56 (zQ pc 55 (.aload_n 0) 1) (zH pc 59 (zQ pc 56 (.invokevirtual 362) 3) (zQ pc 59 (.iload_n 1) 1))) (zH pc 63 (zQ pc 60 (.ifCond .eq 129) 3) (zH pc 64 (zQ pc 63 (.aload_n 0) 1) (zQ pc 64 (.getfield 295) 3))))) (zH pc 79 (zH pc 72 (zH pc 68 (zQ pc 67 (.iconst 1) 1) (zH pc 71 (zQ pc 68 (.if_icmp .ne 10) 3) (zQ pc 71 (.aload_n 0) 1))) (zH pc 75 (zQ pc 72 (.invokevirtual 348) 3) (zH pc 78 (zQ pc 75 (.ifCond .eq 9) 3) (zQ pc 78 (.aload_n 0) 1)))) (zH pc 84 (zH pc 80 (zQ pc 79 (.iconst 1) 1) (zH pc 83 (zQ pc 80 (.invokevirtual 352) 3) (zQ pc 83 .ireturn 1))) (zH pc 88 (zH pc 85 (zQ pc 84 (.aload_n 0) 1) (zQ pc 85 (.invokevirtual 355) 3)) (zH pc 91 (zQ pc 88 (.ifCond .lt 9) 3) (zQ pc 91 (.aload_n 0) 1))))))) (zH pc 137 (zH pc 113 (zH pc 102 (zH pc 97 (zH pc 93 (zQ pc 92 (.iconst 3) 1) (zH pc 96 (zQ pc 93 (.invokevirtual 352) 3) (zQ pc 96 .ireturn 1))) (zH pc 98 (zQ pc 97 (.aload_n 0) 1) (zH pc 101 (zQ pc 98 (.getfield 122) 3) (zQ pc 101 (.iconst 1) 1)))) (zH pc 108 (zH pc 103 (zQ pc 102 .iaload 1) (zH pc 105 (zQ pc 103 (.bipush 6) 2) (zQ pc 105 (.if_icmp .ne 9) 3))) (zH pc 109 (zQ pc 108 (.aload_n 0) 1) (zH pc 110 (zQ pc 109 (.iconst 5) 1) (zQ pc 110 (.invokevirtual 352) 3))))) (zH pc 123 (zH pc 118 (zH pc 114 (zQ pc 113 .ireturn 1) (zH pc 115 (zQ pc 114 (.aload_n 0) 1) (zQ pc 115 (.getfield 288) 3))) (zH pc 119 (zQ pc 118 (.lstore_n 3) 1) (zH pc 120 (zQ pc 119 (.aload_n 0) 1) (zQ pc 120 (.invokevirtual 362) 3)))) (zH pc 129 (zH pc 124 (zQ pc 123 (.aload_n 0) 1) (zH pc 126 (zQ pc 124 (.bipush 61) 2) (zQ pc 126 (.invokevirtual 345) 3))) (zH pc 133 (zH pc 132 (zQ pc 129 (.ifCond .ne 9) 3) (zQ pc 132 (.aload_n 0) 1)) (zH pc 134 (zQ pc 133 (.iconst 1) 1) (zQ pc 134 (.invokevirtual 352) 3)))))) (zH pc 157 (zH pc 147 (zH pc 142 (zH pc 138 (zQ pc 137 .ireturn 1) (zH pc 139 (zQ pc 138 (.aload_n 0) 1) (zQ pc 139 (.invokevirtual 362) 3))) (zH pc 143 (zQ pc 142 (.aload_n 0) 1) (zH pc 144 (zQ pc 143 (.iload_n 2) 1) (zQ pc 144 (.invokevirtual 365) 3)))) (zH pc 152 (zH pc 150 (zQ pc 147 (.ifCond .ne 5) 3) (zH pc 151 (zQ pc 150 (.iconst 0) 1) (zQ pc 151 .ireturn 1))) (zH pc 153 (zQ pc 152 (.aload_n 0) 1) (zH pc 156 (zQ pc 153 (.getfield 125) 3) (zQ pc 156 (.aload_n 0) 1))))) (zH pc 165 (zH pc 162 (zH pc 160 (zQ pc 157 (.getfield 122) 3) (zH pc 161 (zQ pc 160 (.iconst 1) 1) (zQ pc 161 .iaload 1))) (zH pc 163 (zQ pc 162 (.lload_n 3) 1) (zH pc 164 (zQ pc 163 .lastore 1) (zQ pc 164 (.aload_n 0) 1)))) (zH pc 170 (zH pc 168 (zQ pc 165 (.getfield 107) 3) (zH pc 169 (zQ pc 168 (.iload_n 2) 1) (zQ pc 169 (.aload_n 0) 1))) (zH pc 174 (zH pc 173 (zQ pc 170 (.getfield 122) 3) (zQ pc 173 (.iconst 1) 1)) (zH pc 175 (zQ pc 174 .iaload 1) (zQ pc 175 .iastore 1)))))))) (zH pc 265 (zH pc 218 (zH pc 194 (zH pc 184 (zH pc 181 (zH pc 177 (zQ pc 176 (.aload_n 0) 1) (zH pc 180 (zQ pc 177 (.getfield 122) 3) (zQ pc 180 (.iconst 1) 1))) (zH pc 182 (zQ pc 181 .dup2 1) (zH pc 183 (zQ pc 182 .iaload 1) (zQ pc 183 (.iconst 1) 1)))) (zH pc 189 (zH pc 185 (zQ pc 184 .iadd 1) (zH pc 186 (zQ pc 185 .iastore 1) (zQ pc 186 (.goto 152) 3))) (zH pc 190 (zQ pc 189 (.aload_n 0) 1) (zH pc 193 (zQ pc 190 (.getfield 295) 3) (zQ pc 193 (.iconst 2) 1))))) (zH pc 204 (zH pc 199 (zH pc 197 (zQ pc 194 (.if_icmp .eq 9) 3) (zH pc 198 (zQ pc 197 (.aload_n 0) 1) (zQ pc 198 (.iconst 1) 1))) (zH pc 202 (zQ pc 199 (.invokevirtual 352) 3) (zH pc 203 (zQ pc 202 .ireturn 1) (zQ pc 203 (.aload_n 0) 1)))) (zH pc 212 (zH pc 207 (zQ pc 204 (.getfield 292) 3) (zH pc 209 (zQ pc 207 (.bipush 99) 2) (zQ pc 209 (.if_icmp .le 9) 3))) (zH pc 214 (zH pc 213 (zQ pc 212 (.aload_n 0) 1) (zQ pc 213 (.iconst 4) 1)) (zH pc 217 (zQ pc 214 (.invokevirtual 352) 3) (zQ pc 217 .ireturn 1)))))) (zH pc 242 (zH pc 228 (zH pc 223 (zH pc 219 (zQ pc 218 (.aload_n 0) 1) (zH pc 222 (zQ pc 219 (.getfield 110) 3) (zQ pc 222 (.iload_n 2) 1))) (zH pc 224 (zQ pc 223 (.aload_n 0) 1) (zH pc 227 (zQ pc 224 (.getfield 292) 3) (zQ pc 227 .iastore 1)))) (zH pc 233 (zH pc 229 (zQ pc 228 (.aload_n 0) 1) (zH pc 232 (zQ pc 229 (.invokevirtual 362) 3) (zQ pc 232 (.aload_n 0) 1))) (zH pc 236 (zQ pc 233 (.ldc2_w 327) 3) (zH pc 239 (zQ pc 236 (.invokevirtual 341) 3) (zQ pc 239 (.ifCond .ne 9) 3))))) (zH pc 252 (zH pc 247 (zH pc 243 (zQ pc 242 (.aload_n 0) 1) (zH pc 244 (zQ pc 243 (.iconst 1) 1) (zQ pc 244 (.invokevirtual 352) 3))) (zH pc 248 (zQ pc 247 .ireturn 1) (zH pc 249 (zQ pc 248 (.aload_n 0) 1) (zQ pc 249 (.invokevirtual 362) 3)))) (zH pc 257 (zH pc 253 (zQ pc 252 (.aload_n 0) 1) (zH pc 256 (zQ pc 253 (.getfield 295) 3) (zQ pc 256 (.iconst 2) 1))) (zH pc 261 (zH pc 260 (zQ pc 257 (.if_icmp .eq 9) 3) (zQ pc 260 (.aload_n 0) 1)) (zH pc 262 (zQ pc 261 (.iconst 1) 1) (zQ pc 262 (.invokevirtual 352) 3))))))) (zH pc 313 (zH pc 288 (zH pc 278 (zH pc 270 (zH pc 266 (zQ pc 265 .ireturn 1) (zH pc 267 (zQ pc 266 (.aload_n 0) 1) (zQ pc 267 (.getfield 292) 3))) (zH pc 272 (zQ pc 270 (.bipush 30) 2) (zH pc 275 (zQ pc 272 (.sipush 9999) 3) (zQ pc 275 (.invokestatic 212) 3)))) (zH pc 283 (zH pc 281 (zQ pc 278 (.ifCond .ne 9) 3) (zH pc 282 (zQ pc 281 (.aload_n 0) 1) (zQ pc 282 (.iconst 4) 1))) (zH pc 286 (zQ pc 283 (.invokevirtual 352) 3) (zH pc 287 (zQ pc 286 .ireturn 1) (zQ pc 287 (.aload_n 0) 1))))) (zH pc 298 (zH pc 293 (zH pc 291 (zQ pc 288 (.getfield 113) 3) (zH pc 292 (zQ pc 291 (.iload_n 2) 1) (zQ pc 292 (.aload_n 0) 1))) (zH pc 296 (zQ pc 293 (.getfield 292) 3) (zH pc 297 (zQ pc 296 .iastore 1) (zQ pc 297 (.aload_n 0) 1)))) (zH pc 305 (zH pc 301 (zQ pc 298 (.invokevirtual 362) 3) (zH pc 302 (zQ pc 301 (.aload_n 0) 1) (zQ pc 302 (.ldc2_w 329) 3))) (zH pc 311 (zH pc 308 (zQ pc 305 (.invokevirtual 341) 3) (zQ pc 308 (.ifCond .ne 9) 3)) (zH pc 312 (zQ pc 311 (.aload_n 0) 1) (zQ pc 312 (.iconst 1) 1)))))) (zH pc 335 (zH pc 323 (zH pc 318 (zH pc 316 (zQ pc 313 (.invokevirtual 352) 3) (zH pc 317 (zQ pc 316 .ireturn 1) (zQ pc 317 (.aload_n 0) 1))) (zH pc 321 (zQ pc 318 (.invokevirtual 362) 3) (zH pc 322 (zQ pc 321 (.aload_n 0) 1) (zQ pc 322 (.iload_n 2) 1)))) (zH pc 330 (zH pc 326 (zQ pc 323 (.invokevirtual 365) 3) (zH pc 329 (zQ pc 326 (.ifCond .ne 5) 3) (zQ pc 329 (.iconst 0) 1))) (zH pc 331 (zQ pc 330 .ireturn 1) (zH pc 332 (zQ pc 331 (.aload_n 0) 1) (zQ pc 332 (.getfield 107) 3))))) (zH pc 343 (zH pc 338 (zH pc 336 (zQ pc 335 (.iload_n 2) 1) (zH pc 337 (zQ pc 336 (.iconst (-1)) 1) (zQ pc 337 .iastore 1))) (zH pc 339 (zQ pc 338 (.aload_n 0) 1) (zH pc 342 (zQ pc 339 (.getfield 104) 3) (zQ pc 342 (.iconst 1) 1)))) (zH pc 346 (zH pc 344 (zQ pc 343 .dup2 1) (zH pc 345 (zQ pc 344 .iaload 1) (zQ pc 345 (.iconst 1) 1))) (zH pc 348 (zH pc 347 (zQ pc 346 .iadd 1) (zQ pc 347 .iastore 1)) (zH pc 349 (zQ pc 348 (.iconst 1) 1) (zQ pc 349 .ireturn 1)))))))))
def zc_174 (pc : Nat) : Option (Instr × Nat) := (zH pc 112 (zH pc 59 (zH pc 28 (zH pc 14 (zH pc 6 (zH pc 2 (zH pc 1 (zQ pc 0 (.aload_n 0) 1) (zQ pc 1 (.iconst 0) 1)) (zH pc 5 (zQ pc 2 (.putfield 201) 3) (zQ pc 5 (.aload_n 0) 1))) (zH pc 10 (zH pc 7 (zQ pc 6 (.aload_n 0) 1) (zQ pc 7 (.getfield 276) 3)) (zH pc 13 (zQ pc 10 (.putfield 279) 3) (zQ pc 13 (.aload_n 0) 1)))) (zH pc 20 (zH pc 18 (zH pc 15 (zQ pc 14 (.iconst 0) 1) (zQ pc 15 (.putfield 276) 3)) (zH pc 19 (zQ pc 18 (.aload_n 0) 1) (zQ pc 19 (.iconst 0) 1))) (zH pc 24 (zH pc 23 (zQ pc 20 (.putfield 282) 3) (zQ pc 23 (.aload_n 0) 1)) (zH pc 27 (zQ pc 24 (.getfield 104) 3) (zQ pc 27 (.iconst 1) 1))))) (zH pc 38 (zH pc 34 (zH pc 30 (zH pc 29 (zQ pc 28 (.iconst 0) 1) (zQ pc 29 .iastore 1)) (zH pc 31 (zQ pc 30 (.aload_n 0) 1) (zQ pc 31 (.getfield 122) 3))) (zH pc 36 (zH pc 35 (zQ pc 34 (.iconst 1) 1) (zQ pc 35 (.iconst 0) 1)) (zH pc 37 (zQ pc 36 .iastore 1) (zQ pc 37 (.aload_n 0) 1)))) (zH pc 48 (zH pc 44 (zH pc 41 (zQ pc 38 (.sipush 1000) 3) (zQ pc 41 (.putfield 308) 3)) (zH pc 45 (zQ pc 44 (.aload_n 0) 1) (zQ pc 45 (.invokevirtual 362) 3))) (zH pc 52 (zH pc 49 (zQ pc 48 (.aload_n 0) 1) (zQ pc 49 (.getfield 295) 3)) (zH pc 55 (zQ pc 52 (.ifCond .eq 15) 3) (zH pc 56 (zQ pc 55 (.aload_n 0) 1) (zQ pc 56 (.invokevirtual 368) 3))))))) (zH pc 85 (zH pc 73 (zH pc 67 (zH pc 63 (zH pc 62 (zQ pc 59 (.ifCond .ne (-11)) 3) (zQ pc 62 (.aload_n 0) 1)) (zH pc 66 (zQ pc 63 (.getfield 305) 3) (zQ pc 66 .ireturn 1))) (zH pc 71 (zH pc 68 (zQ pc 67 (.aload_n 0) 1) (zQ pc 68 (.getfield 104) 3)) (zH pc 72 (zQ pc 71 (.iconst 0) 1) (zQ pc 72 (.aload_n 0) 1)))) (zH pc 79 (zH pc 77 (zH pc 76 (zQ pc 73 (.getfield 104) 3) (zQ pc 76 (.iconst 1) 1)) (zH pc 78 (zQ pc 77 .iaload 1) (zQ pc 78 .iastore 1))) (zH pc 83 (zH pc 80 (zQ pc 79 (.aload_n 0) 1) (zQ pc 80 (.getfield 122) 3)) (zH pc 84 (zQ pc 83 (.iconst 0) 1) (zQ pc 84 (.aload_n 0) 1))))) (zH pc 96 (zH pc 91 (zH pc 89 (zH pc 88 (zQ pc 85 (.getfield 122) 3) (zQ pc 88 (.iconst 1) 1)) (zH pc 90 (zQ pc 89 .iaload 1) (zQ pc 90 .iastore 1))) (zH pc 93 (zH pc 92 (zQ pc 91 (.iconst 0) 1) (zQ pc 92 (.istore_n 1) 1)) (zH pc 94 (zQ pc 93 (.iload_n 1) 1) (zQ pc 94 (.bipush 16) 2)))) (zH pc 104 (zH pc 100 (zH pc 99 (zQ pc 96 (.if_icmp .ge 92) 3) (zQ pc 99 (.aload_n 0) 1)) (zH pc 103 (zQ pc 100 (.getfield 107) 3) (zQ pc 103 (.iload_n 1) 1))) (zH pc 108 (zH pc 105 (zQ pc 104 (.aload_n 0) 1) (zQ pc 105 (.getfield 107) 3)) (zH pc 110 (zQ pc 108 (.bipush 16) 2) (zH pc 111 (zQ pc 110 (.iload_n 1) 1) (zQ pc 111 .iadd 1)))))))) (zH pc 162 (zH pc 135 (zH pc 125 (zH pc 118 (zH pc 114 (zH pc 113 (zQ pc 112 .iaload 1) (zQ pc 113 .iastore 1)) (zH pc 115 (zQ pc 114 (.aload_n 0) 1) (zQ pc 115 (.getfield 110) 3))) (zH pc 120 (zH pc 119 (zQ pc 118 (.iload_n 1) 1) (zQ pc 119 (.aload_n 0) 1)) (zH pc 123 (zQ pc 120 (.getfield 110) 3) (zQ pc 123 (.bipush 16) 2)))) (zH pc 129 (zH pc 127 (zH pc 126 (zQ pc 125 (.iload_n 1) 1) (zQ pc 126 .iadd 1)) (zH pc 128 (zQ pc 127 .iaload 1) (zQ pc 128 .iastore 1))) (zH pc 133 (zH pc 130 (zQ pc 129 (.aload_n 0) 1) (zQ pc 130 (.getfield 113) 3)) (zH pc 134 (zQ pc 133 (.iload_n 1) 1) (zQ pc 134 (.aload_n 0) 1))))) (zH pc 148 (zH pc 142 (zH pc 140 (zH pc 138 (zQ pc 135 (.getfield 113) 3) (zQ pc 138 (.bipush 16) 2)) (zH pc 141 (zQ pc 140 (.iload_n 1) 1) (zQ pc 141 .iadd 1))) (zH pc 144 (zH pc 143 (zQ pc 142 .iaload 1) (zQ pc 143 .iastore 1)) (zH pc 145 (zQ pc 144 (.aload_n 0) 1) (zQ pc 145 (.getfield 116) 3)))) (zH pc 155 (zH pc 150 (zH pc 149 (zQ pc 148 (.iload_n 1) 1) (zQ pc 149 (.aload_n 0) 1)) (zH pc 153 (zQ pc 150 (.getfield 116) 3) (zQ pc 153 (.bipush 16) 2))) (zH pc 157 (zH pc 156 (zQ pc 155 (.iload_n 1) 1) (zQ pc 156 .iadd 1)) (zH pc 158 (zQ pc 157 .iaload 1) (zH pc 161 (zQ pc 158 (.sipush 1000) 3) (zQ pc 161 .isub 1))))))) (zH pc 190 (zH pc 175 (zH pc 168 (zH pc 164 (zH pc 163 (zQ pc 162 .iastore 1) (zQ pc 163 (.aload_n 0) 1)) (zH pc 167 (zQ pc 164 (.getfield 119) 3) (zQ pc 167 (.iload_n 1) 1))) (zH pc 172 (zH pc 169 (zQ pc 168 (.aload_n 0) 1) (zQ pc 169 (.getfield 119) 3)) (zH pc 174 (zQ pc 172 (.bipush 16) 2) (zQ pc 174 (.iload_n 1) 1)))) (zH pc 181 (zH pc 177 (zH pc 176 (zQ pc 175 .iadd 1) (zQ pc 176 .iaload 1)) (zH pc 180 (zQ pc 177 (.sipush 1000) 3) (zQ pc 180 .isub 1))) (zH pc 185 (zH pc 182 (zQ pc 181 .iastore 1) (zQ pc 182 (.iinc 1 1) 3)) (zH pc 188 (zQ pc 185 (.goto (-92)) 3) (zH pc 189 (zQ pc 188 (.iconst 0) 1) (zQ pc 189 (.istore_n 1) 1)))))) (zH pc 206 (zH pc 198 (zH pc 194 (zH pc 191 (zQ pc 190 (.iload_n 1) 1) (zQ pc 191 (.sipush 1000) 3)) (zH pc 197 (zQ pc 194 (.if_icmp .ge 25) 3) (zQ pc 197 (.aload_n 0) 1))) (zH pc 202 (zH pc 201 (zQ pc 198 (.getfield 129) 3) (zQ pc 201 (.iload_n 1) 1)) (zH pc 203 (zQ pc 202 (.aload_n 0) 1) (zQ pc 203 (.getfield 129) 3)))) (zH pc 212 (zH pc 210 (zH pc 209 (zQ pc 206 (.sipush 1000) 3) (zQ pc 209 (.iload_n 1) 1)) (zH pc 211 (zQ pc 210 .iadd 1) (zQ pc 211 .iaload 1))) (zH pc 216 (zH pc 213 (zQ pc 212 .iastore 1) (zQ pc 213 (.iinc 1 1) 3)) (zH pc 219 (zQ pc 216 (.goto (-26)) 3) (zH pc 220 (zQ pc 219 (.iconst 0) 1) (zQ pc 220 .ireturn 1)))))))))
def zc_175 (pc : Nat) : Option (Instr × Nat) := (zH pc 19 (zH pc 8 (zH pc 5 (zH pc 1 (zQ pc 0 (.aload_n 0) 1) (zH pc 4 (zQ pc 1 (.getfield 141) 3) (zQ pc 4 (.iload_n 1) 1))) (zH pc 6 (zQ pc 5 (.iconst 0) 1) (zH pc 7 (zQ pc 6 .iastore 1) (zQ pc 7 (.aload_n 0) 1)))) (zH pc 13 (zH pc 11 (zQ pc 8 (.getfield 147) 3) (zH pc 12 (zQ pc 11 (.iload_n 1) 1) (zQ pc 12 (.iconst 0) 1))) (zH pc 15 (zH pc 14 (zQ pc 13 .iastore 1) (zQ pc 14 (.aload_n 0) 1)) (zH pc 18 (zQ pc 15 (.getfield 150) 3) (zQ pc 18 (.iload_n 1) 1))))) (zH pc 28 (zH pc 22 (zH pc 20 (zQ pc 19 (.iconst 0) 1) (zH pc 21 (zQ pc 20 .iastore 1) (zQ pc 21 (.aload_n 0) 1))) (zH pc 25 (zQ pc 22 (.getfield 153) 3) (zH pc 26 (zQ pc 25 (.iload_n 1) 1) (zQ pc 26 (.bipush 20) 2)))) (zH pc 33 (zH pc 29 (zQ pc 28 .iastore 1) (zH pc 30 (zQ pc 29 (.aload_n 0) 1) (zQ pc 30 (.getfield 159) 3))) (zH pc 35 (zH pc 34 (zQ pc 33 (.iload_n 1) 1) (zQ pc 34 (.iconst 0) 1)) (zH pc 36 (zQ pc 35 .bastore 1) (zQ pc 36 .return_ 1))))))
def zc_176 (pc : Nat) : Option (Instr × Nat) := (zH pc 28 (zH pc 13 (zH pc 6 (zH pc 4 (zH pc 1 (zQ pc 0 (.aload_n 0) 1) (zQ pc 1 (.getfield 150) 3)) (zH pc 5 (zQ pc 4 (.iload_n 1) 1) (zQ pc 5 (.aload_n 0) 1))) (zH pc 10 (zH pc 9 (zQ pc 6 (.getfield 153) 3) (zQ pc 9 (.iload_n 1) 1)) (zH pc 11 (zQ pc 10 .iaload 1) (zQ pc 11 (.bipush 21) 2)))) (zH pc 21 (zH pc 17 (zH pc 16 (zQ pc 13 (.if_icmp .ne 19) 3) (zQ pc 16 (.aload_n 0) 1)) (zH pc 20 (zQ pc 17 (.getfield 150) 3) (zQ pc 20 (.iload_n 1) 1))) (zH pc 23 (zH pc 22 (zQ pc 21 .iaload 1) (zQ pc 22 (.aload_n 0) 1)) (zH pc 26 (zQ pc 23 (.getfield 156) 3) (zH pc 27 (zQ pc 26 (.iload_n 1) 1) (zQ pc 27 .iaload 1)))))) (zH pc 43 (zH pc 36 (zH pc 32 (zH pc 29 (zQ pc 28 .isub 1) (zQ pc 29 (.goto 16) 3)) (zH pc 33 (zQ pc 32 (.aload_n 0) 1) (zQ pc 33 (.getfield 150) 3))) (zH pc 38 (zH pc 37 (zQ pc 36 (.iload_n 1) 1) (zQ pc 37 .iaload 1)) (zH pc 39 (zQ pc 38 (.aload_n 0) 1) (zH pc 42 (zQ pc 39 (.getfield 156) 3) (zQ pc 42 (.iload_n 1) 1))))) (zH pc 47 (zH pc 45 (zH pc 44 (zQ pc 43 .iaload 1) (zQ pc 44 .iadd 1)) (zH pc 46 (zQ pc 45 .iastore 1) (zQ pc 46 (.aload_n 0) 1))) (zH pc 51 (zH pc 50 (zQ pc 47 (.getfield 159) 3) (zQ pc 50 (.iload_n 1) 1)) (zH pc 52 (zQ pc 51 (.iconst 0) 1) (zH pc 53 (zQ pc 52 .bastore 1) (zQ pc 53 .return_ 1)))))))
def zc_177 (pc : Nat) : Option (Instr × Nat) := (zH pc 82 (zH pc 42 (zH pc 18 (zH pc 10 (zH pc 5 (zH pc 1 (zQ pc 0 (.aload_n 0) 1) (zH pc 2 (zQ pc 1 (.iload_n 1) 1) (zQ pc 2 (.invokevirtual 371) 3))) (zH pc 6 (zQ pc 5 (.aload_n 0) 1) (zH pc 9 (zQ pc 6 (.getfield 150) 3) (zQ pc 9 (.iload_n 1) 1)))) (zH pc 13 (zH pc 11 (zQ pc 10 .iaload 1) (zH pc 12 (zQ pc 11 (.istore_n 2) 1) (zQ pc 12 (.aload_n 0) 1))) (zH pc 16 (zQ pc 13 (.getfield 147) 3) (zH pc 17 (zQ pc 16 (.iload_n 1) 1) (zQ pc 17 .iaload 1))))) (zH pc 29 (zH pc 24 (zH pc 20 (zQ pc 18 (.bipush 24) 2) (zH pc 23 (zQ pc 20 (.if_icmp .ne 24) 3) (zQ pc 23 (.aload_n 0) 1))) (zH pc 27 (zQ pc 24 (.getfield 144) 3) (zH pc 28 (zQ pc 27 (.iload_n 1) 1) (zQ pc 28 .iaload 1)))) (zH pc 34 (zH pc 30 (zQ pc 29 (.aload_n 0) 1) (zH pc 33 (zQ pc 30 (.getfield 150) 3) (zQ pc 33 (.iload_n 1) 1))) (zH pc 38 (zH pc 35 (zQ pc 34 .iaload 1) (zQ pc 35 (.if_icmp .ge 7) 3)) (zH pc 39 (zQ pc 38 (.iconst 1) 1) (zQ pc 39 (.goto 4) 3)))))) (zH pc 61 (zH pc 50 (zH pc 45 (zH pc 43 (zQ pc 42 (.iconst 0) 1) (zH pc 44 (zQ pc 43 (.istore_n 2) 1) (zQ pc 44 (.aload_n 0) 1))) (zH pc 48 (zQ pc 45 (.getfield 147) 3) (zH pc 49 (zQ pc 48 (.iload_n 1) 1) (zQ pc 49 .iaload 1)))) (zH pc 56 (zH pc 52 (zQ pc 50 (.bipush 25) 2) (zH pc 55 (zQ pc 52 (.if_icmp .ne 24) 3) (zQ pc 55 (.aload_n 0) 1))) (zH pc 59 (zQ pc 56 (.getfield 144) 3) (zH pc 60 (zQ pc 59 (.iload_n 1) 1) (zQ pc 60 .iaload 1))))) (zH pc 71 (zH pc 66 (zH pc 62 (zQ pc 61 (.aload_n 0) 1) (zH pc 65 (zQ pc 62 (.getfield 150) 3) (zQ pc 65 (.iload_n 1) 1))) (zH pc 67 (zQ pc 66 .iaload 1) (zH pc 70 (zQ pc 67 (.if_icmp .ne 7) 3) (zQ pc 70 (.iconst 1) 1)))) (zH pc 76 (zH pc 74 (zQ pc 71 (.goto 4) 3) (zH pc 75 (zQ pc 74 (.iconst 0) 1) (zQ pc 75 (.istore_n 2) 1))) (zH pc 80 (zH pc 77 (zQ pc 76 (.aload_n 0) 1) (zQ pc 77 (.getfield 141) 3)) (zH pc 81 (zQ pc 80 (.iload_n 1) 1) (zQ pc 81 .iaload 1))))))) (zH pc 127 (zH pc 105 (zH pc 93 (zH pc 88 (zH pc 84 (zQ pc 82 (.bipush 26) 2) (zH pc 87 (zQ pc 84 (.if_icmp .ne 22) 3) (zQ pc 87 (.aload_n 0) 1))) (zH pc 91 (zQ pc 88 (.getfield 138) 3) (zH pc 92 (zQ pc 91 (.iload_n 1) 1) (zQ pc 92 .iaload 1)))) (zH pc 100 (zH pc 96 (zQ pc 93 (.ifCond .eq 11) 3) (zH pc 97 (zQ pc 96 (.iload_n 2) 1) (zQ pc 97 (.ifCond .eq 7) 3))) (zH pc 101 (zQ pc 100 (.iconst 1) 1) (zH pc 104 (zQ pc 101 (.goto 4) 3) (zQ pc 104 (.iconst 0) 1))))) (zH pc 114 (zH pc 110 (zH pc 106 (zQ pc 105 (.istore_n 2) 1) (zH pc 107 (zQ pc 106 (.aload_n 0) 1) (zQ pc 107 (.getfield 141) 3))) (zH pc 111 (zQ pc 110 (.iload_n 1) 1) (zH pc 112 (zQ pc 111 .iaload 1) (zQ pc 112 (.bipush 27) 2)))) (zH pc 121 (zH pc 117 (zQ pc 114 (.if_icmp .ne 22) 3) (zH pc 118 (zQ pc 117 (.aload_n 0) 1) (zQ pc 118 (.getfield 138) 3))) (zH pc 123 (zH pc 122 (zQ pc 121 (.iload_n 1) 1) (zQ pc 122 .iaload 1)) (zH pc 126 (zQ pc 123 (.ifCond .ne 7) 3) (zQ pc 126 (.iload_n 2) 1)))))) (zH pc 148 (zH pc 137 (zH pc 134 (zH pc 130 (zQ pc 127 (.ifCond .eq 7) 3) (zH pc 131 (zQ pc 130 (.iconst 1) 1) (zQ pc 131 (.goto 4) 3))) (zH pc 135 (zQ pc 134 (.iconst 0) 1) (zH pc 136 (zQ pc 135 (.istore_n 2) 1) (zQ pc 136 (.aload_n 0) 1)))) (zH pc 142 (zH pc 140 (zQ pc 137 (.getfield 138) 3) (zH pc 141 (zQ pc 140 (.iload_n 1) 1) (zQ pc 141 (.iload_n 2) 1))) (zH pc 144 (zH pc 143 (zQ pc 142 .iastore 1) (zQ pc 143 (.aload_n 0) 1)) (zH pc 147 (zQ pc 144 (.getfield 147) 3) (zQ pc 147 (.iload_n 1) 1))))) (zH pc 156 (zH pc 151 (zH pc 149 (zQ pc 148 (.iconst 0) 1) (zH pc 150 (zQ pc 149 .iastore 1) (zQ pc 150 (.aload_n 0) 1))) (zH pc 154 (zQ pc 151 (.getfield 150) 3) (zH pc 155 (zQ pc 154 (.iload_n 1) 1) (zQ pc 155 (.iconst 0) 1)))) (zH pc 161 (zH pc 157 (zQ pc 156 .iastore 1) (zH pc 158 (zQ pc 157 (.aload_n 0) 1) (zQ pc 158 (.getfield 153) 3))) (zH pc 164 (zH pc 162 (zQ pc 161 (.iload_n 1) 1) (zQ pc 162 (.bipush 20) 2)) (zH pc 165 (zQ pc 164 .iastore 1) (zQ pc 165 .return_ 1))))))))
def zc_178 (pc : Nat) : Option (Instr × Nat) := (zH pc 176 (zH pc 90 (zH pc 39 (zH pc 16 (zH pc 8 (zH pc 3 (zH pc 1 (zQ pc 0 (.iconst 0) 1) (zH pc 2 (zQ pc 1 (.istore_n 2) 1) (zQ pc 2 (.aload_n 0) 1))) (zH pc 4 (zQ pc 3 (.iconst 0) 1) (zH pc 7 (zQ pc 4 (.invokevirtual 374) 3) (zQ pc 7 (.aload_n 0) 1)))) (zH pc 13 (zH pc 11 (zQ pc 8 (.getfield 116) 3) (zH pc 12 (zQ pc 11 (.iload_n 1) 1) (zQ pc 12 .iaload 1))) (zH pc 14 (zQ pc 13 (.istore_n 3) 1) (zH pc 15 (zQ pc 14 (.iload_n 3) 1) (zQ pc 15 (.aload_n 0) 1))))) (zH pc 28 (zH pc 21 (zH pc 19 (zQ pc 16 (.getfield 119) 3) (zH pc 20 (zQ pc 19 (.iload_n 1) 1) (zQ pc 20 .iaload 1))) (zH pc 24 (zQ pc 21 (.if_icmp .ge 333) 3) (zH pc 25 (zQ pc 24 (.aload_n 0) 1) (zQ pc 25 (.getfield 129) 3)))) (zH pc 32 (zH pc 29 (zQ pc 28 (.iload_n 3) 1) (zH pc 30 (zQ pc 29 .iaload 1) (zQ pc 30 (.istore 4) 2))) (zH pc 34 (zQ pc 32 (.iload 4) 2) (zH pc 36 (zQ pc 34 (.bipush 28) 2) (zQ pc 36 (.if_icmp .eq 10) 3)))))) (zH pc 65 (zH pc 53 (zH pc 46 (zH pc 41 (zQ pc 39 (.iload 4) 2) (zH pc 43 (zQ pc 41 (.bipush 30) 2) (zQ pc 43 (.if_icmp .ne 32) 3))) (zH pc 49 (zQ pc 46 (.iinc 2 1) 3) (zH pc 50 (zQ pc 49 (.aload_n 0) 1) (zQ pc 50 (.getfield 162) 3)))) (zH pc 58 (zH pc 54 (zQ pc 53 (.iload_n 2) 1) (zH pc 56 (zQ pc 54 (.iload 4) 2) (zQ pc 56 (.bipush 30) 2))) (zH pc 61 (zQ pc 58 (.if_icmp .ne 7) 3) (zH pc 62 (zQ pc 61 (.iconst 1) 1) (zQ pc 62 (.goto 4) 3))))) (zH pc 75 (zH pc 68 (zH pc 66 (zQ pc 65 (.iconst 0) 1) (zH pc 67 (zQ pc 66 .iastore 1) (zQ pc 67 (.aload_n 0) 1))) (zH pc 69 (zQ pc 68 (.iload_n 2) 1) (zH pc 72 (zQ pc 69 (.invokevirtual 374) 3) (zQ pc 72 (.goto 276) 3)))) (zH pc 82 (zH pc 77 (zQ pc 75 (.iload 4) 2) (zH pc 79 (zQ pc 77 (.bipush 20) 2) (zQ pc 79 (.if_icmp .eq 10) 3))) (zH pc 86 (zH pc 84 (zQ pc 82 (.iload 4) 2) (zQ pc 84 (.bipush 21) 2)) (zH pc 89 (zQ pc 86 (.if_icmp .ne 19) 3) (zQ pc 89 (.aload_n 0) 1))))))) (zH pc 137 (zH pc 113 (zH pc 101 (zH pc 95 (zH pc 91 (zQ pc 90 (.iload_n 2) 1) (zH pc 94 (zQ pc 91 (.invokevirtual 371) 3) (zQ pc 94 (.aload_n 0) 1))) (zH pc 98 (zQ pc 95 (.getfield 153) 3) (zH pc 99 (zQ pc 98 (.iload_n 2) 1) (zQ pc 99 (.iload 4) 2)))) (zH pc 107 (zH pc 102 (zQ pc 101 .iastore 1) (zH pc 105 (zQ pc 102 (.goto 246) 3) (zQ pc 105 (.iload 4) 2))) (zH pc 109 (zQ pc 107 (.bipush 22) 2) (zH pc 112 (zQ pc 109 (.if_icmp .ne 13) 3) (zQ pc 112 (.aload_n 0) 1))))) (zH pc 124 (zH pc 118 (zH pc 116 (zQ pc 113 (.getfield 159) 3) (zH pc 117 (zQ pc 116 (.iload_n 2) 1) (zQ pc 117 (.iconst 1) 1))) (zH pc 119 (zQ pc 118 .bastore 1) (zH pc 122 (zQ pc 119 (.goto 229) 3) (zQ pc 122 (.iload 4) 2)))) (zH pc 131 (zH pc 126 (zQ pc 124 (.bipush 24) 2) (zH pc 129 (zQ pc 126 (.if_icmp .eq 10) 3) (zQ pc 129 (.iload 4) 2))) (zH pc 133 (zQ pc 131 (.bipush 25) 2) (zH pc 136 (zQ pc 133 (.if_icmp .ne 46) 3) (zQ pc 136 (.aload_n 0) 1)))))) (zH pc 157 (zH pc 147 (zH pc 142 (zH pc 138 (zQ pc 137 (.iload_n 2) 1) (zH pc 141 (zQ pc 138 (.invokevirtual 371) 3) (zQ pc 141 (.aload_n 0) 1))) (zH pc 145 (zQ pc 142 (.getfield 144) 3) (zH pc 146 (zQ pc 145 (.iload_n 2) 1) (zQ pc 146 (.aload_n 0) 1)))) (zH pc 152 (zH pc 150 (zQ pc 147 (.getfield 150) 3) (zH pc 151 (zQ pc 150 (.iload_n 2) 1) (zQ pc 151 .iaload 1))) (zH pc 153 (zQ pc 152 .iastore 1) (zH pc 154 (zQ pc 153 (.aload_n 0) 1) (zQ pc 154 (.getfield 147) 3))))) (zH pc 166 (zH pc 161 (zH pc 158 (zQ pc 157 (.iload_n 2) 1) (zH pc 160 (zQ pc 158 (.iload 4) 2) (zQ pc 160 .iastore 1))) (zH pc 162 (zQ pc 161 (.aload_n 0) 1) (zH pc 165 (zQ pc 162 (.getfield 150) 3) (zQ pc 165 (.iload_n 2) 1)))) (zH pc 169 (zH pc 167 (zQ pc 166 (.iconst 0) 1) (zH pc 168 (zQ pc 167 .iastore 1) (zQ pc 168 (.aload_n 0) 1))) (zH pc 173 (zH pc 172 (zQ pc 169 (.getfield 153) 3) (zQ pc 172 (.iload_n 2) 1)) (zH pc 175 (zQ pc 173 (.bipush 20) 2) (zQ pc 175 .iastore 1)))))))) (zH pc 276 (zH pc 226 (zH pc 202 (zH pc 190 (zH pc 183 (zH pc 179 (zQ pc 176 (.goto 172) 3) (zH pc 181 (zQ pc 179 (.iload 4) 2) (zQ pc 181 (.bipush 26) 2))) (zH pc 186 (zQ pc 183 (.if_icmp .eq 10) 3) (zH pc 188 (zQ pc 186 (.iload 4) 2) (zQ pc 188 (.bipush 27) 2)))) (zH pc 195 (zH pc 193 (zQ pc 190 (.if_icmp .ne 19) 3) (zH pc 194 (zQ pc 193 (.aload_n 0) 1) (zQ pc 194 (.iload_n 2) 1))) (zH pc 198 (zQ pc 195 (.invokevirtual 377) 3) (zH pc 199 (zQ pc 198 (.aload_n 0) 1) (zQ pc 199 (.getfield 141) 3))))) (zH pc 213 (zH pc 206 (zH pc 203 (zQ pc 202 (.iload_n 2) 1) (zH pc 205 (zQ pc 203 (.iload 4) 2) (zQ pc 205 .iastore 1))) (zH pc 209 (zQ pc 206 (.goto 142) 3) (zH pc 211 (zQ pc 209 (.iload 4) 2) (zQ pc 211 (.bipush 100) 2)))) (zH pc 220 (zH pc 216 (zQ pc 213 (.if_icmp .lt 11) 3) (zH pc 218 (zQ pc 216 (.iload 4) 2) (zQ pc 218 (.bipush 100) 2))) (zH pc 221 (zQ pc 220 .isub 1) (zH pc 224 (zQ pc 221 (.goto 41) 3) (zQ pc 224 (.iload 4) 2)))))) (zH pc 252 (zH pc 238 (zH pc 232 (zH pc 228 (zQ pc 226 (.bipush 10) 2) (zH pc 231 (zQ pc 228 (.if_icmp .ge 13) 3) (zQ pc 231 (.aload_n 0) 1))) (zH pc 235 (zQ pc 232 (.getfield 165) 3) (zH pc 237 (zQ pc 235 (.iload 4) 2) (zQ pc 237 .iaload 1)))) (zH pc 245 (zH pc 241 (zQ pc 238 (.goto 24) 3) (zH pc 243 (zQ pc 241 (.iload 4) 2) (zQ pc 243 (.bipush 20) 2))) (zH pc 248 (zQ pc 245 (.if_icmp .ge 16) 3) (zH pc 249 (zQ pc 248 (.aload_n 0) 1) (zQ pc 249 (.getfield 168) 3))))) (zH pc 262 (zH pc 257 (zH pc 254 (zQ pc 252 (.iload 4) 2) (zH pc 256 (zQ pc 254 (.bipush 10) 2) (zQ pc 256 .isub 1))) (zH pc 258 (zQ pc 257 .iaload 1) (zH pc 261 (zQ pc 258 (.goto 4) 3) (zQ pc 261 (.iconst 0) 1)))) (zH pc 268 (zH pc 264 (zQ pc 262 (.istore 5) 2) (zH pc 266 (zQ pc 264 (.iload 4) 2) (zQ pc 266 (.bipush 29) 2))) (zH pc 272 (zH pc 271 (zQ pc 268 (.if_icmp .ne 19) 3) (zQ pc 271 (.aload_n 0) 1)) (zH pc 273 (zQ pc 272 (.iload_n 2) 1) (zQ pc 273 (.invokevirtual 377) 3))))))) (zH pc 323 (zH pc 297 (zH pc 287 (zH pc 281 (zH pc 277 (zQ pc 276 (.aload_n 0) 1) (zH pc 280 (zQ pc 277 (.getfield 138) 3) (zQ pc 280 (.iload_n 2) 1))) (zH pc 282 (zQ pc 281 .iaload 1) (zH pc 284 (zQ pc 282 (.istore 5) 2) (zQ pc 284 (.iinc 2 (-1)) 3)))) (zH pc 292 (zH pc 288 (zQ pc 287 (.iload_n 2) 1) (zH pc 291 (zQ pc 288 (.ifCond .le 31) 3) (zQ pc 291 (.aload_n 0) 1))) (zH pc 295 (zQ pc 292 (.getfield 162) 3) (zH pc 296 (zQ pc 295 (.iload_n 2) 1) (zQ pc 296 .iaload 1))))) (zH pc 310 (zH pc 303 (zH pc 298 (zQ pc 297 (.iconst 1) 1) (zH pc 301 (zQ pc 298 (.if_icmp .ne 21) 3) (zQ pc 301 (.iload 5) 2))) (zH pc 306 (zQ pc 303 (.ifCond .ne 7) 3) (zH pc 307 (zQ pc 306 (.iconst 1) 1) (zQ pc 307 (.goto 4) 3)))) (zH pc 316 (zH pc 311 (zQ pc 310 (.iconst 0) 1) (zH pc 313 (zQ pc 311 (.istore 5) 2) (zQ pc 313 (.iinc 2 (-1)) 3))) (zH pc 319 (zQ pc 316 (.goto (-29)) 3) (zH pc 320 (zQ pc 319 (.aload_n 0) 1) (zQ pc 320 (.getfield 156) 3)))))) (zH pc 342 (zH pc 333 (zH pc 328 (zH pc 324 (zQ pc 323 (.iload_n 2) 1) (zH pc 325 (zQ pc 324 (.aload_n 0) 1) (zQ pc 325 (.getfield 159) 3))) (zH pc 329 (zQ pc 328 (.iload_n 2) 1) (zH pc 330 (zQ pc 329 .baload 1) (zQ pc 330 (.ifCond .eq 15) 3)))) (zH pc 338 (zH pc 334 (zQ pc 333 (.aload_n 0) 1) (zH pc 337 (zQ pc 334 (.getfield 156) 3) (zQ pc 337 (.iload_n 2) 1))) (zH pc 339 (zQ pc 338 .iaload 1) (zH pc 341 (zQ pc 339 (.iload 5) 2) (zQ pc 341 .imul 1))))) (zH pc 355 (zH pc 348 (zH pc 345 (zQ pc 342 (.goto 5) 3) (zH pc 347 (zQ pc 345 (.iload 5) 2) (zQ pc 347 .iastore 1))) (zH pc 351 (zQ pc 348 (.iinc 3 1) 3) (zH pc 354 (zQ pc 351 (.goto (-337)) 3) (zQ pc 354 (.aload_n 0) 1)))) (zH pc 360 (zH pc 356 (zQ pc 355 (.iconst 0) 1) (zH pc 359 (zQ pc 356 (.invokevirtual 377) 3) (zQ pc 359 (.aload_n 0) 1))) (zH pc 364 (zH pc 363 (zQ pc 360 (.getfield 138) 3) (zQ pc 363 (.iconst 0) 1)) (zH pc 365 (zQ pc 364 .iaload 1) (zQ pc 365 .ireturn 1)))))))))
def zc_179 (pc : Nat) : Option (Instr × Nat) := (zH pc 101 (zH pc 51 (zH pc 25 (zH pc 9 (zH pc 5 (zH pc 1 (zQ pc 0 (.aload_n 0) 1) (zH pc 2 (zQ pc 1 (.iload_n 1) 1) (zQ pc 2 (.invokevirtual 252) 3))) (zH pc 7 (zH pc 6 (zQ pc 5 (.istore_n 2) 1) (zQ pc 6 (.iconst 0) 1)) (zH pc 8 (zQ pc 7 (.istore_n 3) 1) (zQ pc 8 (.aload_n 0) 1)))) (zH pc 16 (zH pc 13 (zH pc 12 (zQ pc 9 (.getfield 65) 3) (zQ pc 12 (.iload_n 1) 1)) (zH pc 14 (zQ pc 13 .iaload 1) (zQ pc 14 (.istore 4) 2))) (zH pc 19 (zH pc 18 (zQ pc 16 (.iload 4) 2) (zQ pc 18 (.aload_n 0) 1)) (zH pc 22 (zQ pc 19 (.getfield 220) 3) (zQ pc 22 (.if_icmp .ge 192) 3))))) (zH pc 40 (zH pc 31 (zH pc 29 (zH pc 26 (zQ pc 25 (.aload_n 0) 1) (zQ pc 26 (.getfield 165) 3)) (zH pc 30 (zQ pc 29 (.iconst 1) 1) (zQ pc 30 (.iload_n 2) 1))) (zH pc 36 (zH pc 33 (zQ pc 31 (.bipush 100) 2) (zQ pc 33 (.if_icmp .lt 15) 3)) (zH pc 37 (zQ pc 36 (.aload_n 0) 1) (zQ pc 37 (.getfield 22) 3)))) (zH pc 45 (zH pc 43 (zH pc 41 (zQ pc 40 (.iload_n 2) 1) (zQ pc 41 (.bipush 100) 2)) (zH pc 44 (zQ pc 43 .isub 1) (zQ pc 44 .iaload 1))) (zH pc 49 (zH pc 48 (zQ pc 45 (.goto 4) 3) (zQ pc 48 (.iconst 0) 1)) (zH pc 50 (zQ pc 49 .iastore 1) (zQ pc 50 (.aload_n 0) 1)))))) (zH pc 78 (zH pc 64 (zH pc 57 (zH pc 54 (zQ pc 51 (.getfield 165) 3) (zH pc 55 (zQ pc 54 (.iconst 2) 1) (zQ pc 55 (.iload 4) 2))) (zH pc 61 (zH pc 60 (zQ pc 57 (.sipush 3600) 3) (zQ pc 60 .idiv 1)) (zH pc 63 (zQ pc 61 (.bipush 24) 2) (zQ pc 63 .irem 1)))) (zH pc 70 (zH pc 66 (zH pc 65 (zQ pc 64 .iastore 1) (zQ pc 65 (.aload_n 0) 1)) (zH pc 69 (zQ pc 66 (.getfield 165) 3) (zQ pc 69 (.iconst 3) 1))) (zH pc 75 (zH pc 72 (zQ pc 70 (.iload 4) 2) (zQ pc 72 (.ldc_w 267) 3)) (zH pc 76 (zQ pc 75 .idiv 1) (zQ pc 76 (.bipush 7) 2))))) (zH pc 91 (zH pc 84 (zH pc 80 (zH pc 79 (zQ pc 78 .irem 1) (zQ pc 79 .iastore 1)) (zH pc 81 (zQ pc 80 (.aload_n 0) 1) (zQ pc 81 (.getfield 165) 3))) (zH pc 87 (zH pc 85 (zQ pc 84 (.iconst 4) 1) (zQ pc 85 (.iload 4) 2)) (zH pc 88 (zQ pc 87 (.aload_n 0) 1) (zQ pc 88 (.getfield 65) 3)))) (zH pc 95 (zH pc 93 (zH pc 92 (zQ pc 91 (.iload_n 1) 1) (zQ pc 92 .iaload 1)) (zH pc 94 (zQ pc 93 .isub 1) (zQ pc 94 .iastore 1))) (zH pc 99 (zH pc 96 (zQ pc 95 (.aload_n 0) 1) (zQ pc 96 (.getfield 165) 3)) (zH pc 100 (zQ pc 99 (.iconst 5) 1) (zQ pc 100 (.iload_n 3) 1))))))) (zH pc 158 (zH pc 126 (zH pc 112 (zH pc 106 (zH pc 102 (zQ pc 101 .iastore 1) (zH pc 103 (zQ pc 102 (.aload_n 0) 1) (zQ pc 103 (.getfield 165) 3))) (zH pc 109 (zH pc 108 (zQ pc 106 (.bipush 6) 2) (zQ pc 108 (.iload_n 1) 1)) (zH pc 110 (zQ pc 109 .iastore 1) (zQ pc 110 (.bipush 60) 2)))) (zH pc 118 (zH pc 115 (zH pc 114 (zQ pc 112 (.istore 5) 2) (zQ pc 114 (.iconst 1) 1)) (zH pc 117 (zQ pc 115 (.istore 6) 2) (zQ pc 117 (.iconst 0) 1))) (zH pc 122 (zH pc 120 (zQ pc 118 (.istore 7) 2) (zQ pc 120 (.iload 7) 2)) (zH pc 123 (zQ pc 122 (.aload_n 0) 1) (zQ pc 123 (.getfield 104) 3))))) (zH pc 142 (zH pc 133 (zH pc 128 (zH pc 127 (zQ pc 126 (.iconst 0) 1) (zQ pc 127 .iaload 1)) (zH pc 131 (zQ pc 128 (.if_icmp .ge 76) 3) (zQ pc 131 (.iload 6) 2))) (zH pc 137 (zH pc 136 (zQ pc 133 (.ifCond .eq 71) 3) (zQ pc 136 (.aload_n 0) 1)) (zH pc 139 (zQ pc 137 (.iload 7) 2) (zQ pc 139 (.invokevirtual 380) 3)))) (zH pc 150 (zH pc 145 (zH pc 144 (zQ pc 142 (.istore 8) 2) (zQ pc 144 (.aload_n 0) 1)) (zH pc 148 (zQ pc 145 (.getfield 107) 3) (zQ pc 148 (.iload 7) 2))) (zH pc 154 (zH pc 151 (zQ pc 150 .iaload 1) (zQ pc 151 (.ifCond .lt 20) 3)) (zH pc 155 (zQ pc 154 (.aload_n 0) 1) (zQ pc 155 (.getfield 168) 3)))))) (zH pc 186 (zH pc 173 (zH pc 165 (zH pc 162 (zH pc 159 (zQ pc 158 (.aload_n 0) 1) (zQ pc 159 (.getfield 107) 3)) (zH pc 164 (zQ pc 162 (.iload 7) 2) (zQ pc 164 .iaload 1))) (zH pc 168 (zH pc 167 (zQ pc 165 (.iload 8) 2) (zQ pc 167 .iastore 1)) (zH pc 171 (zQ pc 168 (.goto 30) 3) (zQ pc 171 (.iload 8) 2)))) (zH pc 181 (zH pc 177 (zH pc 176 (zQ pc 173 (.ifCond .eq 25) 3) (zQ pc 176 (.iload_n 3) 1)) (zH pc 178 (zQ pc 177 (.aload_n 0) 1) (zQ pc 178 (.getfield 110) 3))) (zH pc 184 (zH pc 183 (zQ pc 181 (.iload 7) 2) (zQ pc 183 .iaload 1)) (zH pc 185 (zQ pc 184 .iadd 1) (zQ pc 185 (.istore_n 3) 1))))) (zH pc 201 (zH pc 193 (zH pc 190 (zH pc 187 (zQ pc 186 (.aload_n 0) 1) (zQ pc 187 (.getfield 113) 3)) (zH pc 192 (zQ pc 190 (.iload 7) 2) (zQ pc 192 .iaload 1))) (zH pc 196 (zH pc 195 (zQ pc 193 (.istore 5) 2) (zQ pc 195 (.iconst 0) 1)) (zH pc 198 (zQ pc 196 (.istore 6) 2) (zQ pc 198 (.iinc 7 1) 3)))) (zH pc 209 (zH pc 206 (zH pc 204 (zQ pc 201 (.goto (-81)) 3) (zQ pc 204 (.iload 4) 2)) (zH pc 208 (zQ pc 206 (.iload 5) 2) (zQ pc 208 .iadd 1))) (zH pc 214 (zH pc 211 (zQ pc 209 (.istore 4) 2) (zQ pc 211 (.goto (-195)) 3)) (zH pc 215 (zQ pc 214 (.iload_n 3) 1) (zQ pc 215 .ireturn 1))))))))
def zc_180 (pc : Nat) : Option (Instr × Nat) := (zH pc 21 (zH pc 9 (zH pc 3 (zH pc 1 (zQ pc 0 (.iconst 0) 1) (zH pc 2 (zQ pc 1 (.istore_n 1) 1) (zQ pc 2 (.iload_n 1) 1))) (zH pc 5 (zQ pc 3 (.bipush 116) 2) (zH pc 8 (zQ pc 5 (.if_icmp .ge 16) 3) (zQ pc 8 (.aload_n 0) 1)))) (zH pc 14 (zH pc 12 (zQ pc 9 (.getfield 74) 3) (zH pc 13 (zQ pc 12 (.iload_n 1) 1) (zQ pc 13 (.iconst 0) 1))) (zH pc 15 (zQ pc 14 .bastore 1) (zH pc 18 (zQ pc 15 (.iinc 1 1) 3) (zQ pc 18 (.goto (-16)) 3))))) (zH pc 30 (zH pc 24 (zH pc 22 (zQ pc 21 (.iconst 0) 1) (zH pc 23 (zQ pc 22 (.istore_n 1) 1) (zQ pc 23 (.iload_n 1) 1))) (zH pc 26 (zQ pc 24 (.bipush 40) 2) (zH pc 29 (zQ pc 26 (.if_icmp .ge 16) 3) (zQ pc 29 (.aload_n 0) 1)))) (zH pc 35 (zH pc 33 (zQ pc 30 (.getfield 77) 3) (zH pc 34 (zQ pc 33 (.iload_n 1) 1) (zQ pc 34 (.iconst 0) 1))) (zH pc 39 (zH pc 36 (zQ pc 35 .bastore 1) (zQ pc 36 (.iinc 1 1) 3)) (zH pc 42 (zQ pc 39 (.goto (-16)) 3) (zQ pc 42 .return_ 1))))))
def zc_181 (pc : Nat) : Option (Instr × Nat) := (zH pc 13 (zH pc 4 (zH pc 2 (zH pc 1 (zQ pc 0 (.iload_n 0) 1) (zQ pc 1 (.istore_n 3) 1)) (zH pc 3 (zQ pc 2 (.iload_n 2) 1) (zQ pc 3 (.iconst 1) 1))) (zH pc 7 (zH pc 5 (zQ pc 4 .iadd 1) (zQ pc 5 (.istore 4) 2)) (zH pc 9 (zQ pc 7 (.iload 4) 2) (zH pc 10 (zQ pc 9 (.iload_n 1) 1) (zQ pc 10 (.if_icmp .ge 14) 3))))) (zH pc 21 (zH pc 16 (zH pc 14 (zQ pc 13 (.iload_n 3) 1) (zQ pc 14 (.bipush 10) 2)) (zH pc 17 (zQ pc 16 .idiv 1) (zH pc 18 (zQ pc 17 (.istore_n 3) 1) (zQ pc 18 (.iinc 4 1) 3)))) (zH pc 25 (zH pc 24 (zQ pc 21 (.goto (-14)) 3) (zQ pc 24 (.iload_n 3) 1)) (zH pc 27 (zQ pc 25 (.bipush 10) 2) (zH pc 28 (zQ pc 27 .irem 1) (zQ pc 28 .ireturn 1))))))
def zc_182 (pc : Nat) : Option (Instr × Nat) := (zH pc 15 (zH pc 6 (zH pc 4 (zH pc 1 (zQ pc 0 (.aload_n 0) 1) (zQ pc 1 (.getfield 74) 3)) (zH pc 5 (zQ pc 4 (.iload_n 1) 1) (zQ pc 5 (.iconst 1) 1))) (zH pc 8 (zH pc 7 (zQ pc 6 .bastore 1) (zQ pc 7 (.aload_n 0) 1)) (zH pc 11 (zQ pc 8 (.getfield 171) 3) (zH pc 12 (zQ pc 11 (.aload_n 0) 1) (zQ pc 12 (.getfield 383) 3))))) (zH pc 19 (zH pc 17 (zH pc 16 (zQ pc 15 (.iload_n 1) 1) (zQ pc 16 .iastore 1)) (zH pc 18 (zQ pc 17 (.aload_n 0) 1) (zQ pc 18 .dup 1))) (zH pc 23 (zH pc 22 (zQ pc 19 (.getfield 383) 3) (zQ pc 22 (.iconst 1) 1)) (zH pc 24 (zQ pc 23 .iadd 1) (zH pc 27 (zQ pc 24 (.putfield 383) 3) (zQ pc 27 .return_ 1))))))
def zc_183 (pc : Nat) : Option (Instr × Nat) := (zH pc 135 (zH pc 65 (zH pc 32 (zH pc 15 (zH pc 6 (zH pc 2 (zH pc 1 (zQ pc 0 (.aload_n 0) 1) (zQ pc 1 (.iconst 0) 1)) (zH pc 5 (zQ pc 2 (.putfield 383) 3) (zQ pc 5 (.aload_n 0) 1))) (zH pc 10 (zH pc 7 (zQ pc 6 (.iload_n 1) 1) (zQ pc 7 (.invokevirtual 386) 3)) (zH pc 13 (zQ pc 10 (.ifCond .ne 5) 3) (zH pc 14 (zQ pc 13 (.iconst (-1)) 1) (zQ pc 14 .ireturn 1))))) (zH pc 21 (zH pc 17 (zH pc 16 (zQ pc 15 (.aload_n 0) 1) (zQ pc 16 (.aload_n 0) 1)) (zH pc 20 (zQ pc 17 (.getfield 35) 3) (zQ pc 20 (.iload_n 1) 1))) (zH pc 25 (zH pc 22 (zQ pc 21 .iaload 1) (zQ pc 22 (.invokevirtual 244) 3)) (zH pc 27 (zQ pc 25 (.istore 4) 2) (zH pc 29 (zQ pc 27 (.iload 4) 2) (zQ pc 29 (.ifCond .ge 6) 3)))))) (zH pc 45 (zH pc 39 (zH pc 35 (zH pc 34 (zQ pc 32 (.bipush 7) 2) (zQ pc 34 .ireturn 1)) (zH pc 36 (zQ pc 35 (.aload_n 0) 1) (zQ pc 36 (.getfield 77) 3))) (zH pc 41 (zH pc 40 (zQ pc 39 (.iload_n 1) 1) (zQ pc 40 (.iconst 1) 1)) (zH pc 42 (zQ pc 41 .bastore 1) (zH pc 43 (zQ pc 42 (.aload_n 0) 1) (zQ pc 43 (.iload 4) 2))))) (zH pc 55 (zH pc 49 (zH pc 48 (zQ pc 45 (.invokevirtual 389) 3) (zQ pc 48 (.aload_n 0) 1)) (zH pc 52 (zQ pc 49 (.getfield 32) 3) (zH pc 54 (zQ pc 52 (.iload 4) 2) (zQ pc 54 .baload 1)))) (zH pc 59 (zH pc 58 (zQ pc 55 (.ifCond .eq 7) 3) (zQ pc 58 (.iconst 2) 1)) (zH pc 62 (zQ pc 59 (.goto 4) 3) (zH pc 63 (zQ pc 62 (.iconst 0) 1) (zQ pc 63 (.istore 5) 2))))))) (zH pc 99 (zH pc 80 (zH pc 71 (zH pc 68 (zH pc 66 (zQ pc 65 (.iconst 0) 1) (zQ pc 66 (.istore 6) 2)) (zH pc 69 (zQ pc 68 (.iconst 0) 1) (zQ pc 69 (.istore 7) 2))) (zH pc 74 (zH pc 72 (zQ pc 71 (.iconst 0) 1) (zQ pc 72 (.istore 8) 2)) (zH pc 76 (zQ pc 74 (.iload 8) 2) (zH pc 77 (zQ pc 76 (.iload_n 3) 1) (zQ pc 77 (.if_icmp .ge 207) 3))))) (zH pc 88 (zH pc 83 (zH pc 82 (zQ pc 80 (.iload 5) 2) (zQ pc 82 (.iconst 2) 1)) (zH pc 86 (zQ pc 83 (.if_icmp .ge 201) 3) (zH pc 87 (zQ pc 86 (.iload_n 2) 1) (zQ pc 87 (.iload_n 3) 1)))) (zH pc 93 (zH pc 90 (zQ pc 88 (.iload 8) 2) (zQ pc 90 (.invokestatic 392) 3)) (zH pc 95 (zQ pc 93 (.istore 9) 2) (zH pc 96 (zQ pc 95 (.aload_n 0) 1) (zQ pc 96 (.getfield 171) 3)))))) (zH pc 114 (zH pc 105 (zH pc 103 (zH pc 100 (zQ pc 99 (.aload_n 0) 1) (zQ pc 100 (.getfield 383) 3)) (zH pc 104 (zQ pc 103 (.iconst 1) 1) (zQ pc 104 .isub 1))) (zH pc 108 (zH pc 106 (zQ pc 105 .iaload 1) (zQ pc 106 (.istore 10) 2)) (zH pc 109 (zQ pc 108 (.aload_n 0) 1) (zH pc 111 (zQ pc 109 (.iload 10) 2) (zQ pc 111 (.invokevirtual 255) 3))))) (zH pc 125 (zH pc 118 (zH pc 117 (zQ pc 114 (.ifCond .ne 65) 3) (zQ pc 117 (.aload_n 0) 1)) (zH pc 120 (zQ pc 118 (.iload 10) 2) (zH pc 122 (zQ pc 120 (.iload 9) 2) (zQ pc 122 (.invokevirtual 258) 3)))) (zH pc 129 (zH pc 127 (zQ pc 125 (.istore 11) 2) (zQ pc 127 (.iload 11) 2)) (zH pc 132 (zQ pc 129 (.ifCond .lt 9) 3) (zH pc 133 (zQ pc 132 (.aload_n 0) 1) (zQ pc 133 (.iload 11) 2)))))))) (zH pc 214 (zH pc 174 (zH pc 155 (zH pc 144 (zH pc 140 (zH pc 138 (zQ pc 135 (.invokevirtual 389) 3) (zQ pc 138 (.iload 11) 2)) (zH pc 141 (zQ pc 140 (.iconst (-1)) 1) (zQ pc 141 (.if_icmp .ne 7) 3))) (zH pc 148 (zH pc 145 (zQ pc 144 (.iconst 3) 1) (zQ pc 145 (.goto 29) 3)) (zH pc 150 (zQ pc 148 (.iload 11) 2) (zH pc 152 (zQ pc 150 (.bipush (-2)) 2) (zQ pc 152 (.if_icmp .ne 7) 3))))) (zH pc 165 (zH pc 159 (zH pc 156 (zQ pc 155 (.iconst 4) 1) (zQ pc 156 (.goto 18) 3)) (zH pc 160 (zQ pc 159 (.aload_n 0) 1) (zH pc 163 (zQ pc 160 (.getfield 32) 3) (zQ pc 163 (.iload 11) 2)))) (zH pc 169 (zH pc 166 (zQ pc 165 .baload 1) (zQ pc 166 (.ifCond .eq 7) 3)) (zH pc 170 (zQ pc 169 (.iconst 2) 1) (zH pc 173 (zQ pc 170 (.goto 4) 3) (zQ pc 173 (.iconst 1) 1)))))) (zH pc 193 (zH pc 183 (zH pc 179 (zH pc 176 (zQ pc 174 (.istore 5) 2) (zQ pc 176 (.goto 102) 3)) (zH pc 182 (zQ pc 179 (.iinc 6 1) 3) (zQ pc 182 (.iconst 1) 1))) (zH pc 187 (zH pc 185 (zQ pc 183 (.istore 5) 2) (zQ pc 185 (.iload 6) 2)) (zH pc 188 (zQ pc 187 (.iconst 1) 1) (zH pc 191 (zQ pc 188 (.if_icmp .ne 7) 3) (zQ pc 191 (.iload 9) 2))))) (zH pc 204 (zH pc 197 (zH pc 195 (zQ pc 193 (.istore 7) 2) (zQ pc 195 (.iload 10) 2)) (zH pc 199 (zQ pc 197 (.bipush 100) 2) (zH pc 202 (zQ pc 199 (.if_icmp .lt 15) 3) (zQ pc 202 (.iload 6) 2)))) (zH pc 208 (zH pc 205 (zQ pc 204 (.iconst 3) 1) (zQ pc 205 (.if_icmp .ne 73) 3)) (zH pc 209 (zQ pc 208 (.iconst 5) 1) (zH pc 211 (zQ pc 209 (.istore 5) 2) (zQ pc 211 (.goto 67) 3))))))) (zH pc 249 (zH pc 230 (zH pc 221 (zH pc 217 (zH pc 216 (zQ pc 214 (.iload 6) 2) (zQ pc 216 (.iconst 2) 1)) (zH pc 220 (zQ pc 217 (.if_icmp .ne 61) 3) (zQ pc 220 (.aload_n 0) 1))) (zH pc 225 (zH pc 223 (zQ pc 221 (.iload 10) 2) (zQ pc 223 (.bipush 8) 2)) (zH pc 226 (zQ pc 225 .idiv 1) (zH pc 228 (zQ pc 226 (.bipush 10) 2) (zQ pc 228 (.iload 7) 2))))) (zH pc 239 (zH pc 233 (zH pc 231 (zQ pc 230 .imul 1) (zQ pc 231 (.iload 9) 2)) (zH pc 234 (zQ pc 233 .iadd 1) (zH pc 237 (zQ pc 234 (.invokevirtual 234) 3) (zQ pc 237 (.istore 11) 2)))) (zH pc 244 (zH pc 241 (zQ pc 239 (.iload 11) 2) (zQ pc 241 (.ifCond .ge 7) 3)) (zH pc 245 (zQ pc 244 (.iconst 4) 1) (zH pc 248 (zQ pc 245 (.goto 17) 3) (zQ pc 248 (.aload_n 0) 1)))))) (zH pc 267 (zH pc 258 (zH pc 254 (zH pc 251 (zQ pc 249 (.iload 11) 2) (zQ pc 251 (.invokevirtual 386) 3)) (zH pc 257 (zQ pc 254 (.ifCond .eq 7) 3) (zQ pc 257 (.iconst 5) 1))) (zH pc 262 (zH pc 261 (zQ pc 258 (.goto 4) 3) (zQ pc 261 (.iconst 3) 1)) (zH pc 264 (zQ pc 262 (.istore 5) 2) (zH pc 266 (zQ pc 264 (.iload 5) 2) (zQ pc 266 (.iconst 5) 1))))) (zH pc 277 (zH pc 271 (zH pc 270 (zQ pc 267 (.if_icmp .ne 11) 3) (zQ pc 270 (.aload_n 0) 1)) (zH pc 274 (zQ pc 271 (.getfield 77) 3) (zH pc 276 (zQ pc 274 (.iload 11) 2) (zQ pc 276 (.iconst 1) 1)))) (zH pc 281 (zH pc 278 (zQ pc 277 .bastore 1) (zQ pc 278 (.iinc 8 1) 3)) (zH pc 284 (zQ pc 281 (.goto (-207)) 3) (zH pc 286 (zQ pc 284 (.iload 5) 2) (zQ pc 286 .ireturn 1)))))))))
def zc_184 (pc : Nat) : Option (Instr × Nat) := (zH pc 19 (zH pc 9 (zH pc 2 (zH pc 1 (zQ pc 0 (.aload_n 0) 1) (zQ pc 1 (.iload_n 1) 1)) (zH pc 5 (zQ pc 2 (.invokevirtual 241) 3) (zH pc 8 (zQ pc 5 (.ifCond .eq 36) 3) (zQ pc 8 (.aload_n 0) 1)))) (zH pc 14 (zH pc 12 (zQ pc 9 (.getfield 44) 3) (zH pc 13 (zQ pc 12 (.iload_n 1) 1) (zQ pc 13 .iaload 1))) (zH pc 17 (zQ pc 14 (.ifCond .ne 27) 3) (zH pc 18 (zQ pc 17 (.iload_n 2) 1) (zQ pc 18 (.iconst 0) 1))))) (zH pc 31 (zH pc 28 (zH pc 22 (zQ pc 19 (.ldc_w 396) 3) (zH pc 25 (zQ pc 22 (.invokestatic 212) 3) (zQ pc 25 (.ifCond .eq 16) 3))) (zH pc 29 (zQ pc 28 (.iload_n 3) 1) (zH pc 30 (zQ pc 29 (.iconst 1) 1) (zQ pc 30 (.iconst 5) 1)))) (zH pc 38 (zH pc 34 (zQ pc 31 (.invokestatic 212) 3) (zH pc 37 (zQ pc 34 (.ifCond .eq 7) 3) (zQ pc 37 (.iconst 1) 1))) (zH pc 41 (zQ pc 38 (.goto 4) 3) (zH pc 42 (zQ pc 41 (.iconst 0) 1) (zQ pc 42 .ireturn 1))))))
def zc_185 (pc : Nat) : Option (Instr × Nat) := (zH pc 17 (zH pc 7 (zH pc 2 (zH pc 1 (zQ pc 0 (.aload_n 0) 1) (zQ pc 1 (.iconst 0) 1)) (zH pc 5 (zQ pc 2 (.putfield 201) 3) (zH pc 6 (zQ pc 5 (.aload_n 0) 1) (zQ pc 6 (.iload_n 1) 1)))) (zH pc 12 (zH pc 8 (zQ pc 7 (.iload_n 2) 1) (zH pc 9 (zQ pc 8 (.iload_n 3) 1) (zQ pc 9 (.invokevirtual 397) 3))) (zH pc 15 (zQ pc 12 (.ifCond .ne 5) 3) (zH pc 16 (zQ pc 15 (.iconst (-1)) 1) (zQ pc 16 .ireturn 1))))) (zH pc 25 (zH pc 22 (zH pc 18 (zQ pc 17 (.aload_n 0) 1) (zH pc 21 (zQ pc 18 (.invokevirtual 400) 3) (zQ pc 21 (.aload_n 0) 1))) (zH pc 23 (zQ pc 22 (.iload_n 1) 1) (zH pc 24 (zQ pc 23 (.iload_n 2) 1) (zQ pc 24 (.iload_n 3) 1)))) (zH pc 31 (zH pc 28 (zQ pc 25 (.invokevirtual 403) 3) (zH pc 30 (zQ pc 28 (.istore 4) 2) (zQ pc 30 (.aload_n 0) 1))) (zH pc 34 (zQ pc 31 (.invokevirtual 400) 3) (zH pc 36 (zQ pc 34 (.iload 4) 2) (zQ pc 36 .ireturn 1))))))
def zc_186 (pc : Nat) : Option (Instr × Nat) := (zH pc 71 (zH pc 36 (zH pc 16 (zH pc 7 (zH pc 2 (zH pc 1 (zQ pc 0 (.aload_n 0) 1) (zQ pc 1 (.iconst 0) 1)) (zH pc 5 (zQ pc 2 (.putfield 201) 3) (zH pc 6 (zQ pc 5 (.aload_n 0) 1) (zQ pc 6 (.iload_n 1) 1)))) (zH pc 9 (zH pc 8 (zQ pc 7 (.iload_n 2) 1) (zQ pc 8 (.iload_n 3) 1)) (zH pc 12 (zQ pc 9 (.invokevirtual 397) 3) (zH pc 15 (zQ pc 12 (.ifCond .eq 22) 3) (zQ pc 15 (.aload_n 0) 1))))) (zH pc 28 (zH pc 20 (zH pc 18 (zQ pc 16 (.iload 4) 2) (zQ pc 18 (.iload 5) 2)) (zH pc 22 (zQ pc 20 (.iload 6) 2) (zH pc 25 (zQ pc 22 (.invokevirtual 397) 3) (zQ pc 25 (.ifCond .eq 9) 3)))) (zH pc 31 (zH pc 29 (zQ pc 28 (.iload_n 1) 1) (zQ pc 29 (.iload 4) 2)) (zH pc 34 (zQ pc 31 (.if_icmp .ne 5) 3) (zH pc 35 (zQ pc 34 (.iconst (-1)) 1) (zQ pc 35 .ireturn 1)))))) (zH pc 52 (zH pc 43 (zH pc 40 (zH pc 37 (zQ pc 36 (.aload_n 0) 1) (zQ pc 37 (.invokevirtual 400) 3)) (zH pc 41 (zQ pc 40 (.aload_n 0) 1) (zH pc 42 (zQ pc 41 (.iload_n 1) 1) (zQ pc 42 (.iload_n 2) 1)))) (zH pc 47 (zH pc 44 (zQ pc 43 (.iload_n 3) 1) (zQ pc 44 (.invokevirtual 403) 3)) (zH pc 48 (zQ pc 47 (.iconst 5) 1) (zH pc 51 (zQ pc 48 (.if_icmp .ne 7) 3) (zQ pc 51 (.iconst 1) 1))))) (zH pc 61 (zH pc 56 (zH pc 55 (zQ pc 52 (.goto 4) 3) (zQ pc 55 (.iconst 0) 1)) (zH pc 58 (zQ pc 56 (.istore 7) 2) (zH pc 59 (zQ pc 58 (.aload_n 0) 1) (zQ pc 59 (.iload 4) 2)))) (zH pc 65 (zH pc 63 (zQ pc 61 (.iload 5) 2) (zQ pc 63 (.iload 6) 2)) (zH pc 68 (zQ pc 65 (.invokevirtual 403) 3) (zH pc 70 (zQ pc 68 (.istore 8) 2) (zQ pc 70 (.aload_n 0) 1))))))) (zH pc 109 (zH pc 93 (zH pc 81 (zH pc 75 (zH pc 74 (zQ pc 71 (.invokevirtual 400) 3) (zQ pc 74 (.aload_n 0) 1)) (zH pc 77 (zQ pc 75 (.iload 4) 2) (zH pc 79 (zQ pc 77 (.iload 5) 2) (zQ pc 79 (.iload 6) 2)))) (zH pc 85 (zH pc 84 (zQ pc 81 (.invokevirtual 403) 3) (zQ pc 84 (.iconst 5) 1)) (zH pc 88 (zQ pc 85 (.if_icmp .ne 12) 3) (zH pc 90 (zQ pc 88 (.iload 7) 2) (zQ pc 90 (.ifCond .eq 7) 3))))) (zH pc 101 (zH pc 97 (zH pc 94 (zQ pc 93 (.iconst 1) 1) (zQ pc 94 (.goto 4) 3)) (zH pc 98 (zQ pc 97 (.iconst 0) 1) (zH pc 100 (zQ pc 98 (.istore 7) 2) (zQ pc 100 (.aload_n 0) 1)))) (zH pc 103 (zH pc 102 (zQ pc 101 (.iload_n 1) 1) (zQ pc 102 (.iload_n 2) 1)) (zH pc 104 (zQ pc 103 (.iload_n 3) 1) (zH pc 107 (zQ pc 104 (.invokevirtual 403) 3) (zQ pc 107 (.istore 9) 2)))))) (zH pc 127 (zH pc 119 (zH pc 113 (zH pc 110 (zQ pc 109 (.aload_n 0) 1) (zQ pc 110 (.invokevirtual 400) 3)) (zH pc 115 (zQ pc 113 (.iload 7) 2) (zH pc 118 (zQ pc 115 (.ifCond .ne 5) 3) (zQ pc 118 (.iconst (-1)) 1)))) (zH pc 122 (zH pc 120 (zQ pc 119 .ireturn 1) (zQ pc 120 (.iload 8) 2)) (zH pc 123 (zQ pc 122 (.iconst 5) 1) (zH pc 126 (zQ pc 123 (.if_icmp .ne 7) 3) (zQ pc 126 (.iconst 0) 1))))) (zH pc 137 (zH pc 131 (zH pc 130 (zQ pc 127 (.goto 4) 3) (zQ pc 130 (.iconst 1) 1)) (zH pc 133 (zQ pc 131 (.iload 9) 2) (zH pc 134 (zQ pc 133 (.iconst 5) 1) (zQ pc 134 (.if_icmp .ne 7) 3)))) (zH pc 141 (zH pc 138 (zQ pc 137 (.iconst 0) 1) (zQ pc 138 (.goto 4) 3)) (zH pc 142 (zQ pc 141 (.iconst 2) 1) (zH pc 143 (zQ pc 142 .iadd 1) (zQ pc 143 .ireturn 1))))))))
def zc_187 (pc : Nat) : Option (Instr × Nat) := (zH pc 28 (zH pc 14 (zH pc 6 (zH pc 4 (zH pc 1 (zQ pc 0 (.aload_n 0) 1) (zQ pc 1 (.getfield 25) 3)) (zH pc 5 (zQ pc 4 (.iload_n 1) 1) (zQ pc 5 .iaload 1))) (zH pc 10 (zH pc 9 (zQ pc 6 (.ifCond .lt 17) 3) (zQ pc 9 (.iload_n 2) 1)) (zH pc 13 (zQ pc 10 (.ifCond .lt 44) 3) (zQ pc 13 (.aload_n 0) 1)))) (zH pc 20 (zH pc 18 (zH pc 17 (zQ pc 14 (.getfield 25) 3) (zQ pc 17 (.iload_n 1) 1)) (zH pc 19 (zQ pc 18 .iaload 1) (zQ pc 19 (.iload_n 2) 1))) (zH pc 24 (zH pc 23 (zQ pc 20 (.if_icmp .ne 34) 3) (zQ pc 23 (.aload_n 0) 1)) (zH pc 27 (zQ pc 24 (.getfield 28) 3) (zQ pc 27 (.iload_n 1) 1))))) (zH pc 42 (zH pc 36 (zH pc 32 (zH pc 29 (zQ pc 28 .baload 1) (zQ pc 29 (.ifCond .ne 25) 3)) (zH pc 33 (zQ pc 32 (.aload_n 0) 1) (zQ pc 33 (.getfield 32) 3))) (zH pc 38 (zH pc 37 (zQ pc 36 (.iload_n 1) 1) (zQ pc 37 .baload 1)) (zH pc 41 (zQ pc 38 (.ifCond .ne 16) 3) (zQ pc 41 (.aload_n 0) 1)))) (zH pc 50 (zH pc 46 (zH pc 45 (zQ pc 42 (.getfield 74) 3) (zQ pc 45 (.iload_n 1) 1)) (zH pc 47 (zQ pc 46 .baload 1) (zQ pc 47 (.ifCond .ne 7) 3))) (zH pc 54 (zH pc 51 (zQ pc 50 (.iconst 1) 1) (zQ pc 51 (.goto 4) 3)) (zH pc 55 (zQ pc 54 (.iconst 0) 1) (zQ pc 55 .ireturn 1))))))
def zc_188 (pc : Nat) : Option (Instr × Nat) := (zH pc 145 (zH pc 68 (zH pc 35 (zH pc 15 (zH pc 8 (zH pc 2 (zH pc 1 (zQ pc 0 (.aload_n 0) 1) (zQ pc 1 (.iconst 0) 1)) (zH pc 5 (zQ pc 2 (.putfield 406) 3) (zH pc 7 (zQ pc 5 (.bipush 8) 2) (zQ pc 7 (.aload_n 0) 1)))) (zH pc 12 (zH pc 11 (zQ pc 8 (.getfield 35) 3) (zQ pc 11 (.iload_n 1) 1)) (zH pc 13 (zQ pc 12 .iaload 1) (zH pc 14 (zQ pc 13 .imul 1) (zQ pc 14 (.aload_n 0) 1))))) (zH pc 24 (zH pc 20 (zH pc 18 (zQ pc 15 (.getfield 174) 3) (zQ pc 18 (.iload 4) 2)) (zH pc 21 (zQ pc 20 .iaload 1) (zH pc 22 (zQ pc 21 .iadd 1) (zQ pc 22 (.istore 7) 2)))) (zH pc 27 (zH pc 25 (zQ pc 24 (.aload_n 0) 1) (zQ pc 25 (.iload 7) 2)) (zH pc 29 (zQ pc 27 (.iload 5) 2) (zH pc 32 (zQ pc 29 (.invokevirtual 409) 3) (zQ pc 32 (.ifCond .ne 5) 3)))))) (zH pc 50 (zH pc 41 (zH pc 37 (zH pc 36 (zQ pc 35 (.iconst 0) 1) (zQ pc 36 .ireturn 1)) (zH pc 38 (zQ pc 37 (.iconst 1) 1) (zH pc 40 (zQ pc 38 (.istore 8) 2) (zQ pc 40 (.aload_n 0) 1)))) (zH pc 46 (zH pc 43 (zQ pc 41 (.iload 7) 2) (zQ pc 43 (.invokevirtual 413) 3)) (zH pc 47 (zQ pc 46 (.iconst 0) 1) (zH pc 49 (zQ pc 47 (.istore 9) 2) (zQ pc 49 (.iconst 0) 1))))) (zH pc 58 (zH pc 53 (zH pc 52 (zQ pc 50 (.istore 10) 2) (zQ pc 52 (.iconst 0) 1)) (zH pc 55 (zQ pc 53 (.istore 11) 2) (zH pc 57 (zQ pc 55 (.iload 11) 2) (zQ pc 57 (.iload_n 3) 1)))) (zH pc 62 (zH pc 61 (zQ pc 58 (.if_icmp .ge 245) 3) (zQ pc 61 (.iload_n 2) 1)) (zH pc 63 (zQ pc 62 (.iload_n 3) 1) (zH pc 65 (zQ pc 63 (.iload 11) 2) (zQ pc 65 (.invokestatic 392) 3))))))) (zH pc 104 (zH pc 88 (zH pc 79 (zH pc 71 (zH pc 70 (zQ pc 68 (.istore 12) 2) (zQ pc 70 (.aload_n 0) 1)) (zH pc 73 (zQ pc 71 (.iload 7) 2) (zH pc 76 (zQ pc 73 (.invokevirtual 255) 3) (zQ pc 76 (.ifCond .ne 81) 3)))) (zH pc 83 (zH pc 80 (zQ pc 79 (.aload_n 0) 1) (zQ pc 80 (.getfield 19) 3)) (zH pc 85 (zQ pc 83 (.iload 7) 2) (zH pc 87 (zQ pc 85 (.bipush 8) 2) (zQ pc 87 .idiv 1))))) (zH pc 97 (zH pc 92 (zH pc 90 (zQ pc 88 (.iload 7) 2) (zQ pc 90 (.bipush 8) 2)) (zH pc 93 (zQ pc 92 .irem 1) (zH pc 94 (zQ pc 93 (.aload_n 0) 1) (zQ pc 94 (.getfield 16) 3)))) (zH pc 101 (zH pc 99 (zQ pc 97 (.iload 7) 2) (zQ pc 99 (.bipush 8) 2)) (zH pc 102 (zQ pc 101 .idiv 1) (zH pc 103 (zQ pc 102 .iaload 1) (zQ pc 103 .irem 1)))))) (zH pc 122 (zH pc 114 (zH pc 107 (zH pc 106 (zQ pc 104 (.iload 12) 2) (zQ pc 106 (.aload_n 0) 1)) (zH pc 110 (zQ pc 107 (.getfield 174) 3) (zH pc 112 (zQ pc 110 (.iload 4) 2) (zQ pc 112 (.iload 8) 2)))) (zH pc 116 (zH pc 115 (zQ pc 114 .iadd 1) (zQ pc 115 .iaload 1)) (zH pc 119 (zQ pc 116 (.invokestatic 230) 3) (zH pc 120 (zQ pc 119 .iaload 1) (zQ pc 120 (.istore 13) 2))))) (zH pc 132 (zH pc 127 (zH pc 124 (zQ pc 122 (.iload 13) 2) (zQ pc 124 (.ifCond .lt 14) 3)) (zH pc 128 (zQ pc 127 (.aload_n 0) 1) (zH pc 130 (zQ pc 128 (.iload 13) 2) (zQ pc 130 (.iload 5) 2)))) (zH pc 140 (zH pc 135 (zQ pc 132 (.invokevirtual 409) 3) (zH pc 138 (zQ pc 135 (.ifCond .ne 6) 3) (zQ pc 138 (.iload 8) 2))) (zH pc 141 (zQ pc 140 .ireturn 1) (zH pc 144 (zQ pc 141 (.iinc 8 1) 3) (zQ pc 144 (.aload_n 0) 1)))))))) (zH pc 227 (zH pc 190 (zH pc 168 (zH pc 157 (zH pc 150 (zH pc 147 (zQ pc 145 (.iload 13) 2) (zQ pc 147 (.invokevirtual 413) 3)) (zH pc 152 (zQ pc 150 (.iload 13) 2) (zH pc 154 (zQ pc 152 (.istore 7) 2) (zQ pc 154 (.goto 143) 3)))) (zH pc 162 (zH pc 160 (zQ pc 157 (.iinc 9 1) 3) (zQ pc 160 (.iload 9) 2)) (zH pc 163 (zQ pc 162 (.iconst 1) 1) (zH pc 166 (zQ pc 163 (.if_icmp .ne 7) 3) (zQ pc 166 (.iload 12) 2))))) (zH pc 179 (zH pc 172 (zH pc 170 (zQ pc 168 (.istore 10) 2) (zQ pc 170 (.iload 7) 2)) (zH pc 174 (zQ pc 172 (.bipush 100) 2) (zH pc 177 (zQ pc 174 (.if_icmp .lt 32) 3) (zQ pc 177 (.iload 9) 2)))) (zH pc 183 (zH pc 180 (zQ pc 179 (.iconst 3) 1) (zQ pc 180 (.if_icmp .ne 26) 3)) (zH pc 185 (zQ pc 183 (.iload 6) 2) (zH pc 187 (zQ pc 185 (.bipush (-2)) 2) (zQ pc 187 (.if_icmp .eq 10) 3)))))) (zH pc 208 (zH pc 201 (zH pc 194 (zH pc 192 (zQ pc 190 (.iload 6) 2) (zQ pc 192 (.bipush (-3)) 2)) (zH pc 197 (zQ pc 194 (.if_icmp .ne 7) 3) (zH pc 198 (zQ pc 197 (.iconst (-1)) 1) (zQ pc 198 (.goto 7) 3)))) (zH pc 204 (zH pc 203 (zQ pc 201 (.iload 8) 2) (zQ pc 203 (.iconst 1) 1)) (zH pc 205 (zQ pc 204 .isub 1) (zH pc 206 (zQ pc 205 .ireturn 1) (zQ pc 206 (.iload 7) 2))))) (zH pc 219 (zH pc 213 (zH pc 210 (zQ pc 208 (.bipush 100) 2) (zQ pc 210 (.if_icmp .ge 87) 3)) (zH pc 215 (zQ pc 213 (.iload 9) 2) (zH pc 216 (zQ pc 215 (.iconst 2) 1) (zQ pc 216 (.if_icmp .ne 81) 3)))) (zH pc 222 (zH pc 220 (zQ pc 219 (.aload_n 0) 1) (zQ pc 220 (.iload 7) 2)) (zH pc 224 (zQ pc 222 (.bipush 8) 2) (zH pc 225 (zQ pc 224 .idiv 1) (zQ pc 225 (.bipush 10) 2))))))) (zH pc 269 (zH pc 247 (zH pc 236 (zH pc 230 (zH pc 229 (zQ pc 227 (.iload 10) 2) (zQ pc 229 .imul 1)) (zH pc 232 (zQ pc 230 (.iload 12) 2) (zH pc 233 (zQ pc 232 .iadd 1) (zQ pc 233 (.invokevirtual 234) 3)))) (zH pc 240 (zH pc 238 (zQ pc 236 (.istore 13) 2) (zQ pc 238 (.iload 13) 2)) (zH pc 243 (zQ pc 240 (.ifCond .lt 40) 3) (zH pc 245 (zQ pc 243 (.iload 6) 2) (zQ pc 245 (.bipush (-2)) 2))))) (zH pc 257 (zH pc 251 (zH pc 250 (zQ pc 247 (.if_icmp .ne 22) 3) (zQ pc 250 (.aload_n 0) 1)) (zH pc 254 (zQ pc 251 (.getfield 44) 3) (zH pc 256 (zQ pc 254 (.iload 13) 2) (zQ pc 256 .iaload 1)))) (zH pc 262 (zH pc 260 (zQ pc 257 (.ifCond .ne 23) 3) (zQ pc 260 (.iload 13) 2)) (zH pc 263 (zQ pc 262 (.iload_n 1) 1) (zH pc 266 (zQ pc 263 (.if_icmp .eq 17) 3) (zQ pc 266 (.goto 10) 3)))))) (zH pc 289 (zH pc 280 (zH pc 273 (zH pc 271 (zQ pc 269 (.iload 6) 2) (zQ pc 271 (.iload 13) 2)) (zH pc 276 (zQ pc 273 (.if_icmp .ne 7) 3) (zH pc 277 (zQ pc 276 (.iconst 1) 1) (zQ pc 277 (.goto 4) 3)))) (zH pc 283 (zH pc 281 (zQ pc 280 (.iconst 0) 1) (zQ pc 281 (.istore 14) 2)) (zH pc 285 (zQ pc 283 (.iload 14) 2) (zH pc 288 (zQ pc 285 (.ifCond .eq 7) 3) (zQ pc 288 (.iconst (-1)) 1))))) (zH pc 297 (zH pc 294 (zH pc 292 (zQ pc 289 (.goto 7) 3) (zQ pc 292 (.iload 8) 2)) (zH pc 295 (zQ pc 294 (.iconst 1) 1) (zH pc 296 (zQ pc 295 .isub 1) (zQ pc 296 .ireturn 1)))) (zH pc 305 (zH pc 300 (zQ pc 297 (.iinc 11 1) 3) (zH pc 303 (zQ pc 300 (.goto (-245)) 3) (zQ pc 303 (.iload 8) 2))) (zH pc 306 (zQ pc 305 (.iconst 1) 1) (zH pc 307 (zQ pc 306 .isub 1) (zQ pc 307 .ireturn 1)))))))))
def zc_189 (pc : Nat) : Option (Instr × Nat) := (zH pc 15 (zH pc 6 (zH pc 4 (zH pc 1 (zQ pc 0 (.aload_n 0) 1) (zQ pc 1 (.getfield 74) 3)) (zH pc 5 (zQ pc 4 (.iload_n 1) 1) (zQ pc 5 (.iconst 1) 1))) (zH pc 8 (zH pc 7 (zQ pc 6 .bastore 1) (zQ pc 7 (.aload_n 0) 1)) (zH pc 11 (zQ pc 8 (.getfield 177) 3) (zH pc 12 (zQ pc 11 (.aload_n 0) 1) (zQ pc 12 (.getfield 406) 3))))) (zH pc 19 (zH pc 17 (zH pc 16 (zQ pc 15 (.iload_n 1) 1) (zQ pc 16 .iastore 1)) (zH pc 18 (zQ pc 17 (.aload_n 0) 1) (zQ pc 18 .dup 1))) (zH pc 23 (zH pc 22 (zQ pc 19 (.getfield 406) 3) (zQ pc 22 (.iconst 1) 1)) (zH pc 24 (zQ pc 23 .iadd 1) (zH pc 27 (zQ pc 24 (.putfield 406) 3) (zQ pc 27 .return_ 1))))))
def zc_190 (pc : Nat) : Option (Instr × Nat) := (zH pc 14 (zH pc 4 (zH pc 2 (zH pc 1 (zQ pc 0 (.iconst 0) 1) (zQ pc 1 (.istore_n 1) 1)) (zH pc 3 (zQ pc 2 (.iload_n 1) 1) (zQ pc 3 (.aload_n 0) 1))) (zH pc 10 (zH pc 7 (zQ pc 4 (.getfield 406) 3) (zQ pc 7 (.if_icmp .ge 21) 3)) (zH pc 11 (zQ pc 10 (.aload_n 0) 1) (zQ pc 11 (.getfield 74) 3)))) (zH pc 20 (zH pc 18 (zH pc 15 (zQ pc 14 (.aload_n 0) 1) (zQ pc 15 (.getfield 177) 3)) (zH pc 19 (zQ pc 18 (.iload_n 1) 1) (zQ pc 19 .iaload 1))) (zH pc 22 (zH pc 21 (zQ pc 20 (.iconst 0) 1) (zQ pc 21 .bastore 1)) (zH pc 25 (zQ pc 22 (.iinc 1 1) 3) (zH pc 28 (zQ pc 25 (.goto (-23)) 3) (zQ pc 28 .return_ 1))))))
def zc_191 (pc : Nat) : Option (Instr × Nat) := (zH pc 49 (zH pc 25 (zH pc 12 (zH pc 3 (zH pc 1 (zQ pc 0 (.iload_n 3) 1) (zH pc 2 (zQ pc 1 (.iconst 1) 1) (zQ pc 2 .iadd 1))) (zH pc 7 (zH pc 5 (zQ pc 3 (.istore 4) 2) (zQ pc 5 (.iload 4) 2)) (zH pc 9 (zQ pc 7 (.bipush 6) 2) (zQ pc 9 (.if_icmp .ge 19) 3)))) (zH pc 19 (zH pc 16 (zH pc 13 (zQ pc 12 (.aload_n 0) 1) (zQ pc 13 (.getfield 174) 3)) (zH pc 17 (zQ pc 16 (.iload_n 2) 1) (zQ pc 17 (.iload 4) 2))) (zH pc 21 (zH pc 20 (zQ pc 19 .iadd 1) (zQ pc 20 (.iconst 0) 1)) (zH pc 22 (zQ pc 21 .iastore 1) (zQ pc 22 (.iinc 4 1) 3))))) (zH pc 40 (zH pc 31 (zH pc 28 (zQ pc 25 (.goto (-20)) 3) (zH pc 29 (zQ pc 28 (.iload_n 3) 1) (zQ pc 29 (.istore 4) 2))) (zH pc 36 (zH pc 33 (zQ pc 31 (.iload 4) 2) (zQ pc 33 (.ifCond .lt 66) 3)) (zH pc 37 (zQ pc 36 (.aload_n 0) 1) (zQ pc 37 (.getfield 174) 3)))) (zH pc 45 (zH pc 43 (zH pc 41 (zQ pc 40 (.iload_n 2) 1) (zQ pc 41 (.iload 4) 2)) (zH pc 44 (zQ pc 43 .iadd 1) (zQ pc 44 .dup2 1))) (zH pc 47 (zH pc 46 (zQ pc 45 .iaload 1) (zQ pc 46 (.iconst 1) 1)) (zH pc 48 (zQ pc 47 .iadd 1) (zQ pc 48 .iastore 1)))))) (zH pc 74 (zH pc 60 (zH pc 54 (zH pc 50 (zQ pc 49 (.aload_n 0) 1) (zH pc 53 (zQ pc 50 (.getfield 174) 3) (zQ pc 53 (.iload_n 2) 1))) (zH pc 57 (zH pc 56 (zQ pc 54 (.iload 4) 2) (zQ pc 56 .iadd 1)) (zH pc 58 (zQ pc 57 .iaload 1) (zQ pc 58 (.iload 4) 2)))) (zH pc 68 (zH pc 64 (zH pc 63 (zQ pc 60 (.ifCond .ne 17) 3) (zQ pc 63 (.aload_n 0) 1)) (zH pc 67 (zQ pc 64 (.getfield 13) 3) (zQ pc 67 (.aload_n 0) 1))) (zH pc 72 (zH pc 71 (zQ pc 68 (.getfield 35) 3) (zQ pc 71 (.iload_n 1) 1)) (zH pc 73 (zQ pc 72 .iaload 1) (zQ pc 73 .iaload 1))))) (zH pc 88 (zH pc 82 (zH pc 78 (zH pc 77 (zQ pc 74 (.goto 4) 3) (zQ pc 77 (.iconst 4) 1)) (zH pc 81 (zQ pc 78 (.if_icmp .ge 5) 3) (zQ pc 81 (.iconst 1) 1))) (zH pc 84 (zH pc 83 (zQ pc 82 .ireturn 1) (zQ pc 83 (.aload_n 0) 1)) (zH pc 87 (zQ pc 84 (.getfield 174) 3) (zQ pc 87 (.iload_n 2) 1)))) (zH pc 93 (zH pc 91 (zH pc 90 (zQ pc 88 (.iload 4) 2) (zQ pc 90 .iadd 1)) (zH pc 92 (zQ pc 91 (.iconst 0) 1) (zQ pc 92 .iastore 1))) (zH pc 99 (zH pc 96 (zQ pc 93 (.iinc 4 (-1)) 3) (zQ pc 96 (.goto (-65)) 3)) (zH pc 100 (zQ pc 99 (.iconst 0) 1) (zQ pc 100 .ireturn 1)))))))
def zc_192 (pc : Nat) : Option (Instr × Nat) := (zH pc 36 (zH pc 18 (zH pc 10 (zH pc 3 (zH pc 1 (zQ pc 0 (.iconst 0) 1) (zQ pc 1 (.istore 5) 2)) (zH pc 5 (zQ pc 3 (.iload 5) 2) (zH pc 7 (zQ pc 5 (.bipush 6) 2) (zQ pc 7 (.if_icmp .ge 17) 3)))) (zH pc 14 (zH pc 11 (zQ pc 10 (.aload_n 0) 1) (zQ pc 11 (.getfield 174) 3)) (zH pc 16 (zQ pc 14 (.iload 5) 2) (zH pc 17 (zQ pc 16 (.iconst 0) 1) (zQ pc 17 .iastore 1))))) (zH pc 29 (zH pc 24 (zH pc 21 (zQ pc 18 (.iinc 5 1) 3) (zQ pc 21 (.goto (-18)) 3)) (zH pc 25 (zQ pc 24 (.iconst 1) 1) (zH pc 27 (zQ pc 25 (.istore 5) 2) (zQ pc 27 (.iload 5) 2)))) (zH pc 33 (zH pc 32 (zQ pc 29 (.ifCond .eq 41) 3) (zQ pc 32 (.aload_n 0) 1)) (zH pc 34 (zQ pc 33 (.iload_n 1) 1) (zH pc 35 (zQ pc 34 (.iload_n 2) 1) (zQ pc 35 (.iload_n 3) 1)))))) (zH pc 56 (zH pc 46 (zH pc 39 (zH pc 37 (zQ pc 36 (.iconst 0) 1) (zQ pc 37 (.iload 4) 2)) (zH pc 41 (zQ pc 39 (.bipush (-2)) 2) (zH pc 44 (zQ pc 41 (.invokevirtual 416) 3) (zQ pc 44 (.istore 6) 2)))) (zH pc 50 (zH pc 47 (zQ pc 46 (.aload_n 0) 1) (zQ pc 47 (.invokevirtual 420) 3)) (zH pc 52 (zQ pc 50 (.iload 6) 2) (zH pc 55 (zQ pc 52 (.ifCond .ge 5) 3) (zQ pc 55 (.iconst 1) 1))))) (zH pc 62 (zH pc 58 (zH pc 57 (zQ pc 56 .ireturn 1) (zQ pc 57 (.aload_n 0) 1)) (zH pc 59 (zQ pc 58 (.iload_n 1) 1) (zH pc 60 (zQ pc 59 (.iconst 0) 1) (zQ pc 60 (.iload 6) 2)))) (zH pc 67 (zH pc 65 (zQ pc 62 (.invokevirtual 423) 3) (zQ pc 65 (.istore 5) 2)) (zH pc 70 (zQ pc 67 (.goto (-40)) 3) (zH pc 71 (zQ pc 70 (.iconst 0) 1) (zQ pc 71 .ireturn 1)))))))
def zc_193 (pc : Nat) : Option (Instr × Nat) := (zH pc 115 (zH pc 56 (zH pc 27 (zH pc 13 (zH pc 6 (zH pc 3 (zH pc 1 (zQ pc 0 (.iconst 0) 1) (zQ pc 1 (.istore 5) 2)) (zH pc 4 (zQ pc 3 (.iconst 0) 1) (zQ pc 4 (.istore 6) 2))) (zH pc 9 (zH pc 8 (zQ pc 6 (.iload 6) 2) (zQ pc 8 (.aload_n 0) 1)) (zH pc 12 (zQ pc 9 (.getfield 53) 3) (zQ pc 12 (.iload_n 1) 1)))) (zH pc 21 (zH pc 17 (zH pc 14 (zQ pc 13 .iaload 1) (zQ pc 14 (.if_icmp .ge 28) 3)) (zH pc 19 (zQ pc 17 (.bipush 10) 2) (zQ pc 19 (.iload 5) 2))) (zH pc 23 (zH pc 22 (zQ pc 21 .imul 1) (zQ pc 22 (.aload_n 0) 1)) (zH pc 26 (zQ pc 23 (.getfield 56) 3) (zQ pc 26 (.iconst 5) 1))))) (zH pc 39 (zH pc 32 (zH pc 29 (zH pc 28 (zQ pc 27 (.iload_n 1) 1) (zQ pc 28 .imul 1)) (zH pc 31 (zQ pc 29 (.iload 6) 2) (zQ pc 31 .iadd 1))) (zH pc 34 (zH pc 33 (zQ pc 32 .iaload 1) (zQ pc 33 .iadd 1)) (zH pc 36 (zQ pc 34 (.istore 5) 2) (zQ pc 36 (.iinc 6 1) 3)))) (zH pc 47 (zH pc 43 (zH pc 42 (zQ pc 39 (.goto (-33)) 3) (zQ pc 42 (.iconst 0) 1)) (zH pc 45 (zQ pc 43 (.istore 6) 2) (zQ pc 45 (.iload 6) 2))) (zH pc 52 (zH pc 49 (zQ pc 47 (.bipush 6) 2) (zQ pc 49 (.if_icmp .ge 20) 3)) (zH pc 53 (zQ pc 52 (.aload_n 0) 1) (zQ pc 53 (.getfield 174) 3)))))) (zH pc 85 (zH pc 70 (zH pc 62 (zH pc 60 (zH pc 58 (zQ pc 56 (.bipush 6) 2) (zQ pc 58 (.iload 6) 2)) (zH pc 61 (zQ pc 60 .iadd 1) (zQ pc 61 (.iconst 0) 1))) (zH pc 66 (zH pc 63 (zQ pc 62 .iastore 1) (zQ pc 63 (.iinc 6 1) 3)) (zH pc 69 (zQ pc 66 (.goto (-21)) 3) (zQ pc 69 (.iconst 1) 1)))) (zH pc 78 (zH pc 74 (zH pc 72 (zQ pc 70 (.istore 6) 2) (zQ pc 72 (.iload 6) 2)) (zH pc 77 (zQ pc 74 (.ifCond .eq 163) 3) (zQ pc 77 (.aload_n 0) 1))) (zH pc 81 (zH pc 79 (zQ pc 78 (.iload_n 1) 1) (zQ pc 79 (.iload 5) 2)) (zH pc 82 (zQ pc 81 (.aload_n 0) 1) (zQ pc 82 (.getfield 53) 3))))) (zH pc 96 (zH pc 90 (zH pc 87 (zH pc 86 (zQ pc 85 (.iload_n 1) 1) (zQ pc 86 .iaload 1)) (zH pc 89 (zQ pc 87 (.bipush 6) 2) (zQ pc 89 (.iload_n 1) 1))) (zH pc 94 (zH pc 91 (zQ pc 90 (.aload_n 0) 1) (zQ pc 91 (.getfield 50) 3)) (zH pc 95 (zQ pc 94 (.iload_n 1) 1) (zQ pc 95 .iaload 1)))) (zH pc 105 (zH pc 101 (zH pc 99 (zQ pc 96 (.ifCond .ge 8) 3) (zQ pc 99 (.bipush (-3)) 2)) (zH pc 104 (zQ pc 101 (.goto 9) 3) (zQ pc 104 (.aload_n 0) 1))) (zH pc 109 (zH pc 108 (zQ pc 105 (.getfield 50) 3) (zQ pc 108 (.iload_n 1) 1)) (zH pc 110 (zQ pc 109 .iaload 1) (zH pc 113 (zQ pc 110 (.invokevirtual 416) 3) (zQ pc 113 (.istore 7) 2)))))))) (zH pc 176 (zH pc 145 (zH pc 131 (zH pc 122 (zH pc 119 (zH pc 116 (zQ pc 115 (.aload_n 0) 1) (zQ pc 116 (.getfield 406) 3)) (zH pc 121 (zQ pc 119 (.istore 8) 2) (zQ pc 121 (.iconst 0) 1))) (zH pc 126 (zH pc 124 (zQ pc 122 (.istore 9) 2) (zQ pc 124 (.iload 9) 2)) (zH pc 128 (zQ pc 126 (.iload 8) 2) (zQ pc 128 (.if_icmp .ge 23) 3)))) (zH pc 138 (zH pc 135 (zH pc 132 (zQ pc 131 (.aload_n 0) 1) (zQ pc 132 (.getfield 180) 3)) (zH pc 137 (zQ pc 135 (.iload 9) 2) (zQ pc 137 (.aload_n 0) 1))) (zH pc 143 (zH pc 141 (zQ pc 138 (.getfield 177) 3) (zQ pc 141 (.iload 9) 2)) (zH pc 144 (zQ pc 143 .iaload 1) (zQ pc 144 .iastore 1))))) (zH pc 161 (zH pc 156 (zH pc 151 (zH pc 148 (zQ pc 145 (.iinc 9 1) 3) (zQ pc 148 (.goto (-24)) 3)) (zH pc 153 (zQ pc 151 (.iload 7) 2) (zQ pc 153 (.ifCond .ge 19) 3))) (zH pc 158 (zH pc 157 (zQ pc 156 (.aload_n 0) 1) (zQ pc 157 (.iload_n 2) 1)) (zH pc 159 (zQ pc 158 (.iload_n 3) 1) (zQ pc 159 (.iload 4) 2)))) (zH pc 169 (zH pc 165 (zH pc 162 (zQ pc 161 (.iload_n 1) 1) (zQ pc 162 (.invokevirtual 426) 3)) (zH pc 168 (zQ pc 165 (.ifCond .eq 7) 3) (zQ pc 168 (.iconst 1) 1))) (zH pc 173 (zH pc 172 (zQ pc 169 (.goto 4) 3) (zQ pc 172 (.iconst 0) 1)) (zH pc 175 (zQ pc 173 (.istore 9) 2) (zQ pc 175 (.iconst 0) 1)))))) (zH pc 209 (zH pc 193 (zH pc 185 (zH pc 180 (zH pc 178 (zQ pc 176 (.istore 10) 2) (zQ pc 178 (.iload 10) 2)) (zH pc 182 (zQ pc 180 (.iload 8) 2) (zQ pc 182 (.if_icmp .ge 22) 3))) (zH pc 189 (zH pc 186 (zQ pc 185 (.aload_n 0) 1) (zQ pc 186 (.getfield 74) 3)) (zH pc 190 (zQ pc 189 (.aload_n 0) 1) (zQ pc 190 (.getfield 180) 3)))) (zH pc 198 (zH pc 196 (zH pc 195 (zQ pc 193 (.iload 10) 2) (zQ pc 195 .iaload 1)) (zH pc 197 (zQ pc 196 (.iconst 0) 1) (zQ pc 197 .bastore 1))) (zH pc 204 (zH pc 201 (zQ pc 198 (.iinc 10 1) 3) (zQ pc 201 (.goto (-23)) 3)) (zH pc 206 (zQ pc 204 (.iload 9) 2) (zQ pc 206 (.ifCond .eq 5) 3))))) (zH pc 222 (zH pc 213 (zH pc 211 (zH pc 210 (zQ pc 209 (.iconst 1) 1) (zQ pc 210 .ireturn 1)) (zH pc 212 (zQ pc 211 (.aload_n 0) 1) (zQ pc 212 (.iload_n 1) 1))) (zH pc 217 (zH pc 215 (zQ pc 213 (.bipush 6) 2) (zQ pc 215 (.iload 7) 2)) (zH pc 220 (zQ pc 217 (.ifCond .ge 10) 3) (zQ pc 220 (.iload 8) 2)))) (zH pc 229 (zH pc 224 (zH pc 223 (zQ pc 222 (.iconst 1) 1) (zQ pc 223 .isub 1)) (zH pc 227 (zQ pc 224 (.goto 5) 3) (zQ pc 227 (.iload 7) 2))) (zH pc 234 (zH pc 232 (zQ pc 229 (.invokevirtual 423) 3) (zQ pc 232 (.istore 6) 2)) (zH pc 237 (zQ pc 234 (.goto (-162)) 3) (zH pc 238 (zQ pc 237 (.iconst 0) 1) (zQ pc 238 .ireturn 1)))))))))
def zc_194 (pc : Nat) : Option (Instr × Nat) := (zH pc 62 (zH pc 31 (zH pc 15 (zH pc 6 (zH pc 2 (zH pc 1 (zQ pc 0 (.aload_n 0) 1) (zQ pc 1 (.iconst 0) 1)) (zH pc 5 (zQ pc 2 (.putfield 201) 3) (zQ pc 5 (.aload_n 0) 1))) (zH pc 8 (zH pc 7 (zQ pc 6 (.iload_n 1) 1) (zQ pc 7 (.iload_n 2) 1)) (zH pc 9 (zQ pc 8 (.iload_n 3) 1) (zH pc 12 (zQ pc 9 (.invokevirtual 397) 3) (zQ pc 12 (.ifCond .eq 13) 3))))) (zH pc 22 (zH pc 18 (zH pc 17 (zQ pc 15 (.iload 4) 2) (zQ pc 17 (.iconst 0) 1)) (zH pc 19 (zQ pc 18 (.iconst 1) 1) (zQ pc 19 (.invokestatic 212) 3))) (zH pc 26 (zH pc 25 (zQ pc 22 (.ifCond .ne 5) 3) (zQ pc 25 (.iconst (-1)) 1)) (zH pc 27 (zQ pc 26 .ireturn 1) (zH pc 28 (zQ pc 27 (.aload_n 0) 1) (zQ pc 28 (.invokevirtual 400) 3)))))) (zH pc 47 (zH pc 35 (zH pc 33 (zH pc 32 (zQ pc 31 (.aload_n 0) 1) (zQ pc 32 (.iload_n 1) 1)) (zH pc 34 (zQ pc 33 (.iload_n 2) 1) (zQ pc 34 (.iload_n 3) 1))) (zH pc 39 (zH pc 36 (zQ pc 35 (.iconst (-1)) 1) (zQ pc 36 (.invokevirtual 426) 3)) (zH pc 42 (zQ pc 39 (.ifCond .eq 14) 3) (zH pc 44 (zQ pc 42 (.iload 4) 2) (zQ pc 44 (.ifCond .ne 7) 3))))) (zH pc 53 (zH pc 51 (zH pc 48 (zQ pc 47 (.iconst 0) 1) (zQ pc 48 (.goto 4) 3)) (zH pc 52 (zQ pc 51 (.iconst (-1)) 1) (zQ pc 52 .ireturn 1))) (zH pc 56 (zH pc 54 (zQ pc 53 (.iconst 0) 1) (zQ pc 54 (.istore 5) 2)) (zH pc 58 (zQ pc 56 (.iload 5) 2) (zH pc 59 (zQ pc 58 (.aload_n 0) 1) (zQ pc 59 (.getfield 216) 3))))))) (zH pc 95 (zH pc 80 (zH pc 71 (zH pc 66 (zH pc 65 (zQ pc 62 (.if_icmp .ge 69) 3) (zQ pc 65 (.aload_n 0) 1)) (zH pc 69 (zQ pc 66 (.getfield 44) 3) (zQ pc 69 (.iload 5) 2))) (zH pc 73 (zH pc 72 (zQ pc 71 .iaload 1) (zQ pc 72 (.iconst 1) 1)) (zH pc 76 (zQ pc 73 (.if_icmp .ne 52) 3) (zH pc 77 (zQ pc 76 (.aload_n 0) 1) (zQ pc 77 (.getfield 47) 3))))) (zH pc 87 (zH pc 83 (zH pc 82 (zQ pc 80 (.iload 5) 2) (zQ pc 82 .iaload 1)) (zH pc 84 (zQ pc 83 (.iconst 5) 1) (zQ pc 84 (.if_icmp .lt 41) 3))) (zH pc 91 (zH pc 88 (zQ pc 87 (.aload_n 0) 1) (zQ pc 88 (.getfield 53) 3)) (zH pc 93 (zQ pc 91 (.iload 5) 2) (zH pc 94 (zQ pc 93 .iaload 1) (zQ pc 94 (.iconst 5) 1)))))) (zH pc 113 (zH pc 102 (zH pc 99 (zH pc 98 (zQ pc 95 (.if_icmp .gt 30) 3) (zQ pc 98 (.aload_n 0) 1)) (zH pc 101 (zQ pc 99 (.iload 5) 2) (zQ pc 101 (.iload_n 1) 1))) (zH pc 104 (zH pc 103 (zQ pc 102 (.iload_n 2) 1) (zQ pc 103 (.iload_n 3) 1)) (zH pc 107 (zQ pc 104 (.invokevirtual 430) 3) (zH pc 110 (zQ pc 107 (.ifCond .ne 6) 3) (zQ pc 110 (.goto 15) 3))))) (zH pc 124 (zH pc 118 (zH pc 115 (zQ pc 113 (.iload 4) 2) (zQ pc 115 (.ifCond .ne 7) 3)) (zH pc 119 (zQ pc 118 (.iconst 1) 1) (zH pc 122 (zQ pc 119 (.goto 5) 3) (zQ pc 122 (.iload 5) 2)))) (zH pc 128 (zH pc 125 (zQ pc 124 .ireturn 1) (zQ pc 125 (.iinc 5 1) 3)) (zH pc 131 (zQ pc 128 (.goto (-72)) 3) (zH pc 132 (zQ pc 131 (.iconst (-1)) 1) (zQ pc 132 .ireturn 1))))))))
def zc_195 (pc : Nat) : Option (Instr × Nat) := (zH pc 20 (zH pc 11 (zH pc 5 (zH pc 1 (zQ pc 0 (.iload_n 1) 1) (zH pc 4 (zQ pc 1 (.ifCond .lt 8) 3) (zQ pc 4 (.iload_n 1) 1))) (zH pc 9 (zH pc 6 (zQ pc 5 (.iload_n 0) 1) (zQ pc 6 (.if_icmp .le 5) 3)) (zH pc 10 (zQ pc 9 (.iconst 0) 1) (zQ pc 10 .ireturn 1)))) (zH pc 14 (zH pc 12 (zQ pc 11 (.iconst 1) 1) (zH pc 13 (zQ pc 12 (.istore_n 2) 1) (zQ pc 13 (.iconst 1) 1))) (zH pc 16 (zH pc 15 (zQ pc 14 (.istore_n 3) 1) (zQ pc 15 (.iload_n 3) 1)) (zH pc 17 (zQ pc 16 (.iload_n 1) 1) (zQ pc 17 (.if_icmp .gt 19) 3))))) (zH pc 27 (zH pc 23 (zH pc 21 (zQ pc 20 (.iload_n 2) 1) (zH pc 22 (zQ pc 21 (.iload_n 0) 1) (zQ pc 22 (.iload_n 1) 1))) (zH pc 25 (zH pc 24 (zQ pc 23 .isub 1) (zQ pc 24 (.iload_n 3) 1)) (zH pc 26 (zQ pc 25 .iadd 1) (zQ pc 26 .imul 1)))) (zH pc 30 (zH pc 28 (zQ pc 27 (.iload_n 3) 1) (zH pc 29 (zQ pc 28 .idiv 1) (zQ pc 29 (.istore_n 2) 1))) (zH pc 36 (zH pc 33 (zQ pc 30 (.iinc 3 1) 3) (zQ pc 33 (.goto (-18)) 3)) (zH pc 37 (zQ pc 36 (.iload_n 2) 1) (zQ pc 37 .ireturn 1))))))
def zc_196 (pc : Nat) : Option (Instr × Nat) := (zH pc 154 (zH pc 72 (zH pc 36 (zH pc 15 (zH pc 6 (zH pc 3 (zH pc 1 (zQ pc 0 (.iconst 0) 1) (zQ pc 1 (.istore 5) 2)) (zH pc 4 (zQ pc 3 (.iconst 0) 1) (zQ pc 4 (.istore 6) 2))) (zH pc 10 (zH pc 8 (zQ pc 6 (.iload 4) 2) (zQ pc 8 (.istore 7) 2)) (zH pc 11 (zQ pc 10 (.iconst 0) 1) (zH pc 13 (zQ pc 11 (.istore 8) 2) (zQ pc 13 (.iload 8) 2))))) (zH pc 27 (zH pc 21 (zH pc 18 (zQ pc 15 (.sipush 232) 3) (zQ pc 18 (.if_icmp .ge 17) 3)) (zH pc 22 (zQ pc 21 (.aload_n 0) 1) (zH pc 25 (zQ pc 22 (.getfield 183) 3) (zQ pc 25 (.iload 8) 2)))) (zH pc 29 (zH pc 28 (zQ pc 27 (.iconst 0) 1) (zQ pc 28 .bastore 1)) (zH pc 32 (zQ pc 29 (.iinc 8 1) 3) (zH pc 35 (zQ pc 32 (.goto (-19)) 3) (zQ pc 35 (.iconst 0) 1)))))) (zH pc 54 (zH pc 45 (zH pc 40 (zH pc 38 (zQ pc 36 (.istore 8) 2) (zQ pc 38 (.iload 8) 2)) (zH pc 41 (zQ pc 40 (.aload_n 0) 1) (zH pc 44 (zQ pc 41 (.getfield 16) 3) (zQ pc 44 (.iload_n 1) 1)))) (zH pc 49 (zH pc 46 (zQ pc 45 .iaload 1) (zQ pc 46 (.if_icmp .ge 69) 3)) (zH pc 50 (zQ pc 49 (.iconst 0) 1) (zH pc 52 (zQ pc 50 (.istore 9) 2) (zQ pc 52 (.iload 9) 2))))) (zH pc 63 (zH pc 58 (zH pc 55 (zQ pc 54 (.iconst 4) 1) (zQ pc 55 (.if_icmp .ge 54) 3)) (zH pc 59 (zQ pc 58 (.aload_n 0) 1) (zH pc 62 (zQ pc 59 (.getfield 19) 3) (zQ pc 62 (.iload_n 1) 1)))) (zH pc 66 (zH pc 65 (zQ pc 63 (.iload 8) 2) (zQ pc 65 (.iload_n 2) 1)) (zH pc 68 (zQ pc 66 (.iload 9) 2) (zH pc 71 (zQ pc 68 (.invokestatic 230) 3) (zQ pc 71 .iaload 1))))))) (zH pc 112 (zH pc 93 (zH pc 83 (zH pc 76 (zH pc 74 (zQ pc 72 (.istore 10) 2) (zQ pc 74 (.iload 10) 2)) (zH pc 79 (zQ pc 76 (.ifCond .lt 27) 3) (zH pc 80 (zQ pc 79 (.aload_n 0) 1) (zQ pc 80 (.getfield 28) 3)))) (zH pc 86 (zH pc 85 (zQ pc 83 (.iload 10) 2) (zQ pc 85 .baload 1)) (zH pc 89 (zQ pc 86 (.ifCond .ne 17) 3) (zH pc 90 (zQ pc 89 (.aload_n 0) 1) (zQ pc 90 (.getfield 183) 3))))) (zH pc 101 (zH pc 97 (zH pc 95 (zQ pc 93 (.bipush 116) 2) (zQ pc 95 (.iload 8) 2)) (zH pc 98 (zQ pc 97 .imul 1) (zH pc 100 (zQ pc 98 (.iload 10) 2) (zQ pc 100 .iadd 1)))) (zH pc 103 (zH pc 102 (zQ pc 101 (.iconst 1) 1) (zQ pc 102 .bastore 1)) (zH pc 106 (zQ pc 103 (.iinc 9 1) 3) (zH pc 109 (zQ pc 106 (.goto (-54)) 3) (zQ pc 109 (.iinc 8 1) 3)))))) (zH pc 132 (zH pc 122 (zH pc 116 (zH pc 115 (zQ pc 112 (.goto (-74)) 3) (zQ pc 115 (.iconst 0) 1)) (zH pc 118 (zQ pc 116 (.istore 8) 2) (zH pc 120 (zQ pc 118 (.iload 8) 2) (zQ pc 120 (.bipush 116) 2)))) (zH pc 126 (zH pc 125 (zQ pc 122 (.if_icmp .ge 70) 3) (zQ pc 125 (.aload_n 0) 1)) (zH pc 129 (zQ pc 126 (.getfield 183) 3) (zH pc 131 (zQ pc 129 (.iload 8) 2) (zQ pc 131 .baload 1))))) (zH pc 143 (zH pc 136 (zH pc 135 (zQ pc 132 (.ifCond .eq 22) 3) (zQ pc 135 (.aload_n 0) 1)) (zH pc 139 (zQ pc 136 (.getfield 183) 3) (zH pc 141 (zQ pc 139 (.bipush 116) 2) (zQ pc 141 (.iload 8) 2)))) (zH pc 145 (zH pc 144 (zQ pc 143 .iadd 1) (zQ pc 144 .baload 1)) (zH pc 148 (zQ pc 145 (.ifCond .eq 9) 3) (zH pc 151 (zQ pc 148 (.iinc 7 1) 3) (zQ pc 151 (.goto 35) 3)))))))) (zH pc 227 (zH pc 196 (zH pc 174 (zH pc 161 (zH pc 158 (zH pc 155 (zQ pc 154 (.aload_n 0) 1) (zQ pc 155 (.getfield 183) 3)) (zH pc 160 (zQ pc 158 (.iload 8) 2) (zQ pc 160 .baload 1))) (zH pc 167 (zH pc 164 (zQ pc 161 (.ifCond .eq 9) 3) (zQ pc 164 (.iinc 5 1) 3)) (zH pc 170 (zQ pc 167 (.goto 19) 3) (zH pc 171 (zQ pc 170 (.aload_n 0) 1) (zQ pc 171 (.getfield 183) 3))))) (zH pc 183 (zH pc 178 (zH pc 176 (zQ pc 174 (.bipush 116) 2) (zQ pc 176 (.iload 8) 2)) (zH pc 179 (zQ pc 178 .iadd 1) (zH pc 180 (zQ pc 179 .baload 1) (zQ pc 180 (.ifCond .eq 6) 3)))) (zH pc 189 (zH pc 186 (zQ pc 183 (.iinc 6 1) 3) (zQ pc 186 (.iinc 8 1) 3)) (zH pc 192 (zQ pc 189 (.goto (-71)) 3) (zH pc 193 (zQ pc 192 (.aload_n 0) 1) (zQ pc 193 (.getfield 16) 3)))))) (zH pc 210 (zH pc 203 (zH pc 198 (zH pc 197 (zQ pc 196 (.iload_n 1) 1) (zQ pc 197 .iaload 1)) (zH pc 199 (zQ pc 198 (.iconst 2) 1) (zH pc 202 (zQ pc 199 (.if_icmp .ne 14) 3) (zQ pc 202 (.aload_n 0) 1)))) (zH pc 207 (zH pc 206 (zQ pc 203 (.getfield 13) 3) (zQ pc 206 (.iload_n 1) 1)) (zH pc 208 (zQ pc 207 .iaload 1) (zH pc 209 (zQ pc 208 (.iconst 2) 1) (zQ pc 209 .idiv 1))))) (zH pc 220 (zH pc 214 (zH pc 213 (zQ pc 210 (.goto 4) 3) (zQ pc 213 (.iconst 0) 1)) (zH pc 216 (zQ pc 214 (.istore 8) 2) (zH pc 217 (zQ pc 216 (.aload_n 0) 1) (zQ pc 217 (.getfield 13) 3)))) (zH pc 222 (zH pc 221 (zQ pc 220 (.iload_n 1) 1) (zQ pc 221 .iaload 1)) (zH pc 224 (zQ pc 222 (.iload 8) 2) (zH pc 225 (zQ pc 224 .isub 1) (zQ pc 225 (.istore 9) 2))))))) (zH pc 260 (zH pc 243 (zH pc 235 (zH pc 230 (zH pc 228 (zQ pc 227 (.iconst 0) 1) (zQ pc 228 (.istore 10) 2)) (zH pc 231 (zQ pc 230 (.iconst 0) 1) (zH pc 233 (zQ pc 231 (.istore 11) 2) (zQ pc 233 (.iload 11) 2)))) (zH pc 239 (zH pc 236 (zQ pc 235 (.iload_n 3) 1) (zQ pc 236 (.if_icmp .gt 63) 3)) (zH pc 240 (zQ pc 239 (.iload_n 3) 1) (zH pc 242 (zQ pc 240 (.iload 11) 2) (zQ pc 242 .isub 1))))) (zH pc 251 (zH pc 246 (zH pc 245 (zQ pc 243 (.istore 12) 2) (zQ pc 245 (.iconst 0) 1)) (zH pc 248 (zQ pc 246 (.iload 11) 2) (zH pc 250 (zQ pc 248 (.iload 5) 2) (zQ pc 250 .isub 1)))) (zH pc 255 (zH pc 254 (zQ pc 251 (.invokestatic 433) 3) (zQ pc 254 (.iconst 0) 1)) (zH pc 257 (zQ pc 255 (.iload 12) 2) (zH pc 259 (zQ pc 257 (.iload 6) 2) (zQ pc 259 .isub 1)))))) (zH pc 282 (zH pc 270 (zH pc 264 (zH pc 263 (zQ pc 260 (.invokestatic 433) 3) (zQ pc 263 .iadd 1)) (zH pc 266 (zQ pc 264 (.istore 13) 2) (zH pc 268 (zQ pc 266 (.iload 13) 2) (zQ pc 268 (.iload 7) 2)))) (zH pc 275 (zH pc 273 (zQ pc 270 (.if_icmp .le 23) 3) (zQ pc 273 (.iload 10) 2)) (zH pc 277 (zQ pc 275 (.iload 9) 2) (zH pc 279 (zQ pc 277 (.iload 11) 2) (zQ pc 279 (.invokestatic 438) 3))))) (zH pc 291 (zH pc 286 (zH pc 284 (zQ pc 282 (.iload 8) 2) (zQ pc 284 (.iload 12) 2)) (zH pc 289 (zQ pc 286 (.invokestatic 438) 3) (zH pc 290 (zQ pc 289 .imul 1) (zQ pc 290 .iadd 1)))) (zH pc 296 (zH pc 293 (zQ pc 291 (.istore 10) 2) (zQ pc 293 (.iinc 11 1) 3)) (zH pc 299 (zQ pc 296 (.goto (-63)) 3) (zH pc 301 (zQ pc 299 (.iload 10) 2) (zQ pc 301 .ireturn 1)))))))))
def zc_197 (pc : Nat) : Option (Instr × Nat) := (zH pc 19 (zH pc 9 (zH pc 2 (zH pc 1 (zQ pc 0 (.aload_n 0) 1) (zQ pc 1 (.iload_n 1) 1)) (zH pc 5 (zQ pc 2 (.invokevirtual 224) 3) (zH pc 8 (zQ pc 5 (.ifCond .eq 31) 3) (zQ pc 8 (.iload_n 2) 1)))) (zH pc 12 (zH pc 10 (zQ pc 9 (.iconst 0) 1) (zQ pc 10 (.bipush 9) 2)) (zH pc 15 (zQ pc 12 (.invokestatic 212) 3) (zH pc 18 (zQ pc 15 (.ifCond .eq 21) 3) (zQ pc 18 (.iload_n 3) 1))))) (zH pc 26 (zH pc 21 (zH pc 20 (zQ pc 19 (.iconst 1) 1) (zQ pc 20 (.aload_n 0) 1)) (zH pc 24 (zQ pc 21 (.getfield 13) 3) (zH pc 25 (zQ pc 24 (.iload_n 1) 1) (zQ pc 25 .iaload 1)))) (zH pc 33 (zH pc 29 (zQ pc 26 (.invokestatic 212) 3) (zH pc 32 (zQ pc 29 (.ifCond .eq 7) 3) (zQ pc 32 (.iconst 1) 1))) (zH pc 36 (zQ pc 33 (.goto 4) 3) (zH pc 37 (zQ pc 36 (.iconst 0) 1) (zQ pc 37 .ireturn 1))))))
def zc_198 (pc : Nat) : Option (Instr × Nat) := (zH pc 15 (zH pc 6 (zH pc 2 (zH pc 1 (zQ pc 0 (.aload_n 0) 1) (zQ pc 1 (.iconst 0) 1)) (zH pc 5 (zQ pc 2 (.putfield 201) 3) (zQ pc 5 (.aload_n 0) 1))) (zH pc 8 (zH pc 7 (zQ pc 6 (.iload_n 1) 1) (zQ pc 7 (.iload_n 2) 1)) (zH pc 9 (zQ pc 8 (.iload_n 3) 1) (zH pc 12 (zQ pc 9 (.invokevirtual 441) 3) (zQ pc 12 (.ifCond .eq 14) 3))))) (zH pc 19 (zH pc 17 (zH pc 16 (zQ pc 15 (.aload_n 0) 1) (zQ pc 16 (.iload_n 1) 1)) (zH pc 18 (zQ pc 17 (.iload_n 2) 1) (zQ pc 18 (.iload_n 3) 1))) (zH pc 23 (zH pc 20 (zQ pc 19 (.iconst 0) 1) (zQ pc 20 (.invokevirtual 444) 3)) (zH pc 26 (zQ pc 23 (.goto 4) 3) (zH pc 27 (zQ pc 26 (.iconst (-1)) 1) (zQ pc 27 .ireturn 1))))))
def zc_199 (pc : Nat) : Option (Instr × Nat) := (zH pc 33 (zH pc 15 (zH pc 6 (zH pc 2 (zH pc 1 (zQ pc 0 (.aload_n 0) 1) (zQ pc 1 (.iconst 0) 1)) (zH pc 5 (zQ pc 2 (.putfield 201) 3) (zQ pc 5 (.aload_n 0) 1))) (zH pc 8 (zH pc 7 (zQ pc 6 (.iload_n 1) 1) (zQ pc 7 (.iload_n 2) 1)) (zH pc 9 (zQ pc 8 (.iload_n 3) 1) (zH pc 12 (zQ pc 9 (.invokevirtual 441) 3) (zQ pc 12 (.ifCond .eq 15) 3))))) (zH pc 27 (zH pc 18 (zH pc 17 (zQ pc 15 (.iload 4) 2) (zQ pc 17 (.iconst 0) 1)) (zH pc 21 (zQ pc 18 (.sipush 1000) 3) (zH pc 24 (zQ pc 21 (.invokestatic 212) 3) (zQ pc 24 (.ifCond .ne 5) 3)))) (zH pc 29 (zH pc 28 (zQ pc 27 (.iconst (-1)) 1) (zQ pc 28 .ireturn 1)) (zH pc 30 (zQ pc 29 (.iconst 0) 1) (zH pc 32 (zQ pc 30 (.istore 5) 2) (zQ pc 32 (.aload_n 0) 1)))))) (zH pc 51 (zH pc 41 (zH pc 35 (zH pc 34 (zQ pc 33 (.iload_n 1) 1) (zQ pc 34 (.iload_n 2) 1)) (zH pc 36 (zQ pc 35 (.iload_n 3) 1) (zH pc 38 (zQ pc 36 (.iload 5) 2) (zQ pc 38 (.invokevirtual 444) 3)))) (zH pc 45 (zH pc 44 (zQ pc 41 (.sipush 1000) 3) (zQ pc 44 .imul 1)) (zH pc 47 (zQ pc 45 (.iload 4) 2) (zH pc 48 (zQ pc 47 (.aload_n 0) 1) (zQ pc 48 (.getfield 13) 3))))) (zH pc 58 (zH pc 53 (zH pc 52 (zQ pc 51 (.iload_n 1) 1) (zQ pc 52 .iaload 1)) (zH pc 54 (zQ pc 53 (.iload_n 3) 1) (zH pc 57 (zQ pc 54 (.invokestatic 438) 3) (zQ pc 57 .imul 1)))) (zH pc 64 (zH pc 61 (zQ pc 58 (.if_icmp .le 9) 3) (zQ pc 61 (.iinc 5 1) 3)) (zH pc 67 (zQ pc 64 (.goto (-32)) 3) (zH pc 69 (zQ pc 67 (.iload 5) 2) (zQ pc 69 .ireturn 1)))))))
def zc_200 (pc : Nat) : Option (Instr × Nat) := (zH pc 85 (zH pc 40 (zH pc 18 (zH pc 8 (zH pc 5 (zH pc 1 (zQ pc 0 (.aload_n 0) 1) (zH pc 2 (zQ pc 1 (.iconst 0) 1) (zQ pc 2 (.putfield 201) 3))) (zH pc 6 (zQ pc 5 (.aload_n 0) 1) (zH pc 7 (zQ pc 6 (.iload_n 1) 1) (zQ pc 7 (.iload_n 2) 1)))) (zH pc 15 (zH pc 9 (zQ pc 8 (.iload_n 3) 1) (zH pc 12 (zQ pc 9 (.invokevirtual 397) 3) (zQ pc 12 (.ifCond .ne 5) 3))) (zH pc 16 (zQ pc 15 (.iconst (-1)) 1) (zH pc 17 (zQ pc 16 .ireturn 1) (zQ pc 17 (.aload_n 0) 1))))) (zH pc 28 (zH pc 23 (zH pc 21 (zQ pc 18 (.invokevirtual 400) 3) (zH pc 22 (zQ pc 21 (.aload_n 0) 1) (zQ pc 22 (.iload_n 1) 1))) (zH pc 24 (zQ pc 23 (.iload_n 2) 1) (zH pc 25 (zQ pc 24 (.iload_n 3) 1) (zQ pc 25 (.invokevirtual 403) 3)))) (zH pc 34 (zH pc 30 (zQ pc 28 (.istore 4) 2) (zH pc 31 (zQ pc 30 (.aload_n 0) 1) (zQ pc 31 (.invokevirtual 400) 3))) (zH pc 36 (zQ pc 34 (.iload 4) 2) (zH pc 37 (zQ pc 36 (.iconst 2) 1) (zQ pc 37 (.if_icmp .eq 9) 3)))))) (zH pc 63 (zH pc 52 (zH pc 46 (zH pc 42 (zQ pc 40 (.iload 4) 2) (zH pc 43 (zQ pc 42 (.iconst 5) 1) (zQ pc 43 (.if_icmp .ne 12) 3))) (zH pc 47 (zQ pc 46 (.aload_n 0) 1) (zH pc 50 (zQ pc 47 (.getfield 447) 3) (zQ pc 50 (.bipush 60) 2)))) (zH pc 58 (zH pc 55 (zQ pc 52 (.if_icmp .ne 6) 3) (zH pc 57 (zQ pc 55 (.iload 4) 2) (zQ pc 57 .ireturn 1))) (zH pc 59 (zQ pc 58 (.aload_n 0) 1) (zH pc 62 (zQ pc 59 (.getfield 186) 3) (zQ pc 62 (.aload_n 0) 1))))) (zH pc 76 (zH pc 69 (zH pc 66 (zQ pc 63 (.getfield 447) 3) (zH pc 68 (zQ pc 66 (.iload 4) 2) (zQ pc 68 (.iconst 2) 1))) (zH pc 72 (zQ pc 69 (.if_icmp .ne 7) 3) (zH pc 73 (zQ pc 72 (.iconst 1) 1) (zQ pc 73 (.goto 4) 3)))) (zH pc 79 (zH pc 77 (zQ pc 76 (.iconst 0) 1) (zH pc 78 (zQ pc 77 .bastore 1) (zQ pc 78 (.iconst 0) 1))) (zH pc 81 (zQ pc 79 (.istore 5) 2) (zH pc 83 (zQ pc 81 (.iload 5) 2) (zQ pc 83 (.bipush 96) 2))))))) (zH pc 131 (zH pc 107 (zH pc 98 (zH pc 92 (zH pc 88 (zQ pc 85 (.if_icmp .ge 25) 3) (zH pc 89 (zQ pc 88 (.aload_n 0) 1) (zQ pc 89 (.getfield 189) 3))) (zH pc 94 (zQ pc 92 (.bipush 96) 2) (zH pc 95 (zQ pc 94 (.aload_n 0) 1) (zQ pc 95 (.getfield 447) 3)))) (zH pc 102 (zH pc 99 (zQ pc 98 .imul 1) (zH pc 101 (zQ pc 99 (.iload 5) 2) (zQ pc 101 .iadd 1))) (zH pc 103 (zQ pc 102 (.iconst 0) 1) (zH pc 104 (zQ pc 103 .bastore 1) (zQ pc 104 (.iinc 5 1) 3))))) (zH pc 119 (zH pc 113 (zH pc 110 (zQ pc 107 (.goto (-26)) 3) (zH pc 111 (zQ pc 110 (.iconst 0) 1) (zQ pc 111 (.istore 5) 2))) (zH pc 115 (zQ pc 113 (.iload 5) 2) (zH pc 116 (zQ pc 115 (.aload_n 0) 1) (zQ pc 116 (.getfield 383) 3)))) (zH pc 126 (zH pc 122 (zQ pc 119 (.if_icmp .ge 42) 3) (zH pc 123 (zQ pc 122 (.aload_n 0) 1) (zQ pc 123 (.getfield 171) 3))) (zH pc 128 (zQ pc 126 (.iload 5) 2) (zH pc 129 (zQ pc 128 .iaload 1) (zQ pc 129 (.bipush 96) 2)))))) (zH pc 153 (zH pc 144 (zH pc 138 (zH pc 134 (zQ pc 131 (.if_icmp .ge 24) 3) (zH pc 135 (zQ pc 134 (.aload_n 0) 1) (zQ pc 135 (.getfield 189) 3))) (zH pc 140 (zQ pc 138 (.bipush 96) 2) (zH pc 141 (zQ pc 140 (.aload_n 0) 1) (zQ pc 141 (.getfield 447) 3)))) (zH pc 149 (zH pc 145 (zQ pc 144 .imul 1) (zH pc 146 (zQ pc 145 (.aload_n 0) 1) (zQ pc 146 (.getfield 171) 3))) (zH pc 151 (zQ pc 149 (.iload 5) 2) (zH pc 152 (zQ pc 151 .iaload 1) (zQ pc 152 .iadd 1))))) (zH pc 163 (zH pc 158 (zH pc 154 (zQ pc 153 (.iconst 1) 1) (zH pc 155 (zQ pc 154 .bastore 1) (zQ pc 155 (.iinc 5 1) 3))) (zH pc 161 (zQ pc 158 (.goto (-45)) 3) (zH pc 162 (zQ pc 161 (.aload_n 0) 1) (zQ pc 162 .dup 1)))) (zH pc 168 (zH pc 166 (zQ pc 163 (.getfield 447) 3) (zH pc 167 (zQ pc 166 (.iconst 1) 1) (zQ pc 167 .iadd 1))) (zH pc 171 (zQ pc 168 (.putfield 447) 3) (zH pc 173 (zQ pc 171 (.iload 4) 2) (zQ pc 173 .ireturn 1))))))))
def zc_201 (pc : Nat) : Option (Instr × Nat) := (zH pc 37 (zH pc 17 (zH pc 7 (zH pc 2 (zH pc 1 (zQ pc 0 (.iconst 0) 1) (zQ pc 1 (.istore_n 2) 1)) (zH pc 3 (zQ pc 2 (.iload_n 2) 1) (zH pc 4 (zQ pc 3 (.aload_n 0) 1) (zQ pc 4 (.getfield 447) 3)))) (zH pc 12 (zH pc 10 (zQ pc 7 (.if_icmp .ge 68) 3) (zH pc 11 (zQ pc 10 (.iconst 0) 1) (zQ pc 11 (.istore_n 3) 1))) (zH pc 13 (zQ pc 12 (.iconst 0) 1) (zH pc 15 (zQ pc 13 (.istore 4) 2) (zQ pc 15 (.iload 4) 2))))) (zH pc 26 (zH pc 21 (zH pc 18 (zQ pc 17 (.iload_n 1) 1) (zQ pc 18 (.if_icmp .ge 39) 3)) (zH pc 22 (zQ pc 21 (.iload_n 3) 1) (zH pc 25 (zQ pc 22 (.ifCond .ne 23) 3) (zQ pc 25 (.aload_n 0) 1)))) (zH pc 32 (zH pc 29 (zQ pc 26 (.getfield 189) 3) (zH pc 31 (zQ pc 29 (.bipush 96) 2) (zQ pc 31 (.iload_n 2) 1))) (zH pc 33 (zQ pc 32 .imul 1) (zH pc 34 (zQ pc 33 (.aload_n 0) 1) (zQ pc 34 (.getfield 192) 3)))))) (zH pc 57 (zH pc 45 (zH pc 40 (zH pc 39 (zQ pc 37 (.iload 4) 2) (zQ pc 39 .iaload 1)) (zH pc 41 (zQ pc 40 .iadd 1) (zH pc 42 (zQ pc 41 .baload 1) (zQ pc 42 (.ifCond .eq 7) 3)))) (zH pc 50 (zH pc 46 (zQ pc 45 (.iconst 1) 1) (zH pc 49 (zQ pc 46 (.goto 4) 3) (zQ pc 49 (.iconst 0) 1))) (zH pc 51 (zQ pc 50 (.istore_n 3) 1) (zH pc 54 (zQ pc 51 (.iinc 4 1) 3) (zQ pc 54 (.goto (-39)) 3))))) (zH pc 67 (zH pc 62 (zH pc 58 (zQ pc 57 (.iload_n 3) 1) (zH pc 59 (zQ pc 58 (.aload_n 0) 1) (zQ pc 59 (.getfield 186) 3))) (zH pc 63 (zQ pc 62 (.iload_n 2) 1) (zH pc 64 (zQ pc 63 .baload 1) (zQ pc 64 (.if_icmp .eq 5) 3)))) (zH pc 72 (zH pc 68 (zQ pc 67 (.iconst 0) 1) (zH pc 69 (zQ pc 68 .ireturn 1) (zQ pc 69 (.iinc 2 1) 3))) (zH pc 75 (zQ pc 72 (.goto (-70)) 3) (zH pc 76 (zQ pc 75 (.iconst 1) 1) (zQ pc 76 .ireturn 1)))))))
def zc_202 (pc : Nat) : Option (Instr × Nat) := (zH pc 42 (zH pc 20 (zH pc 10 (zH pc 5 (zH pc 1 (zQ pc 0 (.aload_n 0) 1) (zH pc 2 (zQ pc 1 (.iload_n 1) 1) (zQ pc 2 (.invokevirtual 449) 3))) (zH pc 8 (zQ pc 5 (.ifCond .ne 4) 3) (zH pc 9 (zQ pc 8 .return_ 1) (zQ pc 9 (.aload_n 0) 1)))) (zH pc 17 (zH pc 13 (zQ pc 10 (.getfield 452) 3) (zH pc 16 (zQ pc 13 (.ifCond .ne 28) 3) (zQ pc 16 (.iconst 0) 1))) (zH pc 18 (zQ pc 17 (.istore_n 2) 1) (zH pc 19 (zQ pc 18 (.iload_n 2) 1) (zQ pc 19 (.iload_n 1) 1))))) (zH pc 32 (zH pc 27 (zH pc 23 (zQ pc 20 (.if_icmp .ge 21) 3) (zH pc 24 (zQ pc 23 (.aload_n 0) 1) (zQ pc 24 (.getfield 198) 3))) (zH pc 28 (zQ pc 27 (.iload_n 2) 1) (zH pc 29 (zQ pc 28 (.aload_n 0) 1) (zQ pc 29 (.getfield 192) 3)))) (zH pc 35 (zH pc 33 (zQ pc 32 (.iload_n 2) 1) (zH pc 34 (zQ pc 33 .iaload 1) (zQ pc 34 .iastore 1))) (zH pc 38 (zQ pc 35 (.iinc 2 1) 3) (zH pc 41 (zQ pc 38 (.goto (-20)) 3) (zQ pc 41 (.aload_n 0) 1)))))) (zH pc 62 (zH pc 52 (zH pc 47 (zH pc 43 (zQ pc 42 .dup 1) (zH pc 46 (zQ pc 43 (.getfield 452) 3) (zQ pc 46 (.iconst 1) 1))) (zH pc 48 (zQ pc 47 .iadd 1) (zH pc 51 (zQ pc 48 (.putfield 452) 3) (zQ pc 51 (.iconst 0) 1)))) (zH pc 55 (zH pc 53 (zQ pc 52 (.istore_n 2) 1) (zH pc 54 (zQ pc 53 (.iload_n 2) 1) (zQ pc 54 (.iload_n 1) 1))) (zH pc 58 (zQ pc 55 (.if_icmp .ge 24) 3) (zH pc 59 (zQ pc 58 (.aload_n 0) 1) (zQ pc 59 (.getfield 195) 3))))) (zH pc 70 (zH pc 67 (zH pc 63 (zQ pc 62 (.aload_n 0) 1) (zH pc 66 (zQ pc 63 (.getfield 192) 3) (zQ pc 66 (.iload_n 2) 1))) (zH pc 68 (zQ pc 67 .iaload 1) (zH pc 69 (zQ pc 68 .dup2 1) (zQ pc 69 .iaload 1)))) (zH pc 73 (zH pc 71 (zQ pc 70 (.iconst 1) 1) (zH pc 72 (zQ pc 71 .iadd 1) (zQ pc 72 .iastore 1))) (zH pc 76 (zQ pc 73 (.iinc 2 1) 3) (zH pc 79 (zQ pc 76 (.goto (-23)) 3) (zQ pc 79 .return_ 1)))))))
def zc_203 (pc : Nat) : Option (Instr × Nat) := (zH pc 135 (zH pc 66 (zH pc 32 (zH pc 14 (zH pc 6 (zH pc 2 (zH pc 1 (zQ pc 0 (.aload_n 0) 1) (zQ pc 1 (.iconst 0) 1)) (zH pc 5 (zQ pc 2 (.putfield 452) 3) (zQ pc 5 (.iconst 0) 1))) (zH pc 8 (zH pc 7 (zQ pc 6 (.istore_n 1) 1) (zQ pc 7 (.iload_n 1) 1)) (zH pc 10 (zQ pc 8 (.bipush 96) 2) (zH pc 13 (zQ pc 10 (.if_icmp .ge 16) 3) (zQ pc 13 (.aload_n 0) 1))))) (zH pc 23 (zH pc 18 (zH pc 17 (zQ pc 14 (.getfield 195) 3) (zQ pc 17 (.iload_n 1) 1)) (zH pc 19 (zQ pc 18 (.iconst 0) 1) (zH pc 20 (zQ pc 19 .iastore 1) (zQ pc 20 (.iinc 1 1) 3)))) (zH pc 27 (zH pc 26 (zQ pc 23 (.goto (-16)) 3) (zQ pc 26 (.aload_n 0) 1)) (zH pc 28 (zQ pc 27 (.iconst 0) 1) (zH pc 31 (zQ pc 28 (.invokevirtual 455) 3) (zQ pc 31 (.aload_n 0) 1)))))) (zH pc 48 (zH pc 40 (zH pc 38 (zH pc 35 (zQ pc 32 (.getfield 452) 3) (zQ pc 35 (.ifCond .le 5) 3)) (zH pc 39 (zQ pc 38 (.iconst 0) 1) (zQ pc 39 .ireturn 1))) (zH pc 42 (zH pc 41 (zQ pc 40 (.iconst 0) 1) (zQ pc 41 (.istore_n 1) 1)) (zH pc 43 (zQ pc 42 (.iload_n 1) 1) (zH pc 45 (zQ pc 43 (.bipush 96) 2) (zQ pc 45 (.if_icmp .ge 32) 3))))) (zH pc 59 (zH pc 50 (zH pc 49 (zQ pc 48 (.aload_n 0) 1) (zQ pc 49 (.iload_n 1) 1)) (zH pc 53 (zQ pc 50 (.invokevirtual 208) 3) (zH pc 56 (zQ pc 53 (.ifCond .ne 6) 3) (zQ pc 56 (.goto 15) 3)))) (zH pc 63 (zH pc 60 (zQ pc 59 (.aload_n 0) 1) (zQ pc 60 (.getfield 192) 3)) (zH pc 64 (zQ pc 63 (.iconst 0) 1) (zH pc 65 (zQ pc 64 (.iload_n 1) 1) (zQ pc 65 .iastore 1))))))) (zH pc 98 (zH pc 85 (zH pc 74 (zH pc 68 (zH pc 67 (zQ pc 66 (.aload_n 0) 1) (zQ pc 67 (.iconst 1) 1)) (zH pc 71 (zQ pc 68 (.invokevirtual 455) 3) (zQ pc 71 (.iinc 1 1) 3))) (zH pc 78 (zH pc 77 (zQ pc 74 (.goto (-32)) 3) (zQ pc 77 (.aload_n 0) 1)) (zH pc 81 (zQ pc 78 (.getfield 452) 3) (zH pc 84 (zQ pc 81 (.ifCond .le 5) 3) (zQ pc 84 (.iconst 1) 1))))) (zH pc 91 (zH pc 87 (zH pc 86 (zQ pc 85 .ireturn 1) (zQ pc 86 (.iconst 0) 1)) (zH pc 88 (zQ pc 87 (.istore_n 1) 1) (zH pc 89 (zQ pc 88 (.iload_n 1) 1) (zQ pc 89 (.bipush 96) 2)))) (zH pc 95 (zH pc 94 (zQ pc 91 (.if_icmp .ge 63) 3) (zQ pc 94 (.iload_n 1) 1)) (zH pc 96 (zQ pc 95 (.iconst 1) 1) (zH pc 97 (zQ pc 96 .iadd 1) (zQ pc 97 (.istore_n 2) 1)))))) (zH pc 117 (zH pc 106 (zH pc 101 (zH pc 99 (zQ pc 98 (.iload_n 2) 1) (zQ pc 99 (.bipush 96) 2)) (zH pc 104 (zQ pc 101 (.if_icmp .ge 47) 3) (zH pc 105 (zQ pc 104 (.aload_n 0) 1) (zQ pc 105 (.iload_n 1) 1)))) (zH pc 112 (zH pc 109 (zQ pc 106 (.invokevirtual 208) 3) (zQ pc 109 (.ifCond .eq 39) 3)) (zH pc 113 (zQ pc 112 (.aload_n 0) 1) (zH pc 114 (zQ pc 113 (.iload_n 2) 1) (zQ pc 114 (.invokevirtual 208) 3))))) (zH pc 128 (zH pc 123 (zH pc 120 (zQ pc 117 (.ifCond .ne 6) 3) (zQ pc 120 (.goto 22) 3)) (zH pc 124 (zQ pc 123 (.aload_n 0) 1) (zH pc 127 (zQ pc 124 (.getfield 192) 3) (zQ pc 127 (.iconst 0) 1)))) (zH pc 130 (zH pc 129 (zQ pc 128 (.iload_n 1) 1) (zQ pc 129 .iastore 1)) (zH pc 131 (zQ pc 130 (.aload_n 0) 1) (zH pc 134 (zQ pc 131 (.getfield 192) 3) (zQ pc 134 (.iconst 1) 1)))))))) (zH pc 200 (zH pc 171 (zH pc 154 (zH pc 139 (zH pc 137 (zH pc 136 (zQ pc 135 (.iload_n 2) 1) (zQ pc 136 .iastore 1)) (zH pc 138 (zQ pc 137 (.aload_n 0) 1) (zQ pc 138 (.iconst 2) 1))) (zH pc 145 (zH pc 142 (zQ pc 139 (.invokevirtual 455) 3) (zQ pc 142 (.iinc 2 1) 3)) (zH pc 148 (zQ pc 145 (.goto (-47)) 3) (zH pc 151 (zQ pc 148 (.iinc 1 1) 3) (zQ pc 151 (.goto (-63)) 3))))) (zH pc 163 (zH pc 158 (zH pc 155 (zQ pc 154 (.aload_n 0) 1) (zQ pc 155 (.getfield 452) 3)) (zH pc 161 (zQ pc 158 (.ifCond .le 5) 3) (zH pc 162 (zQ pc 161 (.iconst 2) 1) (zQ pc 162 .ireturn 1)))) (zH pc 165 (zH pc 164 (zQ pc 163 (.iconst 0) 1) (zQ pc 164 (.istore_n 1) 1)) (zH pc 166 (zQ pc 165 (.iload_n 1) 1) (zH pc 168 (zQ pc 166 (.bipush 96) 2) (zQ pc 168 (.if_icmp .ge 94) 3)))))) (zH pc 183 (zH pc 175 (zH pc 173 (zH pc 172 (zQ pc 171 (.iload_n 1) 1) (zQ pc 172 (.iconst 1) 1)) (zH pc 174 (zQ pc 173 .iadd 1) (zQ pc 174 (.istore_n 2) 1))) (zH pc 178 (zH pc 176 (zQ pc 175 (.iload_n 2) 1) (zQ pc 176 (.bipush 96) 2)) (zH pc 181 (zQ pc 178 (.if_icmp .ge 78) 3) (zH pc 182 (zQ pc 181 (.aload_n 0) 1) (zQ pc 182 (.iload_n 1) 1))))) (zH pc 192 (zH pc 189 (zH pc 186 (zQ pc 183 (.invokevirtual 208) 3) (zQ pc 186 (.ifCond .eq 70) 3)) (zH pc 190 (zQ pc 189 (.iload_n 2) 1) (zH pc 191 (zQ pc 190 (.iconst 1) 1) (zQ pc 191 .iadd 1)))) (zH pc 194 (zH pc 193 (zQ pc 192 (.istore_n 3) 1) (zQ pc 193 (.iload_n 3) 1)) (zH pc 196 (zQ pc 194 (.bipush 96) 2) (zH pc 199 (zQ pc 196 (.if_icmp .ge 54) 3) (zQ pc 199 (.aload_n 0) 1))))))) (zH pc 233 (zH pc 219 (zH pc 208 (zH pc 204 (zH pc 201 (zQ pc 200 (.iload_n 2) 1) (zQ pc 201 (.invokevirtual 208) 3)) (zH pc 207 (zQ pc 204 (.ifCond .eq 46) 3) (zQ pc 207 (.aload_n 0) 1))) (zH pc 212 (zH pc 209 (zQ pc 208 (.iload_n 3) 1) (zQ pc 209 (.invokevirtual 208) 3)) (zH pc 215 (zQ pc 212 (.ifCond .ne 6) 3) (zH pc 218 (zQ pc 215 (.goto 29) 3) (zQ pc 218 (.aload_n 0) 1))))) (zH pc 226 (zH pc 223 (zH pc 222 (zQ pc 219 (.getfield 192) 3) (zQ pc 222 (.iconst 0) 1)) (zH pc 224 (zQ pc 223 (.iload_n 1) 1) (zH pc 225 (zQ pc 224 .iastore 1) (zQ pc 225 (.aload_n 0) 1)))) (zH pc 230 (zH pc 229 (zQ pc 226 (.getfield 192) 3) (zQ pc 229 (.iconst 1) 1)) (zH pc 231 (zQ pc 230 (.iload_n 2) 1) (zH pc 232 (zQ pc 231 .iastore 1) (zQ pc 232 (.aload_n 0) 1)))))) (zH pc 253 (zH pc 240 (zH pc 237 (zH pc 236 (zQ pc 233 (.getfield 192) 3) (zQ pc 236 (.iconst 2) 1)) (zH pc 238 (zQ pc 237 (.iload_n 3) 1) (zH pc 239 (zQ pc 238 .iastore 1) (zQ pc 239 (.aload_n 0) 1)))) (zH pc 244 (zH pc 241 (zQ pc 240 (.iconst 3) 1) (zQ pc 241 (.invokevirtual 455) 3)) (zH pc 247 (zQ pc 244 (.iinc 3 1) 3) (zH pc 250 (zQ pc 247 (.goto (-54)) 3) (zQ pc 250 (.iinc 2 1) 3))))) (zH pc 266 (zH pc 259 (zH pc 256 (zQ pc 253 (.goto (-78)) 3) (zQ pc 256 (.iinc 1 1) 3)) (zH pc 262 (zQ pc 259 (.goto (-94)) 3) (zH pc 263 (zQ pc 262 (.aload_n 0) 1) (zQ pc 263 (.getfield 452) 3)))) (zH pc 270 (zH pc 269 (zQ pc 266 (.ifCond .le 7) 3) (zQ pc 269 (.iconst 3) 1)) (zH pc 273 (zQ pc 270 (.goto 4) 3) (zH pc 274 (zQ pc 273 (.iconst (-1)) 1) (zQ pc 274 .ireturn 1)))))))))
def zc_204 (pc : Nat) : Option (Instr × Nat) := (zH pc 22 (zH pc 11 (zH pc 5 (zH pc 1 (zQ pc 0 (.aload_n 0) 1) (zH pc 2 (zQ pc 1 (.iconst 0) 1) (zQ pc 2 (.putfield 201) 3))) (zH pc 7 (zH pc 6 (zQ pc 5 (.iload_n 1) 1) (zQ pc 6 (.iconst 0) 1)) (zH pc 8 (zQ pc 7 (.iconst 3) 1) (zQ pc 8 (.invokestatic 212) 3)))) (zH pc 16 (zH pc 14 (zQ pc 11 (.ifCond .ne 5) 3) (zH pc 15 (zQ pc 14 (.iconst (-1)) 1) (zQ pc 15 .ireturn 1))) (zH pc 20 (zH pc 17 (zQ pc 16 (.aload_n 0) 1) (zQ pc 17 (.invokevirtual 458) 3)) (zH pc 21 (zQ pc 20 (.istore_n 2) 1) (zQ pc 21 (.iload_n 1) 1))))) (zH pc 35 (zH pc 29 (zH pc 25 (zQ pc 22 (.ifCond .ne 7) 3) (zH pc 26 (zQ pc 25 (.iload_n 2) 1) (zQ pc 26 (.goto 20) 3))) (zH pc 31 (zH pc 30 (zQ pc 29 (.iload_n 1) 1) (zQ pc 30 (.iload_n 2) 1)) (zH pc 34 (zQ pc 31 (.if_icmp .gt 14) 3) (zQ pc 34 (.aload_n 0) 1)))) (zH pc 41 (zH pc 39 (zH pc 38 (zQ pc 35 (.getfield 198) 3) (zQ pc 38 (.iload_n 1) 1)) (zH pc 40 (zQ pc 39 (.iconst 1) 1) (zQ pc 40 .isub 1))) (zH pc 45 (zH pc 42 (zQ pc 41 .iaload 1) (zQ pc 42 (.goto 4) 3)) (zH pc 46 (zQ pc 45 (.iconst (-1)) 1) (zQ pc 46 .ireturn 1))))))
def zc_205 (pc : Nat) : Option (Instr × Nat) := (zH pc 21 (zH pc 7 (zH pc 2 (zH pc 1 (zQ pc 0 (.aload_n 0) 1) (zQ pc 1 (.iconst 0) 1)) (zH pc 5 (zQ pc 2 (.putfield 201) 3) (zH pc 6 (zQ pc 5 (.aload_n 0) 1) (zQ pc 6 (.iload_n 1) 1)))) (zH pc 14 (zH pc 10 (zQ pc 7 (.invokevirtual 208) 3) (zH pc 13 (zQ pc 10 (.ifCond .eq 10) 3) (zQ pc 13 (.aload_n 0) 1))) (zH pc 17 (zQ pc 14 (.invokevirtual 458) 3) (zH pc 20 (zQ pc 17 (.ifCond .ge 5) 3) (zQ pc 20 (.iconst (-1)) 1))))) (zH pc 29 (zH pc 26 (zH pc 22 (zQ pc 21 .ireturn 1) (zH pc 23 (zQ pc 22 (.aload_n 0) 1) (zQ pc 23 (.getfield 195) 3))) (zH pc 27 (zQ pc 26 (.iload_n 1) 1) (zH pc 28 (zQ pc 27 .iaload 1) (zQ pc 28 (.aload_n 0) 1)))) (zH pc 36 (zH pc 32 (zQ pc 29 (.getfield 452) 3) (zH pc 35 (zQ pc 32 (.if_icmp .ne 7) 3) (zQ pc 35 (.iconst 1) 1))) (zH pc 39 (zQ pc 36 (.goto 4) 3) (zH pc 40 (zQ pc 39 (.iconst 0) 1) (zQ pc 40 .ireturn 1))))))
def zc_206 (pc : Nat) : Option (Instr × Nat) := (zH pc 9 (zH pc 2 (zH pc 1 (zQ pc 0 (.aload_n 0) 1) (zQ pc 1 (.iconst 0) 1)) (zH pc 5 (zQ pc 2 (.putfield 201) 3) (zH pc 6 (zQ pc 5 (.aload_n 0) 1) (zQ pc 6 (.getfield 447) 3)))) (zH pc 12 (zH pc 10 (zQ pc 9 (.istore_n 1) 1) (zH pc 11 (zQ pc 10 (.aload_n 0) 1) (zQ pc 11 (.iconst 0) 1))) (zH pc 15 (zQ pc 12 (.putfield 447) 3) (zH pc 16 (zQ pc 15 (.iload_n 1) 1) (zQ pc 16 .ireturn 1)))))
def zc_207 (pc : Nat) : Option (Instr × Nat) := (zH pc 54 (zH pc 29 (zH pc 14 (zH pc 6 (zH pc 2 (zH pc 1 (zQ pc 0 (.aload_n 0) 1) (zQ pc 1 (.iconst 0) 1)) (zH pc 5 (zQ pc 2 (.putfield 201) 3) (zQ pc 5 (.aload_n 0) 1))) (zH pc 10 (zH pc 7 (zQ pc 6 (.iload_n 1) 1) (zQ pc 7 (.invokevirtual 241) 3)) (zH pc 13 (zQ pc 10 (.ifCond .eq 12) 3) (zQ pc 13 (.iload_n 2) 1)))) (zH pc 22 (zH pc 16 (zH pc 15 (zQ pc 14 (.iconst 0) 1) (zQ pc 15 (.iconst 5) 1)) (zH pc 19 (zQ pc 16 (.invokestatic 212) 3) (zQ pc 19 (.ifCond .ne 10) 3))) (zH pc 24 (zH pc 23 (zQ pc 22 (.aload_n 0) 1) (zQ pc 23 (.iconst 1) 1)) (zH pc 27 (zQ pc 24 (.putfield 201) 3) (zH pc 28 (zQ pc 27 (.iconst 0) 1) (zQ pc 28 .ireturn 1)))))) (zH pc 41 (zH pc 37 (zH pc 33 (zH pc 30 (zQ pc 29 (.iload_n 2) 1) (zQ pc 30 (.ifCond .ne 10) 3)) (zH pc 34 (zQ pc 33 (.aload_n 0) 1) (zQ pc 34 (.getfield 44) 3))) (zH pc 39 (zH pc 38 (zQ pc 37 (.iload_n 1) 1) (zQ pc 38 .iaload 1)) (zH pc 40 (zQ pc 39 .ireturn 1) (zQ pc 40 (.aload_n 0) 1)))) (zH pc 47 (zH pc 45 (zH pc 44 (zQ pc 41 (.getfield 44) 3) (zQ pc 44 (.iload_n 1) 1)) (zH pc 46 (zQ pc 45 .iaload 1) (zQ pc 46 (.iconst 1) 1))) (zH pc 51 (zH pc 50 (zQ pc 47 (.if_icmp .eq 5) 3) (zQ pc 50 (.iconst (-1)) 1)) (zH pc 52 (zQ pc 51 .ireturn 1) (zH pc 53 (zQ pc 52 (.iload_n 2) 1) (zQ pc 53 (.iconst 1) 1))))))) (zH pc 85 (zH pc 68 (zH pc 62 (zH pc 58 (zH pc 57 (zQ pc 54 (.if_icmp .ne 12) 3) (zQ pc 57 (.aload_n 0) 1)) (zH pc 61 (zQ pc 58 (.getfield 47) 3) (zQ pc 61 (.iload_n 1) 1))) (zH pc 66 (zH pc 63 (zQ pc 62 .iaload 1) (zQ pc 63 (.goto 50) 3)) (zH pc 67 (zQ pc 66 (.iload_n 2) 1) (zQ pc 67 (.iconst 2) 1)))) (zH pc 76 (zH pc 72 (zH pc 71 (zQ pc 68 (.if_icmp .ne 11) 3) (zQ pc 71 (.aload_n 0) 1)) (zH pc 73 (zQ pc 72 (.iload_n 1) 1) (zQ pc 73 (.invokevirtual 252) 3))) (zH pc 80 (zH pc 79 (zQ pc 76 (.goto 37) 3) (zQ pc 79 (.iload_n 2) 1)) (zH pc 81 (zQ pc 80 (.iconst 3) 1) (zH pc 84 (zQ pc 81 (.if_icmp .ne 12) 3) (zQ pc 84 (.aload_n 0) 1)))))) (zH pc 99 (zH pc 93 (zH pc 89 (zH pc 88 (zQ pc 85 (.getfield 50) 3) (zQ pc 88 (.iload_n 1) 1)) (zH pc 90 (zQ pc 89 .iaload 1) (zQ pc 90 (.goto 23) 3))) (zH pc 95 (zH pc 94 (zQ pc 93 (.iload_n 2) 1) (zQ pc 94 (.iconst 4) 1)) (zH pc 98 (zQ pc 95 (.if_icmp .ne 12) 3) (zQ pc 98 (.aload_n 0) 1)))) (zH pc 107 (zH pc 103 (zH pc 102 (zQ pc 99 (.getfield 53) 3) (zQ pc 102 (.iload_n 1) 1)) (zH pc 104 (zQ pc 103 .iaload 1) (zQ pc 104 (.goto 9) 3))) (zH pc 111 (zH pc 108 (zQ pc 107 (.aload_n 0) 1) (zQ pc 108 (.getfield 65) 3)) (zH pc 112 (zQ pc 111 (.iload_n 1) 1) (zH pc 113 (zQ pc 112 .iaload 1) (zQ pc 113 .ireturn 1))))))))
def zc_208 (pc : Nat) : Option (Instr × Nat) := (zH pc 29 (zH pc 14 (zH pc 6 (zH pc 2 (zH pc 1 (zQ pc 0 (.aload_n 0) 1) (zQ pc 1 (.iconst 0) 1)) (zH pc 5 (zQ pc 2 (.putfield 201) 3) (zQ pc 5 (.aload_n 0) 1))) (zH pc 10 (zH pc 7 (zQ pc 6 (.iload_n 1) 1) (zQ pc 7 (.invokevirtual 241) 3)) (zH pc 13 (zQ pc 10 (.ifCond .eq 43) 3) (zQ pc 13 (.aload_n 0) 1)))) (zH pc 20 (zH pc 18 (zH pc 17 (zQ pc 14 (.getfield 44) 3) (zQ pc 17 (.iload_n 1) 1)) (zH pc 19 (zQ pc 18 .iaload 1) (zQ pc 19 (.iconst 1) 1))) (zH pc 24 (zH pc 23 (zQ pc 20 (.if_icmp .ne 33) 3) (zQ pc 23 (.iload_n 2) 1)) (zH pc 25 (zQ pc 24 (.iconst 0) 1) (zH pc 26 (zQ pc 25 (.aload_n 0) 1) (zQ pc 26 (.getfield 68) 3)))))) (zH pc 43 (zH pc 33 (zH pc 31 (zH pc 30 (zQ pc 29 (.iload_n 1) 1) (zQ pc 30 .iaload 1)) (zH pc 32 (zQ pc 31 (.iconst 1) 1) (zQ pc 32 .isub 1))) (zH pc 39 (zH pc 36 (zQ pc 33 (.invokestatic 212) 3) (zQ pc 36 (.ifCond .eq 17) 3)) (zH pc 40 (zQ pc 39 (.aload_n 0) 1) (zQ pc 40 (.getfield 71) 3)))) (zH pc 48 (zH pc 46 (zH pc 45 (zQ pc 43 (.bipush 120) 2) (zQ pc 45 (.iload_n 1) 1)) (zH pc 47 (zQ pc 46 .imul 1) (zQ pc 47 (.iload_n 2) 1))) (zH pc 50 (zH pc 49 (zQ pc 48 .iadd 1) (zQ pc 49 .iaload 1)) (zH pc 53 (zQ pc 50 (.goto 4) 3) (zH pc 54 (zQ pc 53 (.iconst (-1)) 1) (zQ pc 54 .ireturn 1)))))))
def zc_209 (pc : Nat) : Option (Instr × Nat) := (zH pc 13 (zH pc 5 (zH pc 1 (zQ pc 0 (.aload_n 0) 1) (zH pc 2 (zQ pc 1 (.iconst 0) 1) (zQ pc 2 (.putfield 201) 3))) (zH pc 7 (zH pc 6 (zQ pc 5 (.aload_n 0) 1) (zQ pc 6 (.iload_n 1) 1)) (zH pc 10 (zQ pc 7 (.invokevirtual 227) 3) (zQ pc 10 (.ifCond .eq 12) 3)))) (zH pc 18 (zH pc 14 (zQ pc 13 (.aload_n 0) 1) (zH pc 17 (zQ pc 14 (.getfield 25) 3) (zQ pc 17 (.iload_n 1) 1))) (zH pc 22 (zH pc 19 (zQ pc 18 .iaload 1) (zQ pc 19 (.goto 4) 3)) (zH pc 23 (zQ pc 22 (.iconst (-1)) 1) (zQ pc 23 .ireturn 1)))))
def zc_210 (pc : Nat) : Option (Instr × Nat) := (zH pc 39 (zH pc 19 (zH pc 7 (zH pc 2 (zH pc 1 (zQ pc 0 (.aload_n 0) 1) (zQ pc 1 (.iconst 0) 1)) (zH pc 5 (zQ pc 2 (.putfield 201) 3) (zH pc 6 (zQ pc 5 (.iload_n 1) 1) (zQ pc 6 (.iconst 0) 1)))) (zH pc 12 (zH pc 8 (zQ pc 7 (.aload_n 0) 1) (zH pc 11 (zQ pc 8 (.getfield 264) 3) (zQ pc 11 (.iconst 1) 1))) (zH pc 13 (zQ pc 12 .isub 1) (zH pc 16 (zQ pc 13 (.invokestatic 212) 3) (zQ pc 16 (.ifCond .eq 12) 3))))) (zH pc 29 (zH pc 22 (zH pc 20 (zQ pc 19 (.iload_n 2) 1) (zH pc 21 (zQ pc 20 (.iconst 0) 1) (zQ pc 21 (.iconst 3) 1))) (zH pc 25 (zQ pc 22 (.invokestatic 212) 3) (zH pc 28 (zQ pc 25 (.ifCond .ne 5) 3) (zQ pc 28 (.iconst (-1)) 1)))) (zH pc 34 (zH pc 30 (zQ pc 29 .ireturn 1) (zH pc 31 (zQ pc 30 (.iload_n 2) 1) (zQ pc 31 (.ifCond .ne 12) 3))) (zH pc 35 (zQ pc 34 (.aload_n 0) 1) (zH pc 38 (zQ pc 35 (.getfield 80) 3) (zQ pc 38 (.iload_n 1) 1)))))) (zH pc 59 (zH pc 48 (zH pc 43 (zH pc 40 (zQ pc 39 .iaload 1) (zQ pc 40 (.goto 38) 3)) (zH pc 44 (zQ pc 43 (.iload_n 2) 1) (zH pc 45 (zQ pc 44 (.iconst 1) 1) (zQ pc 45 (.if_icmp .ne 13) 3)))) (zH pc 52 (zH pc 49 (zQ pc 48 (.aload_n 0) 1) (zH pc 50 (zQ pc 49 (.iload_n 1) 1) (zQ pc 50 (.bipush 99) 2))) (zH pc 55 (zQ pc 52 (.invokevirtual 271) 3) (zH pc 58 (zQ pc 55 (.goto 23) 3) (zQ pc 58 (.iload_n 2) 1))))) (zH pc 69 (zH pc 64 (zH pc 60 (zQ pc 59 (.iconst 2) 1) (zH pc 63 (zQ pc 60 (.if_icmp .ne 12) 3) (zQ pc 63 (.aload_n 0) 1))) (zH pc 67 (zQ pc 64 (.getfield 86) 3) (zH pc 68 (zQ pc 67 (.iload_n 1) 1) (zQ pc 68 .iaload 1)))) (zH pc 76 (zH pc 72 (zQ pc 69 (.goto 9) 3) (zH pc 73 (zQ pc 72 (.aload_n 0) 1) (zQ pc 73 (.getfield 89) 3))) (zH pc 77 (zQ pc 76 (.iload_n 1) 1) (zH pc 78 (zQ pc 77 .iaload 1) (zQ pc 78 .ireturn 1)))))))
def zc_211 (pc : Nat) : Option (Instr × Nat) := (zH pc 156 (zH pc 107 (zH pc 86 (zH pc 8 (zH pc 5 (zH pc 1 (zQ pc 0 (.aload_n 0) 1) (zH pc 2 (zQ pc 1 (.iconst 0) 1) (zQ pc 2 (.putfield 201) 3))) (zH pc 6 (zQ pc 5 (.iconst 0) 1) (zH pc 7 (zQ pc 6 (.istore_n 2) 1) (zQ pc 7 (.iload_n 1) 1)))) (zH pc 80 (zH pc 76 (zQ pc 8 (.tableswitch 232 0 12 #[68, 73, 78, 83, 114, 142, 147, 152, 157, 164, 171, 176, 203]) 68) (zH pc 77 (zQ pc 76 (.aload_n 0) 1) (zQ pc 77 (.getfield 220) 3))) (zH pc 82 (zH pc 81 (zQ pc 80 .ireturn 1) (zQ pc 81 (.aload_n 0) 1)) (zH pc 85 (zQ pc 82 (.getfield 205) 3) (zQ pc 85 .ireturn 1))))) (zH pc 94 (zH pc 91 (zH pc 87 (zQ pc 86 (.aload_n 0) 1) (zH pc 90 (zQ pc 87 (.getfield 216) 3) (zQ pc 90 .ireturn 1))) (zH pc 92 (zQ pc 91 (.iconst 0) 1) (zH pc 93 (zQ pc 92 (.istore_n 3) 1) (zQ pc 93 (.iload_n 3) 1)))) (zH pc 101 (zH pc 95 (zQ pc 94 (.aload_n 0) 1) (zH pc 98 (zQ pc 95 (.getfield 216) 3) (zQ pc 98 (.if_icmp .ge 22) 3))) (zH pc 105 (zH pc 102 (zQ pc 101 (.aload_n 0) 1) (zQ pc 102 (.getfield 44) 3)) (zH pc 106 (zQ pc 105 (.iload_n 3) 1) (zQ pc 106 .iaload 1)))))) (zH pc 131 (zH pc 121 (zH pc 114 (zH pc 108 (zQ pc 107 (.iconst 1) 1) (zH pc 111 (zQ pc 108 (.if_icmp .ne 6) 3) (zQ pc 111 (.iinc 2 1) 3))) (zH pc 117 (zQ pc 114 (.iinc 3 1) 3) (zH pc 120 (zQ pc 117 (.goto (-24)) 3) (zQ pc 120 (.iload_n 2) 1)))) (zH pc 124 (zH pc 122 (zQ pc 121 .ireturn 1) (zH pc 123 (zQ pc 122 (.iconst 0) 1) (zQ pc 123 (.istore_n 3) 1))) (zH pc 127 (zH pc 125 (zQ pc 124 (.iload_n 3) 1) (zQ pc 125 (.bipush 96) 2)) (zH pc 130 (zQ pc 127 (.if_icmp .ge 21) 3) (zQ pc 130 (.aload_n 0) 1))))) (zH pc 145 (zH pc 136 (zH pc 134 (zQ pc 131 (.getfield 25) 3) (zH pc 135 (zQ pc 134 (.iload_n 3) 1) (zQ pc 135 .iaload 1))) (zH pc 139 (zQ pc 136 (.ifCond .lt 6) 3) (zH pc 142 (zQ pc 139 (.iinc 2 1) 3) (zQ pc 142 (.iinc 3 1) 3)))) (zH pc 150 (zH pc 148 (zQ pc 145 (.goto (-21)) 3) (zH pc 149 (zQ pc 148 (.iload_n 2) 1) (zQ pc 149 .ireturn 1))) (zH pc 154 (zH pc 151 (zQ pc 150 (.aload_n 0) 1) (zQ pc 151 (.getfield 264) 3)) (zH pc 155 (zQ pc 154 .ireturn 1) (zQ pc 155 (.aload_n 0) 1))))))) (zH pc 196 (zH pc 177 (zH pc 166 (zH pc 161 (zH pc 159 (zQ pc 156 (.getfield 268) 3) (zH pc 160 (zQ pc 159 .ireturn 1) (zQ pc 160 (.aload_n 0) 1))) (zH pc 164 (zQ pc 161 (.getfield 447) 3) (zH pc 165 (zQ pc 164 .ireturn 1) (zQ pc 165 (.aload_n 0) 1)))) (zH pc 171 (zH pc 169 (zQ pc 166 (.getfield 104) 3) (zH pc 170 (zQ pc 169 (.iconst 0) 1) (zQ pc 170 .iaload 1))) (zH pc 173 (zH pc 172 (zQ pc 171 .ireturn 1) (zQ pc 172 (.aload_n 0) 1)) (zH pc 176 (zQ pc 173 (.getfield 122) 3) (zQ pc 176 (.iconst 0) 1))))) (zH pc 185 (zH pc 180 (zH pc 178 (zQ pc 177 .iaload 1) (zH pc 179 (zQ pc 178 .ireturn 1) (zQ pc 179 (.aload_n 0) 1))) (zH pc 183 (zQ pc 180 (.getfield 276) 3) (zH pc 184 (zQ pc 183 .ireturn 1) (zQ pc 184 (.iconst 0) 1)))) (zH pc 188 (zH pc 186 (zQ pc 185 (.istore_n 3) 1) (zH pc 187 (zQ pc 186 (.iload_n 3) 1) (zQ pc 187 (.aload_n 0) 1))) (zH pc 194 (zH pc 191 (zQ pc 188 (.getfield 205) 3) (zQ pc 191 (.if_icmp .ge 18) 3)) (zH pc 195 (zQ pc 194 (.iload_n 2) 1) (zQ pc 195 (.aload_n 0) 1)))))) (zH pc 217 (zH pc 206 (zH pc 201 (zH pc 199 (zQ pc 196 (.getfield 13) 3) (zH pc 200 (zQ pc 199 (.iload_n 3) 1) (zQ pc 200 .iaload 1))) (zH pc 202 (zQ pc 201 .iadd 1) (zH pc 203 (zQ pc 202 (.istore_n 2) 1) (zQ pc 203 (.iinc 3 1) 3)))) (zH pc 211 (zH pc 209 (zQ pc 206 (.goto (-20)) 3) (zH pc 210 (zQ pc 209 (.iload_n 2) 1) (zQ pc 210 .ireturn 1))) (zH pc 214 (zH pc 213 (zQ pc 211 (.bipush 100) 2) (zQ pc 213 (.istore_n 3) 1)) (zH pc 215 (zQ pc 214 (.iload_n 3) 1) (zQ pc 215 (.bipush 116) 2))))) (zH pc 229 (zH pc 224 (zH pc 220 (zQ pc 217 (.if_icmp .ge 21) 3) (zH pc 221 (zQ pc 220 (.aload_n 0) 1) (zQ pc 221 (.getfield 25) 3))) (zH pc 225 (zQ pc 224 (.iload_n 3) 1) (zH pc 226 (zQ pc 225 .iaload 1) (zQ pc 226 (.ifCond .lt 6) 3)))) (zH pc 238 (zH pc 232 (zQ pc 229 (.iinc 2 1) 3) (zH pc 235 (zQ pc 232 (.iinc 3 1) 3) (zQ pc 235 (.goto (-21)) 3))) (zH pc 240 (zH pc 239 (zQ pc 238 (.iload_n 2) 1) (zQ pc 239 .ireturn 1)) (zH pc 241 (zQ pc 240 (.iconst (-1)) 1) (zQ pc 241 .ireturn 1))))))))
def zc_212 (pc : Nat) : Option (Instr × Nat) := (zH pc 824 (zH pc 474 (zH pc 300 (zH pc 221 (zH pc 178 (zH pc 26 (zH pc 15 (zH pc 7 (zH pc 3 (zQ pc 0 (.new 8) 3) (zH pc 4 (zQ pc 3 .dup 1) (zQ pc 4 (.invokespecial 15) 3))) (zH pc 11 (zH pc 8 (zQ pc 7 (.astore_n 1) 1) (zQ pc 8 (.new 16) 3)) (zH pc 12 (zQ pc 11 .dup 1) (zQ pc 12 (.invokespecial 18) 3)))) (zH pc 20 (zH pc 17 (zH pc 16 (zQ pc 15 (.astore_n 2) 1) (zQ pc 16 (.iconst 1) 1)) (zH pc 19 (zQ pc 17 (.newarray .long) 2) (zQ pc 19 (.astore_n 3) 1))) (zH pc 23 (zH pc 21 (zQ pc 20 (.iconst 0) 1) (zQ pc 21 (.istore 4) 2)) (zH pc 25 (zQ pc 23 (.iload 4) 2) (zQ pc 25 (.aload_n 0) 1))))) (zH pc 37 (zH pc 30 (zH pc 27 (zQ pc 26 .arraylength 1) (zH pc 29 (zQ pc 27 (.bipush 7) 2) (zQ pc 29 .isub 1))) (zH pc 34 (zH pc 33 (zQ pc 30 (.if_icmp .gt 1468) 3) (zQ pc 33 (.aload_n 0) 1)) (zH pc 36 (zQ pc 34 (.iload 4) 2) (zQ pc 36 .iaload 1)))) (zH pc 173 (zH pc 40 (zH pc 39 (zQ pc 37 (.bipush 31) 2) (zQ pc 39 .iand 1)) (zH pc 172 (zQ pc 40 (.tableswitch 1452 0 28 #[132, 157, 206, 279, 316, 365, 418, 471, 496, 533, 558, 583, 730, 743, 780, 841, 890, 977, 1038, 1087, 1148, 1197, 1222, 1247, 1260, 1328, 1365, 1390, 1427]) 132) (zQ pc 172 (.aload_n 1) 1))) (zH pc 176 (zH pc 174 (zQ pc 173 (.aload_n 0) 1) (zQ pc 174 (.iload 4) 2)) (zH pc 177 (zQ pc 176 (.iconst 1) 1) (zQ pc 177 .iadd 1)))))) (zH pc 201 (zH pc 188 (zH pc 183 (zH pc 179 (zQ pc 178 .iaload 1) (zH pc 182 (zQ pc 179 (.invokevirtual 19) 3) (zQ pc 182 (.aload_n 2) 1))) (zH pc 186 (zH pc 184 (zQ pc 183 (.aload_n 0) 1) (zQ pc 184 (.iload 4) 2)) (zH pc 187 (zQ pc 186 (.iconst 1) 1) (zQ pc 187 .iadd 1)))) (zH pc 196 (zH pc 192 (zH pc 189 (zQ pc 188 .iaload 1) (zQ pc 189 (.invokevirtual 23) 3)) (zH pc 195 (zQ pc 192 (.if_icmp .eq 1300) 3) (zQ pc 195 (.iconst 0) 1))) (zH pc 198 (zH pc 197 (zQ pc 196 .ireturn 1) (zQ pc 197 (.aload_n 1) 1)) (zH pc 199 (zQ pc 198 (.aload_n 0) 1) (zQ pc 199 (.iload 4) 2))))) (zH pc 210 (zH pc 205 (zH pc 203 (zH pc 202 (zQ pc 201 (.iconst 1) 1) (zQ pc 202 .iadd 1)) (zH pc 204 (zQ pc 203 .iaload 1) (zQ pc 204 (.aload_n 0) 1))) (zH pc 208 (zH pc 207 (zQ pc 205 (.iload 4) 2) (zQ pc 207 (.iconst 2) 1)) (zH pc 209 (zQ pc 208 .iadd 1) (zQ pc 209 .iaload 1)))) (zH pc 215 (zH pc 213 (zH pc 211 (zQ pc 210 (.aload_n 0) 1) (zQ pc 211 (.iload 4) 2)) (zH pc 214 (zQ pc 213 (.iconst 3) 1) (zQ pc 214 .iadd 1))) (zH pc 219 (zH pc 216 (zQ pc 215 .iaload 1) (zQ pc 216 (.invokevirtual 24) 3)) (zH pc 220 (zQ pc 219 (.aload_n 2) 1) (zQ pc 220 (.aload_n 0) 1))))))) (zH pc 262 (zH pc 241 (zH pc 230 (zH pc 225 (zH pc 223 (zQ pc 221 (.iload 4) 2) (zH pc 224 (zQ pc 223 (.iconst 1) 1) (zQ pc 224 .iadd 1))) (zH pc 227 (zH pc 226 (zQ pc 225 .iaload 1) (zQ pc 226 (.aload_n 0) 1)) (zH pc 229 (zQ pc 227 (.iload 4) 2) (zQ pc 229 (.iconst 2) 1)))) (zH pc 235 (zH pc 232 (zH pc 231 (zQ pc 230 .iadd 1) (zQ pc 231 .iaload 1)) (zH pc 233 (zQ pc 232 (.aload_n 0) 1) (zQ pc 233 (.iload 4) 2))) (zH pc 237 (zH pc 236 (zQ pc 235 (.iconst 3) 1) (zQ pc 236 .iadd 1)) (zH pc 238 (zQ pc 237 .iaload 1) (zQ pc 238 (.invokevirtual 28) 3))))) (zH pc 252 (zH pc 247 (zH pc 245 (zH pc 244 (zQ pc 241 (.if_icmp .eq 1251) 3) (zQ pc 244 (.iconst 0) 1)) (zH pc 246 (zQ pc 245 .ireturn 1) (zQ pc 246 (.aload_n 1) 1))) (zH pc 250 (zH pc 248 (zQ pc 247 (.aload_n 0) 1) (zQ pc 248 (.iload 4) 2)) (zH pc 251 (zQ pc 250 (.iconst 1) 1) (zQ pc 251 .iadd 1)))) (zH pc 257 (zH pc 254 (zH pc 253 (zQ pc 252 .iaload 1) (zQ pc 253 (.aload_n 0) 1)) (zH pc 256 (zQ pc 254 (.iload 4) 2) (zQ pc 256 (.iconst 2) 1))) (zH pc 259 (zH pc 258 (zQ pc 257 .iadd 1) (zQ pc 258 .iaload 1)) (zH pc 260 (zQ pc 259 (.aload_n 0) 1) (zQ pc 260 (.iload 4) 2)))))) (zH pc 281 (zH pc 270 (zH pc 265 (zH pc 263 (zQ pc 262 (.iconst 3) 1) (zH pc 264 (zQ pc 263 .iadd 1) (zQ pc 264 .iaload 1))) (zH pc 268 (zH pc 266 (zQ pc 265 (.aload_n 0) 1) (zQ pc 266 (.iload 4) 2)) (zH pc 269 (zQ pc 268 (.iconst 4) 1) (zQ pc 269 .iadd 1)))) (zH pc 275 (zH pc 272 (zH pc 271 (zQ pc 270 .iaload 1) (zQ pc 271 (.aload_n 0) 1)) (zH pc 274 (zQ pc 272 (.iload 4) 2) (zQ pc 274 (.iconst 5) 1))) (zH pc 277 (zH pc 276 (zQ pc 275 .iadd 1) (zQ pc 276 .iaload 1)) (zH pc 280 (zQ pc 277 (.invokevirtual 29) 3) (zQ pc 280 (.aload_n 2) 1))))) (zH pc 291 (zH pc 286 (zH pc 284 (zH pc 282 (zQ pc 281 (.aload_n 0) 1) (zQ pc 282 (.iload 4) 2)) (zH pc 285 (zQ pc 284 (.iconst 1) 1) (zQ pc 285 .iadd 1))) (zH pc 288 (zH pc 287 (zQ pc 286 .iaload 1) (zQ pc 287 (.aload_n 0) 1)) (zH pc 290 (zQ pc 288 (.iload 4) 2) (zQ pc 290 (.iconst 2) 1)))) (zH pc 296 (zH pc 293 (zH pc 292 (zQ pc 291 .iadd 1) (zQ pc 292 .iaload 1)) (zH pc 294 (zQ pc 293 (.aload_n 0) 1) (zQ pc 294 (.iload 4) 2))) (zH pc 298 (zH pc 297 (zQ pc 296 (.iconst 3) 1) (zQ pc 297 .iadd 1)) (zH pc 299 (zQ pc 298 .iaload 1) (zQ pc 299 (.aload_n 0) 1)))))))) (zH pc 384 (zH pc 342 (zH pc 321 (zH pc 309 (zH pc 304 (zH pc 302 (zQ pc 300 (.iload 4) 2) (zH pc 303 (zQ pc 302 (.iconst 4) 1) (zQ pc 303 .iadd 1))) (zH pc 306 (zH pc 305 (zQ pc 304 .iaload 1) (zQ pc 305 (.aload_n 0) 1)) (zH pc 308 (zQ pc 306 (.iload 4) 2) (zQ pc 308 (.iconst 5) 1)))) (zH pc 317 (zH pc 311 (zH pc 310 (zQ pc 309 .iadd 1) (zQ pc 310 .iaload 1)) (zH pc 314 (zQ pc 311 (.invokevirtual 33) 3) (zQ pc 314 (.if_icmp .eq 1178) 3))) (zH pc 319 (zH pc 318 (zQ pc 317 (.iconst 0) 1) (zQ pc 318 .ireturn 1)) (zH pc 320 (zQ pc 319 (.aload_n 1) 1) (zQ pc 320 (.aload_n 0) 1))))) (zH pc 331 (zH pc 326 (zH pc 324 (zH pc 323 (zQ pc 321 (.iload 4) 2) (zQ pc 323 (.iconst 1) 1)) (zH pc 325 (zQ pc 324 .iadd 1) (zQ pc 325 .iaload 1))) (zH pc 329 (zH pc 327 (zQ pc 326 (.aload_n 0) 1) (zQ pc 327 (.iload 4) 2)) (zH pc 330 (zQ pc 329 (.iconst 2) 1) (zQ pc 330 .iadd 1)))) (zH pc 337 (zH pc 335 (zH pc 332 (zQ pc 331 .iaload 1) (zQ pc 332 (.invokevirtual 34) 3)) (zH pc 336 (zQ pc 335 (.aload_n 2) 1) (zQ pc 336 (.aload_n 0) 1))) (zH pc 340 (zH pc 339 (zQ pc 337 (.iload 4) 2) (zQ pc 339 (.iconst 1) 1)) (zH pc 341 (zQ pc 340 .iadd 1) (zQ pc 341 .iaload 1)))))) (zH pc 363 (zH pc 354 (zH pc 346 (zH pc 343 (zQ pc 342 (.aload_n 0) 1) (zH pc 345 (zQ pc 343 (.iload 4) 2) (zQ pc 345 (.iconst 2) 1))) (zH pc 348 (zH pc 347 (zQ pc 346 .iadd 1) (zQ pc 347 .iaload 1)) (zH pc 351 (zQ pc 348 (.invokevirtual 38) 3) (zQ pc 351 (.if_icmp .eq 1141) 3)))) (zH pc 358 (zH pc 356 (zH pc 355 (zQ pc 354 (.iconst 0) 1) (zQ pc 355 .ireturn 1)) (zH pc 357 (zQ pc 356 (.aload_n 1) 1) (zQ pc 357 (.aload_n 0) 1))) (zH pc 361 (zH pc 360 (zQ pc 358 (.iload 4) 2) (zQ pc 360 (.iconst 1) 1)) (zH pc 362 (zQ pc 361 .iadd 1) (zQ pc 362 .iaload 1))))) (zH pc 373 (zH pc 368 (zH pc 366 (zH pc 364 (zQ pc 363 (.aload_n 0) 1) (zQ pc 364 (.iload 4) 2)) (zH pc 367 (zQ pc 366 (.iconst 2) 1) (zQ pc 367 .iadd 1))) (zH pc 370 (zH pc 369 (zQ pc 368 .iaload 1) (zQ pc 369 (.aload_n 0) 1)) (zH pc 372 (zQ pc 370 (.iload 4) 2) (zQ pc 372 (.iconst 3) 1)))) (zH pc 379 (zH pc 375 (zH pc 374 (zQ pc 373 .iadd 1) (zQ pc 374 .iaload 1)) (zH pc 378 (zQ pc 375 (.invokevirtual 39) 3) (zQ pc 378 (.aload_n 2) 1))) (zH pc 382 (zH pc 380 (zQ pc 379 (.aload_n 0) 1) (zQ pc 380 (.iload 4) 2)) (zH pc 383 (zQ pc 382 (.iconst 1) 1) (zQ pc 383 .iadd 1))))))) (zH pc 429 (zH pc 405 (zH pc 392 (zH pc 388 (zH pc 385 (zQ pc 384 .iaload 1) (zH pc 386 (zQ pc 385 (.aload_n 0) 1) (zQ pc 386 (.iload 4) 2))) (zH pc 390 (zH pc 389 (zQ pc 388 (.iconst 2) 1) (zQ pc 389 .iadd 1)) (zH pc 391 (zQ pc 390 .iaload 1) (zQ pc 391 (.aload_n 0) 1)))) (zH pc 397 (zH pc 395 (zH pc 394 (zQ pc 392 (.iload 4) 2) (zQ pc 394 (.iconst 3) 1)) (zH pc 396 (zQ pc 395 .iadd 1) (zQ pc 396 .iaload 1))) (zH pc 403 (zH pc 400 (zQ pc 397 (.invokevirtual 42) 3) (zQ pc 400 (.if_icmp .eq 1092) 3)) (zH pc 404 (zQ pc 403 (.iconst 0) 1) (zQ pc 404 .ireturn 1))))) (zH pc 415 (zH pc 410 (zH pc 407 (zH pc 406 (zQ pc 405 (.aload_n 1) 1) (zQ pc 406 (.aload_n 0) 1)) (zH pc 409 (zQ pc 407 (.iload 4) 2) (zQ pc 409 (.iconst 1) 1))) (zH pc 412 (zH pc 411 (zQ pc 410 .iadd 1) (zQ pc 411 .iaload 1)) (zH pc 413 (zQ pc 412 (.aload_n 0) 1) (zQ pc 413 (.iload 4) 2)))) (zH pc 421 (zH pc 417 (zH pc 416 (zQ pc 415 (.iconst 2) 1) (zQ pc 416 .iadd 1)) (zH pc 418 (zQ pc 417 .iaload 1) (zQ pc 418 (.ifCond .eq 7) 3))) (zH pc 425 (zH pc 422 (zQ pc 421 (.iconst 1) 1) (zQ pc 422 (.goto 4) 3)) (zH pc 426 (zQ pc 425 (.iconst 0) 1) (zQ pc 426 (.invokevirtual 43) 3)))))) (zH pc 450 (zH pc 437 (zH pc 433 (zH pc 430 (zQ pc 429 (.aload_n 2) 1) (zH pc 431 (zQ pc 430 (.aload_n 0) 1) (zQ pc 431 (.iload 4) 2))) (zH pc 435 (zH pc 434 (zQ pc 433 (.iconst 1) 1) (zQ pc 434 .iadd 1)) (zH pc 436 (zQ pc 435 .iaload 1) (zQ pc 436 (.aload_n 0) 1)))) (zH pc 442 (zH pc 440 (zH pc 439 (zQ pc 437 (.iload 4) 2) (zQ pc 439 (.iconst 2) 1)) (zH pc 441 (zQ pc 440 .iadd 1) (zQ pc 441 .iaload 1))) (zH pc 446 (zH pc 445 (zQ pc 442 (.ifCond .eq 7) 3) (zQ pc 445 (.iconst 1) 1)) (zH pc 449 (zQ pc 446 (.goto 4) 3) (zQ pc 449 (.iconst 0) 1))))) (zH pc 463 (zH pc 458 (zH pc 456 (zH pc 453 (zQ pc 450 (.invokevirtual 47) 3) (zQ pc 453 (.if_icmp .eq 1039) 3)) (zH pc 457 (zQ pc 456 (.iconst 0) 1) (zQ pc 457 .ireturn 1))) (zH pc 460 (zH pc 459 (zQ pc 458 (.aload_n 1) 1) (zQ pc 459 (.aload_n 0) 1)) (zH pc 462 (zQ pc 460 (.iload 4) 2) (zQ pc 462 (.iconst 1) 1)))) (zH pc 468 (zH pc 465 (zH pc 464 (zQ pc 463 .iadd 1) (zQ pc 464 .iaload 1)) (zH pc 466 (zQ pc 465 (.aload_n 0) 1) (zQ pc 466 (.iload 4) 2))) (zH pc 470 (zH pc 469 (zQ pc 468 (.iconst 2) 1) (zQ pc 469 .iadd 1)) (zH pc 471 (zQ pc 470 .iaload 1) (zQ pc 471 (.ifCond .eq 7) 3))))))))) (zH pc 651 (zH pc 563 (zH pc 521 (zH pc 495 (zH pc 486 (zH pc 479 (zH pc 475 (zQ pc 474 (.iconst 1) 1) (zH pc 478 (zQ pc 475 (.goto 4) 3) (zQ pc 478 (.iconst 0) 1))) (zH pc 483 (zH pc 482 (zQ pc 479 (.invokevirtual 48) 3) (zQ pc 482 (.aload_n 2) 1)) (zH pc 484 (zQ pc 483 (.aload_n 0) 1) (zQ pc 484 (.iload 4) 2)))) (zH pc 490 (zH pc 488 (zH pc 487 (zQ pc 486 (.iconst 1) 1) (zQ pc 487 .iadd 1)) (zH pc 489 (zQ pc 488 .iaload 1) (zQ pc 489 (.aload_n 0) 1))) (zH pc 493 (zH pc 492 (zQ pc 490 (.iload 4) 2) (zQ pc 492 (.iconst 2) 1)) (zH pc 494 (zQ pc 493 .iadd 1) (zQ pc 494 .iaload 1))))) (zH pc 510 (zH pc 502 (zH pc 498 (zQ pc 495 (.ifCond .eq 7) 3) (zH pc 499 (zQ pc 498 (.iconst 1) 1) (zQ pc 499 (.goto 4) 3))) (zH pc 506 (zH pc 503 (zQ pc 502 (.iconst 0) 1) (zQ pc 503 (.invokevirtual 51) 3)) (zH pc 509 (zQ pc 506 (.if_icmp .eq 986) 3) (zQ pc 509 (.iconst 0) 1)))) (zH pc 515 (zH pc 512 (zH pc 511 (zQ pc 510 .ireturn 1) (zQ pc 511 (.aload_n 1) 1)) (zH pc 513 (zQ pc 512 (.aload_n 0) 1) (zQ pc 513 (.iload 4) 2))) (zH pc 517 (zH pc 516 (zQ pc 515 (.iconst 1) 1) (zQ pc 516 .iadd 1)) (zH pc 518 (zQ pc 517 .iaload 1) (zQ pc 518 (.invokevirtual 52) 3)))))) (zH pc 542 (zH pc 531 (zH pc 525 (zH pc 522 (zQ pc 521 (.aload_n 2) 1) (zH pc 523 (zQ pc 522 (.aload_n 0) 1) (zQ pc 523 (.iload 4) 2))) (zH pc 527 (zH pc 526 (zQ pc 525 (.iconst 1) 1) (zQ pc 526 .iadd 1)) (zH pc 528 (zQ pc 527 .iaload 1) (zQ pc 528 (.invokevirtual 55) 3)))) (zH pc 537 (zH pc 535 (zH pc 534 (zQ pc 531 (.if_icmp .eq 961) 3) (zQ pc 534 (.iconst 0) 1)) (zH pc 536 (zQ pc 535 .ireturn 1) (zQ pc 536 (.aload_n 1) 1))) (zH pc 540 (zH pc 538 (zQ pc 537 (.aload_n 0) 1) (zQ pc 538 (.iload 4) 2)) (zH pc 541 (zQ pc 540 (.iconst 1) 1) (zQ pc 541 .iadd 1))))) (zH pc 553 (zH pc 547 (zH pc 544 (zH pc 543 (zQ pc 542 .iaload 1) (zQ pc 543 (.aload_n 0) 1)) (zH pc 546 (zQ pc 544 (.iload 4) 2) (zQ pc 546 (.iconst 2) 1))) (zH pc 549 (zH pc 548 (zQ pc 547 .iadd 1) (zQ pc 548 .iaload 1)) (zH pc 552 (zQ pc 549 (.invokevirtual 56) 3) (zQ pc 552 (.aload_n 2) 1)))) (zH pc 558 (zH pc 556 (zH pc 554 (zQ pc 553 (.aload_n 0) 1) (zQ pc 554 (.iload 4) 2)) (zH pc 557 (zQ pc 556 (.iconst 1) 1) (zQ pc 557 .iadd 1))) (zH pc 560 (zH pc 559 (zQ pc 558 .iaload 1) (zQ pc 559 (.aload_n 0) 1)) (zH pc 562 (zQ pc 560 (.iload 4) 2) (zQ pc 562 (.iconst 2) 1))))))) (zH pc 609 (zH pc 585 (zH pc 574 (zH pc 568 (zH pc 564 (zQ pc 563 .iadd 1) (zH pc 565 (zQ pc 564 .iaload 1) (zQ pc 565 (.invokevirtual 59) 3))) (zH pc 572 (zH pc 571 (zQ pc 568 (.if_icmp .eq 924) 3) (zQ pc 571 (.iconst 0) 1)) (zH pc 573 (zQ pc 572 .ireturn 1) (zQ pc 573 (.aload_n 1) 1)))) (zH pc 579 (zH pc 577 (zH pc 575 (zQ pc 574 (.aload_n 0) 1) (zQ pc 575 (.iload 4) 2)) (zH pc 578 (zQ pc 577 (.iconst 1) 1) (zQ pc 578 .iadd 1))) (zH pc 583 (zH pc 580 (zQ pc 579 .iaload 1) (zQ pc 580 (.invokevirtual 60) 3)) (zH pc 584 (zQ pc 583 (.aload_n 2) 1) (zQ pc 584 (.aload_n 0) 1))))) (zH pc 598 (zH pc 590 (zH pc 588 (zH pc 587 (zQ pc 585 (.iload 4) 2) (zQ pc 587 (.iconst 1) 1)) (zH pc 589 (zQ pc 588 .iadd 1) (zQ pc 589 .iaload 1))) (zH pc 596 (zH pc 593 (zQ pc 590 (.invokevirtual 64) 3) (zQ pc 593 (.if_icmp .eq 899) 3)) (zH pc 597 (zQ pc 596 (.iconst 0) 1) (zQ pc 597 .ireturn 1)))) (zH pc 603 (zH pc 600 (zH pc 599 (zQ pc 598 (.aload_n 1) 1) (zQ pc 599 (.aload_n 0) 1)) (zH pc 602 (zQ pc 600 (.iload 4) 2) (zQ pc 602 (.iconst 1) 1))) (zH pc 605 (zH pc 604 (zQ pc 603 .iadd 1) (zQ pc 604 .iaload 1)) (zH pc 608 (zQ pc 605 (.invokevirtual 65) 3) (zQ pc 608 (.aload_n 2) 1)))))) (zH pc 630 (zH pc 621 (zH pc 613 (zH pc 610 (zQ pc 609 (.aload_n 0) 1) (zH pc 612 (zQ pc 610 (.iload 4) 2) (zQ pc 612 (.iconst 1) 1))) (zH pc 615 (zH pc 614 (zQ pc 613 .iadd 1) (zQ pc 614 .iaload 1)) (zH pc 618 (zQ pc 615 (.invokevirtual 68) 3) (zQ pc 618 (.if_icmp .eq 874) 3)))) (zH pc 625 (zH pc 623 (zH pc 622 (zQ pc 621 (.iconst 0) 1) (zQ pc 622 .ireturn 1)) (zH pc 624 (zQ pc 623 (.aload_n 1) 1) (zQ pc 624 (.aload_n 0) 1))) (zH pc 628 (zH pc 627 (zQ pc 625 (.iload 4) 2) (zQ pc 627 (.iconst 1) 1)) (zH pc 629 (zQ pc 628 .iadd 1) (zQ pc 629 .iaload 1))))) (zH pc 640 (zH pc 635 (zH pc 633 (zH pc 631 (zQ pc 630 .i2l 1) (zQ pc 631 (.bipush 32) 2)) (zH pc 634 (zQ pc 633 .lshl 1) (zQ pc 634 (.aload_n 0) 1))) (zH pc 638 (zH pc 637 (zQ pc 635 (.iload 4) 2) (zQ pc 637 (.iconst 2) 1)) (zH pc 639 (zQ pc 638 .iadd 1) (zQ pc 639 .iaload 1)))) (zH pc 646 (zH pc 644 (zH pc 641 (zQ pc 640 .i2l 1) (zQ pc 641 (.ldc2_w 69) 3)) (zH pc 645 (zQ pc 644 .land 1) (zQ pc 645 .lor 1))) (zH pc 649 (zH pc 647 (zQ pc 646 (.aload_n 0) 1) (zQ pc 647 (.iload 4) 2)) (zH pc 650 (zQ pc 649 (.iconst 3) 1) (zQ pc 650 .iadd 1)))))))) (zH pc 733 (zH pc 694 (zH pc 671 (zH pc 660 (zH pc 655 (zH pc 652 (zQ pc 651 .iaload 1) (zH pc 653 (zQ pc 652 .i2l 1) (zQ pc 653 (.bipush 32) 2))) (zH pc 657 (zH pc 656 (zQ pc 655 .lshl 1) (zQ pc 656 (.aload_n 0) 1)) (zH pc 659 (zQ pc 657 (.iload 4) 2) (zQ pc 659 (.iconst 4) 1)))) (zH pc 666 (zH pc 662 (zH pc 661 (zQ pc 660 .iadd 1) (zQ pc 661 .iaload 1)) (zH pc 663 (zQ pc 662 .i2l 1) (zQ pc 663 (.ldc2_w 69) 3))) (zH pc 668 (zH pc 667 (zQ pc 666 .land 1) (zQ pc 667 .lor 1)) (zH pc 669 (zQ pc 668 (.aload_n 0) 1) (zQ pc 669 (.iload 4) 2))))) (zH pc 681 (zH pc 675 (zH pc 673 (zH pc 672 (zQ pc 671 (.iconst 5) 1) (zQ pc 672 .iadd 1)) (zH pc 674 (zQ pc 673 .iaload 1) (zQ pc 674 .i2l 1))) (zH pc 678 (zH pc 677 (zQ pc 675 (.bipush 32) 2) (zQ pc 677 .lshl 1)) (zH pc 679 (zQ pc 678 (.aload_n 0) 1) (zQ pc 679 (.iload 4) 2)))) (zH pc 686 (zH pc 684 (zH pc 683 (zQ pc 681 (.bipush 6) 2) (zQ pc 683 .iadd 1)) (zH pc 685 (zQ pc 684 .iaload 1) (zQ pc 685 .i2l 1))) (zH pc 690 (zH pc 689 (zQ pc 686 (.ldc2_w 69) 3) (zQ pc 689 .land 1)) (zH pc 691 (zQ pc 690 .lor 1) (zQ pc 691 (.invokevirtual 71) 3)))))) (zH pc 712 (zH pc 702 (zH pc 698 (zH pc 695 (zQ pc 694 (.aload_n 2) 1) (zH pc 696 (zQ pc 695 (.aload_n 0) 1) (zQ pc 696 (.iload 4) 2))) (zH pc 700 (zH pc 699 (zQ pc 698 (.iconst 1) 1) (zQ pc 699 .iadd 1)) (zH pc 701 (zQ pc 700 .iaload 1) (zQ pc 701 .i2l 1)))) (zH pc 708 (zH pc 705 (zH pc 704 (zQ pc 702 (.bipush 32) 2) (zQ pc 704 .lshl 1)) (zH pc 706 (zQ pc 705 (.aload_n 0) 1) (zQ pc 706 (.iload 4) 2))) (zH pc 710 (zH pc 709 (zQ pc 708 (.iconst 2) 1) (zQ pc 709 .iadd 1)) (zH pc 711 (zQ pc 710 .iaload 1) (zQ pc 711 .i2l 1))))) (zH pc 723 (zH pc 718 (zH pc 716 (zH pc 715 (zQ pc 712 (.ldc2_w 69) 3) (zQ pc 715 .land 1)) (zH pc 717 (zQ pc 716 .lor 1) (zQ pc 717 (.aload_n 0) 1))) (zH pc 721 (zH pc 720 (zQ pc 718 (.iload 4) 2) (zQ pc 720 (.iconst 3) 1)) (zH pc 722 (zQ pc 721 .iadd 1) (zQ pc 722 .iaload 1)))) (zH pc 728 (zH pc 726 (zH pc 724 (zQ pc 723 .i2l 1) (zQ pc 724 (.bipush 32) 2)) (zH pc 727 (zQ pc 726 .lshl 1) (zQ pc 727 (.aload_n 0) 1))) (zH pc 731 (zH pc 730 (zQ pc 728 (.iload 4) 2) (zQ pc 730 (.iconst 4) 1)) (zH pc 732 (zQ pc 731 .iadd 1) (zQ pc 732 .iaload 1))))))) (zH pc 782 (zH pc 754 (zH pc 743 (zH pc 738 (zH pc 734 (zQ pc 733 .i2l 1) (zH pc 737 (zQ pc 734 (.ldc2_w 69) 3) (zQ pc 737 .land 1))) (zH pc 740 (zH pc 739 (zQ pc 738 .lor 1) (zQ pc 739 (.aload_n 0) 1)) (zH pc 742 (zQ pc 740 (.iload 4) 2) (zQ pc 742 (.iconst 5) 1)))) (zH pc 748 (zH pc 745 (zH pc 744 (zQ pc 743 .iadd 1) (zQ pc 744 .iaload 1)) (zH pc 746 (zQ pc 745 .i2l 1) (zQ pc 746 (.bipush 32) 2))) (zH pc 750 (zH pc 749 (zQ pc 748 .lshl 1) (zQ pc 749 (.aload_n 0) 1)) (zH pc 752 (zQ pc 750 (.iload 4) 2) (zQ pc 752 (.bipush 6) 2))))) (zH pc 768 (zH pc 760 (zH pc 756 (zH pc 755 (zQ pc 754 .iadd 1) (zQ pc 755 .iaload 1)) (zH pc 757 (zQ pc 756 .i2l 1) (zQ pc 757 (.ldc2_w 69) 3))) (zH pc 762 (zH pc 761 (zQ pc 760 .land 1) (zQ pc 761 .lor 1)) (zH pc 765 (zQ pc 762 (.invokevirtual 75) 3) (zQ pc 765 (.if_icmp .eq 727) 3)))) (zH pc 774 (zH pc 770 (zH pc 769 (zQ pc 768 (.iconst 0) 1) (zQ pc 769 .ireturn 1)) (zH pc 771 (zQ pc 770 (.aload_n 1) 1) (zQ pc 771 (.invokevirtual 76) 3))) (zH pc 778 (zH pc 775 (zQ pc 774 (.aload_n 2) 1) (zQ pc 775 (.invokevirtual 80) 3)) (zH pc 781 (zQ pc 778 (.if_icmp .eq 714) 3) (zQ pc 781 (.iconst 0) 1)))))) (zH pc 801 (zH pc 790 (zH pc 785 (zH pc 783 (zQ pc 782 .ireturn 1) (zH pc 784 (zQ pc 783 (.aload_n 1) 1) (zQ pc 784 (.aload_n 0) 1))) (zH pc 788 (zH pc 787 (zQ pc 785 (.iload 4) 2) (zQ pc 787 (.iconst 1) 1)) (zH pc 789 (zQ pc 788 .iadd 1) (zQ pc 789 .iaload 1)))) (zH pc 795 (zH pc 793 (zH pc 791 (zQ pc 790 (.aload_n 0) 1) (zQ pc 791 (.iload 4) 2)) (zH pc 794 (zQ pc 793 (.iconst 2) 1) (zQ pc 794 .iadd 1))) (zH pc 799 (zH pc 796 (zQ pc 795 .iaload 1) (zQ pc 796 (.invokevirtual 81) 3)) (zH pc 800 (zQ pc 799 (.aload_n 2) 1) (zQ pc 800 (.aload_n 0) 1))))) (zH pc 811 (zH pc 806 (zH pc 804 (zH pc 803 (zQ pc 801 (.iload 4) 2) (zQ pc 803 (.iconst 1) 1)) (zH pc 805 (zQ pc 804 .iadd 1) (zQ pc 805 .iaload 1))) (zH pc 809 (zH pc 807 (zQ pc 806 (.aload_n 0) 1) (zQ pc 807 (.iload 4) 2)) (zH pc 810 (zQ pc 809 (.iconst 2) 1) (zQ pc 810 .iadd 1)))) (zH pc 819 (zH pc 815 (zH pc 812 (zQ pc 811 .iaload 1) (zQ pc 812 (.invokevirtual 84) 3)) (zH pc 818 (zQ pc 815 (.if_icmp .eq 677) 3) (zQ pc 818 (.iconst 0) 1))) (zH pc 821 (zH pc 820 (zQ pc 819 .ireturn 1) (zQ pc 820 (.aload_n 1) 1)) (zH pc 822 (zQ pc 821 (.aload_n 0) 1) (zQ pc 822 (.iload 4) 2)))))))))) (zH pc 1145 (zH pc 983 (zH pc 903 (zH pc 861 (zH pc 842 (zH pc 832 (zH pc 827 (zH pc 825 (zQ pc 824 (.iconst 1) 1) (zH pc 826 (zQ pc 825 .iadd 1) (zQ pc 826 .iaload 1))) (zH pc 830 (zH pc 828 (zQ pc 827 (.aload_n 0) 1) (zQ pc 828 (.iload 4) 2)) (zH pc 831 (zQ pc 830 (.iconst 2) 1) (zQ pc 831 .iadd 1)))) (zH pc 837 (zH pc 834 (zH pc 833 (zQ pc 832 .iaload 1) (zQ pc 833 (.aload_n 0) 1)) (zH pc 836 (zQ pc 834 (.iload 4) 2) (zQ pc 836 (.iconst 3) 1))) (zH pc 839 (zH pc 838 (zQ pc 837 .iadd 1) (zQ pc 838 .iaload 1)) (zH pc 840 (zQ pc 839 (.aload_n 0) 1) (zQ pc 840 (.iload 4) 2))))) (zH pc 852 (zH pc 845 (zH pc 843 (zQ pc 842 (.iconst 4) 1) (zH pc 844 (zQ pc 843 .iadd 1) (zQ pc 844 .iaload 1))) (zH pc 849 (zH pc 848 (zQ pc 845 (.invokevirtual 85) 3) (zQ pc 848 (.aload_n 2) 1)) (zH pc 850 (zQ pc 849 (.aload_n 0) 1) (zQ pc 850 (.iload 4) 2)))) (zH pc 856 (zH pc 854 (zH pc 853 (zQ pc 852 (.iconst 1) 1) (zQ pc 853 .iadd 1)) (zH pc 855 (zQ pc 854 .iaload 1) (zQ pc 855 (.aload_n 0) 1))) (zH pc 859 (zH pc 858 (zQ pc 856 (.iload 4) 2) (zQ pc 858 (.iconst 2) 1)) (zH pc 860 (zQ pc 859 .iadd 1) (zQ pc 860 .iaload 1)))))) (zH pc 882 (zH pc 870 (zH pc 865 (zH pc 862 (zQ pc 861 (.aload_n 0) 1) (zH pc 864 (zQ pc 862 (.iload 4) 2) (zQ pc 864 (.iconst 3) 1))) (zH pc 867 (zH pc 866 (zQ pc 865 .iadd 1) (zQ pc 866 .iaload 1)) (zH pc 868 (zQ pc 867 (.aload_n 0) 1) (zQ pc 868 (.iload 4) 2)))) (zH pc 876 (zH pc 872 (zH pc 871 (zQ pc 870 (.iconst 4) 1) (zQ pc 871 .iadd 1)) (zH pc 873 (zQ pc 872 .iaload 1) (zQ pc 873 (.invokevirtual 89) 3))) (zH pc 880 (zH pc 879 (zQ pc 876 (.if_icmp .eq 616) 3) (zQ pc 879 (.iconst 0) 1)) (zH pc 881 (zQ pc 880 .ireturn 1) (zQ pc 881 (.aload_n 1) 1))))) (zH pc 892 (zH pc 887 (zH pc 885 (zH pc 883 (zQ pc 882 (.aload_n 0) 1) (zQ pc 883 (.iload 4) 2)) (zH pc 886 (zQ pc 885 (.iconst 1) 1) (zQ pc 886 .iadd 1))) (zH pc 889 (zH pc 888 (zQ pc 887 .iaload 1) (zQ pc 888 (.aload_n 0) 1)) (zH pc 891 (zQ pc 889 (.iload 4) 2) (zQ pc 891 (.iconst 2) 1)))) (zH pc 897 (zH pc 894 (zH pc 893 (zQ pc 892 .iadd 1) (zQ pc 893 .iaload 1)) (zH pc 895 (zQ pc 894 (.aload_n 0) 1) (zQ pc 895 (.iload 4) 2))) (zH pc 899 (zH pc 898 (zQ pc 897 (.iconst 3) 1) (zQ pc 898 .iadd 1)) (zH pc 900 (zQ pc 899 .iaload 1) (zQ pc 900 (.invokevirtual 90) 3))))))) (zH pc 943 (zH pc 921 (zH pc 911 (zH pc 907 (zH pc 904 (zQ pc 903 (.aload_n 2) 1) (zH pc 905 (zQ pc 904 (.aload_n 0) 1) (zQ pc 905 (.iload 4) 2))) (zH pc 909 (zH pc 908 (zQ pc 907 (.iconst 1) 1) (zQ pc 908 .iadd 1)) (zH pc 910 (zQ pc 909 .iaload 1) (zQ pc 910 (.aload_n 0) 1)))) (zH pc 916 (zH pc 914 (zH pc 913 (zQ pc 911 (.iload 4) 2) (zQ pc 913 (.iconst 2) 1)) (zH pc 915 (zQ pc 914 .iadd 1) (zQ pc 915 .iaload 1))) (zH pc 919 (zH pc 917 (zQ pc 916 (.aload_n 0) 1) (zQ pc 917 (.iload 4) 2)) (zH pc 920 (zQ pc 919 (.iconst 3) 1) (zQ pc 920 .iadd 1))))) (zH pc 934 (zH pc 929 (zH pc 925 (zH pc 922 (zQ pc 921 .iaload 1) (zQ pc 922 (.invokevirtual 93) 3)) (zH pc 928 (zQ pc 925 (.if_icmp .eq 567) 3) (zQ pc 928 (.iconst 0) 1))) (zH pc 931 (zH pc 930 (zQ pc 929 .ireturn 1) (zQ pc 930 (.aload_n 1) 1)) (zH pc 932 (zQ pc 931 (.aload_n 0) 1) (zQ pc 932 (.iload 4) 2)))) (zH pc 938 (zH pc 936 (zH pc 935 (zQ pc 934 (.iconst 1) 1) (zQ pc 935 .iadd 1)) (zH pc 937 (zQ pc 936 .iaload 1) (zQ pc 937 (.aload_n 0) 1))) (zH pc 941 (zH pc 940 (zQ pc 938 (.iload 4) 2) (zQ pc 940 (.iconst 2) 1)) (zH pc 942 (zQ pc 941 .iadd 1) (zQ pc 942 .iaload 1)))))) (zH pc 961 (zH pc 952 (zH pc 947 (zH pc 944 (zQ pc 943 (.aload_n 0) 1) (zH pc 946 (zQ pc 944 (.iload 4) 2) (zQ pc 946 (.iconst 3) 1))) (zH pc 949 (zH pc 948 (zQ pc 947 .iadd 1) (zQ pc 948 .iaload 1)) (zH pc 950 (zQ pc 949 (.aload_n 0) 1) (zQ pc 950 (.iload 4) 2)))) (zH pc 956 (zH pc 954 (zH pc 953 (zQ pc 952 (.iconst 4) 1) (zQ pc 953 .iadd 1)) (zH pc 955 (zQ pc 954 .iaload 1) (zQ pc 955 (.aload_n 0) 1))) (zH pc 959 (zH pc 958 (zQ pc 956 (.iload 4) 2) (zQ pc 958 (.iconst 5) 1)) (zH pc 960 (zQ pc 959 .iadd 1) (zQ pc 960 .iaload 1))))) (zH pc 973 (zH pc 967 (zH pc 964 (zH pc 962 (zQ pc 961 (.aload_n 0) 1) (zQ pc 962 (.iload 4) 2)) (zH pc 966 (zQ pc 964 (.bipush 6) 2) (zQ pc 966 .iadd 1))) (zH pc 971 (zH pc 968 (zQ pc 967 .iaload 1) (zQ pc 968 (.invokevirtual 94) 3)) (zH pc 972 (zQ pc 971 (.aload_n 2) 1) (zQ pc 972 (.aload_n 0) 1)))) (zH pc 978 (zH pc 976 (zH pc 975 (zQ pc 973 (.iload 4) 2) (zQ pc 975 (.iconst 1) 1)) (zH pc 977 (zQ pc 976 .iadd 1) (zQ pc 977 .iaload 1))) (zH pc 981 (zH pc 979 (zQ pc 978 (.aload_n 0) 1) (zQ pc 979 (.iload 4) 2)) (zH pc 982 (zQ pc 981 (.iconst 2) 1) (zQ pc 982 .iadd 1)))))))) (zH pc 1063 (zH pc 1024 (zH pc 1001 (zH pc 991 (zH pc 987 (zH pc 984 (zQ pc 983 .iaload 1) (zH pc 985 (zQ pc 984 (.aload_n 0) 1) (zQ pc 985 (.iload 4) 2))) (zH pc 989 (zH pc 988 (zQ pc 987 (.iconst 3) 1) (zQ pc 988 .iadd 1)) (zH pc 990 (zQ pc 989 .iaload 1) (zQ pc 990 (.aload_n 0) 1)))) (zH pc 996 (zH pc 994 (zH pc 993 (zQ pc 991 (.iload 4) 2) (zQ pc 993 (.iconst 4) 1)) (zH pc 995 (zQ pc 994 .iadd 1) (zQ pc 995 .iaload 1))) (zH pc 999 (zH pc 997 (zQ pc 996 (.aload_n 0) 1) (zQ pc 997 (.iload 4) 2)) (zH pc 1000 (zQ pc 999 (.iconst 5) 1) (zQ pc 1000 .iadd 1))))) (zH pc 1015 (zH pc 1007 (zH pc 1003 (zH pc 1002 (zQ pc 1001 .iaload 1) (zQ pc 1002 (.aload_n 0) 1)) (zH pc 1005 (zQ pc 1003 (.iload 4) 2) (zQ pc 1005 (.bipush 6) 2))) (zH pc 1009 (zH pc 1008 (zQ pc 1007 .iadd 1) (zQ pc 1008 .iaload 1)) (zH pc 1012 (zQ pc 1009 (.invokevirtual 98) 3) (zQ pc 1012 (.if_icmp .eq 480) 3)))) (zH pc 1019 (zH pc 1017 (zH pc 1016 (zQ pc 1015 (.iconst 0) 1) (zQ pc 1016 .ireturn 1)) (zH pc 1018 (zQ pc 1017 (.aload_n 1) 1) (zQ pc 1018 (.aload_n 0) 1))) (zH pc 1022 (zH pc 1021 (zQ pc 1019 (.iload 4) 2) (zQ pc 1021 (.iconst 1) 1)) (zH pc 1023 (zQ pc 1022 .iadd 1) (zQ pc 1023 .iaload 1)))))) (zH pc 1042 (zH pc 1033 (zH pc 1028 (zH pc 1025 (zQ pc 1024 (.aload_n 0) 1) (zH pc 1027 (zQ pc 1025 (.iload 4) 2) (zQ pc 1027 (.iconst 2) 1))) (zH pc 1030 (zH pc 1029 (zQ pc 1028 .iadd 1) (zQ pc 1029 .iaload 1)) (zH pc 1031 (zQ pc 1030 (.aload_n 0) 1) (zQ pc 1031 (.iload 4) 2)))) (zH pc 1037 (zH pc 1035 (zH pc 1034 (zQ pc 1033 (.iconst 3) 1) (zQ pc 1034 .iadd 1)) (zH pc 1036 (zQ pc 1035 .iaload 1) (zQ pc 1036 (.aload_n 0) 1))) (zH pc 1040 (zH pc 1039 (zQ pc 1037 (.iload 4) 2) (zQ pc 1039 (.iconst 4) 1)) (zH pc 1041 (zQ pc 1040 .iadd 1) (zQ pc 1041 .iaload 1))))) (zH pc 1053 (zH pc 1049 (zH pc 1046 (zH pc 1045 (zQ pc 1042 (.invokevirtual 99) 3) (zQ pc 1045 (.aload_n 2) 1)) (zH pc 1047 (zQ pc 1046 (.aload_n 0) 1) (zQ pc 1047 (.iload 4) 2))) (zH pc 1051 (zH pc 1050 (zQ pc 1049 (.iconst 1) 1) (zQ pc 1050 .iadd 1)) (zH pc 1052 (zQ pc 1051 .iaload 1) (zQ pc 1052 (.aload_n 0) 1)))) (zH pc 1058 (zH pc 1056 (zH pc 1055 (zQ pc 1053 (.iload 4) 2) (zQ pc 1055 (.iconst 2) 1)) (zH pc 1057 (zQ pc 1056 .iadd 1) (zQ pc 1057 .iaload 1))) (zH pc 1061 (zH pc 1059 (zQ pc 1058 (.aload_n 0) 1) (zQ pc 1059 (.iload 4) 2)) (zH pc 1062 (zQ pc 1061 (.iconst 3) 1) (zQ pc 1062 .iadd 1))))))) (zH pc 1105 (zH pc 1084 (zH pc 1073 (zH pc 1067 (zH pc 1064 (zQ pc 1063 .iaload 1) (zH pc 1065 (zQ pc 1064 (.aload_n 0) 1) (zQ pc 1065 (.iload 4) 2))) (zH pc 1069 (zH pc 1068 (zQ pc 1067 (.iconst 4) 1) (zQ pc 1068 .iadd 1)) (zH pc 1070 (zQ pc 1069 .iaload 1) (zQ pc 1070 (.invokevirtual 102) 3)))) (zH pc 1079 (zH pc 1077 (zH pc 1076 (zQ pc 1073 (.if_icmp .eq 419) 3) (zQ pc 1076 (.iconst 0) 1)) (zH pc 1078 (zQ pc 1077 .ireturn 1) (zQ pc 1078 (.aload_n 1) 1))) (zH pc 1082 (zH pc 1080 (zQ pc 1079 (.aload_n 0) 1) (zQ pc 1080 (.iload 4) 2)) (zH pc 1083 (zQ pc 1082 (.iconst 1) 1) (zQ pc 1083 .iadd 1))))) (zH pc 1094 (zH pc 1089 (zH pc 1086 (zH pc 1085 (zQ pc 1084 .iaload 1) (zQ pc 1085 (.aload_n 0) 1)) (zH pc 1088 (zQ pc 1086 (.iload 4) 2) (zQ pc 1088 (.iconst 2) 1))) (zH pc 1091 (zH pc 1090 (zQ pc 1089 .iadd 1) (zQ pc 1090 .iaload 1)) (zH pc 1092 (zQ pc 1091 (.aload_n 0) 1) (zQ pc 1092 (.iload 4) 2)))) (zH pc 1100 (zH pc 1096 (zH pc 1095 (zQ pc 1094 (.iconst 3) 1) (zQ pc 1095 .iadd 1)) (zH pc 1097 (zQ pc 1096 .iaload 1) (zQ pc 1097 (.invokevirtual 103) 3))) (zH pc 1102 (zH pc 1101 (zQ pc 1100 (.aload_n 2) 1) (zQ pc 1101 (.aload_n 0) 1)) (zH pc 1104 (zQ pc 1102 (.iload 4) 2) (zQ pc 1104 (.iconst 1) 1)))))) (zH pc 1126 (zH pc 1113 (zH pc 1108 (zH pc 1106 (zQ pc 1105 .iadd 1) (zH pc 1107 (zQ pc 1106 .iaload 1) (zQ pc 1107 (.aload_n 0) 1))) (zH pc 1111 (zH pc 1110 (zQ pc 1108 (.iload 4) 2) (zQ pc 1110 (.iconst 2) 1)) (zH pc 1112 (zQ pc 1111 .iadd 1) (zQ pc 1112 .iaload 1)))) (zH pc 1118 (zH pc 1116 (zH pc 1114 (zQ pc 1113 (.aload_n 0) 1) (zQ pc 1114 (.iload 4) 2)) (zH pc 1117 (zQ pc 1116 (.iconst 3) 1) (zQ pc 1117 .iadd 1))) (zH pc 1122 (zH pc 1119 (zQ pc 1118 .iaload 1) (zQ pc 1119 (.invokevirtual 106) 3)) (zH pc 1125 (zQ pc 1122 (.if_icmp .eq 370) 3) (zQ pc 1125 (.iconst 0) 1))))) (zH pc 1135 (zH pc 1131 (zH pc 1128 (zH pc 1127 (zQ pc 1126 .ireturn 1) (zQ pc 1127 (.aload_n 1) 1)) (zH pc 1129 (zQ pc 1128 (.aload_n 0) 1) (zQ pc 1129 (.iload 4) 2))) (zH pc 1133 (zH pc 1132 (zQ pc 1131 (.iconst 1) 1) (zQ pc 1132 .iadd 1)) (zH pc 1134 (zQ pc 1133 .iaload 1) (zQ pc 1134 (.aload_n 0) 1)))) (zH pc 1140 (zH pc 1138 (zH pc 1137 (zQ pc 1135 (.iload 4) 2) (zQ pc 1137 (.iconst 2) 1)) (zH pc 1139 (zQ pc 1138 .iadd 1) (zQ pc 1139 .iaload 1))) (zH pc 1143 (zH pc 1141 (zQ pc 1140 (.aload_n 0) 1) (zQ pc 1141 (.iload 4) 2)) (zH pc 1144 (zQ pc 1143 (.iconst 3) 1) (zQ pc 1144 .iadd 1))))))))) (zH pc 1317 (zH pc 1224 (zH pc 1186 (zH pc 1165 (zH pc 1155 (zH pc 1149 (zH pc 1146 (zQ pc 1145 .iaload 1) (zH pc 1147 (zQ pc 1146 (.aload_n 0) 1) (zQ pc 1147 (.iload 4) 2))) (zH pc 1151 (zH pc 1150 (zQ pc 1149 (.iconst 4) 1) (zQ pc 1150 .iadd 1)) (zH pc 1152 (zQ pc 1151 .iaload 1) (zQ pc 1152 (.invokevirtual 107) 3)))) (zH pc 1160 (zH pc 1157 (zH pc 1156 (zQ pc 1155 (.aload_n 2) 1) (zQ pc 1156 (.aload_n 0) 1)) (zH pc 1159 (zQ pc 1157 (.iload 4) 2) (zQ pc 1159 (.iconst 1) 1))) (zH pc 1162 (zH pc 1161 (zQ pc 1160 .iadd 1) (zQ pc 1161 .iaload 1)) (zH pc 1163 (zQ pc 1162 (.aload_n 0) 1) (zQ pc 1163 (.iload 4) 2))))) (zH pc 1173 (zH pc 1168 (zH pc 1166 (zQ pc 1165 (.iconst 2) 1) (zH pc 1167 (zQ pc 1166 .iadd 1) (zQ pc 1167 .iaload 1))) (zH pc 1171 (zH pc 1169 (zQ pc 1168 (.aload_n 0) 1) (zQ pc 1169 (.iload 4) 2)) (zH pc 1172 (zQ pc 1171 (.iconst 3) 1) (zQ pc 1172 .iadd 1)))) (zH pc 1178 (zH pc 1175 (zH pc 1174 (zQ pc 1173 .iaload 1) (zQ pc 1174 (.aload_n 0) 1)) (zH pc 1177 (zQ pc 1175 (.iload 4) 2) (zQ pc 1177 (.iconst 4) 1))) (zH pc 1180 (zH pc 1179 (zQ pc 1178 .iadd 1) (zQ pc 1179 .iaload 1)) (zH pc 1183 (zQ pc 1180 (.invokevirtual 110) 3) (zQ pc 1183 (.if_icmp .eq 309) 3)))))) (zH pc 1204 (zH pc 1194 (zH pc 1189 (zH pc 1187 (zQ pc 1186 (.iconst 0) 1) (zH pc 1188 (zQ pc 1187 .ireturn 1) (zQ pc 1188 (.aload_n 1) 1))) (zH pc 1192 (zH pc 1190 (zQ pc 1189 (.aload_n 0) 1) (zQ pc 1190 (.iload 4) 2)) (zH pc 1193 (zQ pc 1192 (.iconst 1) 1) (zQ pc 1193 .iadd 1)))) (zH pc 1199 (zH pc 1196 (zH pc 1195 (zQ pc 1194 .iaload 1) (zQ pc 1195 (.aload_n 0) 1)) (zH pc 1198 (zQ pc 1196 (.iload 4) 2) (zQ pc 1198 (.iconst 2) 1))) (zH pc 1201 (zH pc 1200 (zQ pc 1199 .iadd 1) (zQ pc 1200 .iaload 1)) (zH pc 1202 (zQ pc 1201 (.aload_n 0) 1) (zQ pc 1202 (.iload 4) 2))))) (zH pc 1215 (zH pc 1210 (zH pc 1206 (zH pc 1205 (zQ pc 1204 (.iconst 3) 1) (zQ pc 1205 .iadd 1)) (zH pc 1207 (zQ pc 1206 .iaload 1) (zQ pc 1207 (.invokevirtual 111) 3))) (zH pc 1212 (zH pc 1211 (zQ pc 1210 (.aload_n 2) 1) (zQ pc 1211 (.aload_n 0) 1)) (zH pc 1214 (zQ pc 1212 (.iload 4) 2) (zQ pc 1214 (.iconst 1) 1)))) (zH pc 1220 (zH pc 1217 (zH pc 1216 (zQ pc 1215 .iadd 1) (zQ pc 1216 .iaload 1)) (zH pc 1218 (zQ pc 1217 (.aload_n 0) 1) (zQ pc 1218 (.iload 4) 2))) (zH pc 1222 (zH pc 1221 (zQ pc 1220 (.iconst 2) 1) (zQ pc 1221 .iadd 1)) (zH pc 1223 (zQ pc 1222 .iaload 1) (zQ pc 1223 (.aload_n 0) 1))))))) (zH pc 1269 (zH pc 1247 (zH pc 1236 (zH pc 1228 (zH pc 1226 (zQ pc 1224 (.iload 4) 2) (zH pc 1227 (zQ pc 1226 (.iconst 3) 1) (zQ pc 1227 .iadd 1))) (zH pc 1232 (zH pc 1229 (zQ pc 1228 .iaload 1) (zQ pc 1229 (.invokevirtual 114) 3)) (zH pc 1235 (zQ pc 1232 (.if_icmp .eq 260) 3) (zQ pc 1235 (.iconst 0) 1)))) (zH pc 1241 (zH pc 1238 (zH pc 1237 (zQ pc 1236 .ireturn 1) (zQ pc 1237 (.aload_n 1) 1)) (zH pc 1239 (zQ pc 1238 (.aload_n 0) 1) (zQ pc 1239 (.iload 4) 2))) (zH pc 1243 (zH pc 1242 (zQ pc 1241 (.iconst 1) 1) (zQ pc 1242 .iadd 1)) (zH pc 1244 (zQ pc 1243 .iaload 1) (zQ pc 1244 (.invokevirtual 115) 3))))) (zH pc 1260 (zH pc 1252 (zH pc 1249 (zH pc 1248 (zQ pc 1247 (.aload_n 2) 1) (zQ pc 1248 (.aload_n 0) 1)) (zH pc 1251 (zQ pc 1249 (.iload 4) 2) (zQ pc 1251 (.iconst 1) 1))) (zH pc 1254 (zH pc 1253 (zQ pc 1252 .iadd 1) (zQ pc 1253 .iaload 1)) (zH pc 1257 (zQ pc 1254 (.invokevirtual 118) 3) (zQ pc 1257 (.if_icmp .eq 235) 3)))) (zH pc 1264 (zH pc 1262 (zH pc 1261 (zQ pc 1260 (.iconst 0) 1) (zQ pc 1261 .ireturn 1)) (zH pc 1263 (zQ pc 1262 (.aload_n 1) 1) (zQ pc 1263 (.aload_n 0) 1))) (zH pc 1267 (zH pc 1266 (zQ pc 1264 (.iload 4) 2) (zQ pc 1266 (.iconst 1) 1)) (zH pc 1268 (zQ pc 1267 .iadd 1) (zQ pc 1268 .iaload 1)))))) (zH pc 1295 (zH pc 1279 (zH pc 1274 (zH pc 1272 (zQ pc 1269 (.invokevirtual 119) 3) (zH pc 1273 (zQ pc 1272 (.aload_n 2) 1) (zQ pc 1273 (.aload_n 0) 1))) (zH pc 1277 (zH pc 1276 (zQ pc 1274 (.iload 4) 2) (zQ pc 1276 (.iconst 1) 1)) (zH pc 1278 (zQ pc 1277 .iadd 1) (zQ pc 1278 .iaload 1)))) (zH pc 1287 (zH pc 1285 (zH pc 1282 (zQ pc 1279 (.invokevirtual 122) 3) (zQ pc 1282 (.if_icmp .eq 210) 3)) (zH pc 1286 (zQ pc 1285 (.iconst 0) 1) (zQ pc 1286 .ireturn 1))) (zH pc 1291 (zH pc 1288 (zQ pc 1287 (.aload_n 1) 1) (zQ pc 1288 (.invokevirtual 123) 3)) (zH pc 1292 (zQ pc 1291 (.aload_n 2) 1) (zQ pc 1292 (.invokevirtual 126) 3))))) (zH pc 1306 (zH pc 1301 (zH pc 1299 (zH pc 1298 (zQ pc 1295 (.if_icmp .eq 197) 3) (zQ pc 1298 (.iconst 0) 1)) (zH pc 1300 (zQ pc 1299 .ireturn 1) (zQ pc 1300 (.aload_n 1) 1))) (zH pc 1304 (zH pc 1302 (zQ pc 1301 (.aload_n 0) 1) (zQ pc 1302 (.iload 4) 2)) (zH pc 1305 (zQ pc 1304 (.iconst 1) 1) (zQ pc 1305 .iadd 1)))) (zH pc 1311 (zH pc 1308 (zH pc 1307 (zQ pc 1306 .iaload 1) (zQ pc 1307 (.aload_n 0) 1)) (zH pc 1310 (zQ pc 1308 (.iload 4) 2) (zQ pc 1310 (.iconst 2) 1))) (zH pc 1313 (zH pc 1312 (zQ pc 1311 .iadd 1) (zQ pc 1312 .iaload 1)) (zH pc 1314 (zQ pc 1313 (.aload_n 3) 1) (zQ pc 1314 (.invokestatic 127) 3)))))))) (zH pc 1409 (zH pc 1365 (zH pc 1338 (zH pc 1326 (zH pc 1321 (zH pc 1319 (zQ pc 1317 (.istore 5) 2) (zH pc 1320 (zQ pc 1319 (.aload_n 2) 1) (zQ pc 1320 (.aload_n 0) 1))) (zH pc 1324 (zH pc 1323 (zQ pc 1321 (.iload 4) 2) (zQ pc 1323 (.iconst 1) 1)) (zH pc 1325 (zQ pc 1324 .iadd 1) (zQ pc 1325 .iaload 1)))) (zH pc 1331 (zH pc 1329 (zH pc 1327 (zQ pc 1326 (.aload_n 0) 1) (zQ pc 1327 (.iload 4) 2)) (zH pc 1330 (zQ pc 1329 (.iconst 2) 1) (zQ pc 1330 .iadd 1))) (zH pc 1335 (zH pc 1332 (zQ pc 1331 .iaload 1) (zQ pc 1332 (.invokevirtual 132) 3)) (zH pc 1337 (zQ pc 1335 (.istore 6) 2) (zQ pc 1337 (.aload_n 2) 1))))) (zH pc 1354 (zH pc 1347 (zH pc 1343 (zH pc 1341 (zQ pc 1338 (.invokevirtual 133) 3) (zQ pc 1341 (.iload 5) 2)) (zH pc 1346 (zQ pc 1343 (.if_icmp .eq 5) 3) (zQ pc 1346 (.iconst 0) 1))) (zH pc 1350 (zH pc 1348 (zQ pc 1347 .ireturn 1) (zQ pc 1348 (.iload 5) 2)) (zH pc 1353 (zQ pc 1350 (.ifCond .ne 15) 3) (zQ pc 1353 (.aload_n 3) 1)))) (zH pc 1359 (zH pc 1356 (zH pc 1355 (zQ pc 1354 (.iconst 0) 1) (zQ pc 1355 .laload 1)) (zH pc 1358 (zQ pc 1356 (.iload 6) 2) (zQ pc 1358 .i2l 1))) (zH pc 1363 (zH pc 1360 (zQ pc 1359 .lcmp 1) (zQ pc 1360 (.ifCond .eq 5) 3)) (zH pc 1364 (zQ pc 1363 (.iconst 0) 1) (zQ pc 1364 .ireturn 1)))))) (zH pc 1386 (zH pc 1375 (zH pc 1370 (zH pc 1368 (zQ pc 1365 (.goto 127) 3) (zH pc 1369 (zQ pc 1368 (.aload_n 1) 1) (zQ pc 1369 (.aload_n 0) 1))) (zH pc 1373 (zH pc 1372 (zQ pc 1370 (.iload 4) 2) (zQ pc 1372 (.iconst 1) 1)) (zH pc 1374 (zQ pc 1373 .iadd 1) (zQ pc 1374 .iaload 1)))) (zH pc 1380 (zH pc 1378 (zH pc 1376 (zQ pc 1375 (.aload_n 0) 1) (zQ pc 1376 (.iload 4) 2)) (zH pc 1379 (zQ pc 1378 (.iconst 2) 1) (zQ pc 1379 .iadd 1))) (zH pc 1384 (zH pc 1381 (zQ pc 1380 .iaload 1) (zQ pc 1381 (.invokevirtual 136) 3)) (zH pc 1385 (zQ pc 1384 (.aload_n 2) 1) (zQ pc 1385 (.aload_n 0) 1))))) (zH pc 1396 (zH pc 1391 (zH pc 1389 (zH pc 1388 (zQ pc 1386 (.iload 4) 2) (zQ pc 1388 (.iconst 1) 1)) (zH pc 1390 (zQ pc 1389 .iadd 1) (zQ pc 1390 .iaload 1))) (zH pc 1394 (zH pc 1392 (zQ pc 1391 (.aload_n 0) 1) (zQ pc 1392 (.iload 4) 2)) (zH pc 1395 (zQ pc 1394 (.iconst 2) 1) (zQ pc 1395 .iadd 1)))) (zH pc 1404 (zH pc 1400 (zH pc 1397 (zQ pc 1396 .iaload 1) (zQ pc 1397 (.invokevirtual 139) 3)) (zH pc 1403 (zQ pc 1400 (.if_icmp .eq 92) 3) (zQ pc 1403 (.iconst 0) 1))) (zH pc 1406 (zH pc 1405 (zQ pc 1404 .ireturn 1) (zQ pc 1405 (.aload_n 1) 1)) (zH pc 1407 (zQ pc 1406 (.aload_n 0) 1) (zQ pc 1407 (.iload 4) 2))))))) (zH pc 1452 (zH pc 1431 (zH pc 1419 (zH pc 1412 (zH pc 1410 (zQ pc 1409 (.iconst 1) 1) (zH pc 1411 (zQ pc 1410 .iadd 1) (zQ pc 1411 .iaload 1))) (zH pc 1416 (zH pc 1415 (zQ pc 1412 (.invokevirtual 140) 3) (zQ pc 1415 (.aload_n 2) 1)) (zH pc 1417 (zQ pc 1416 (.aload_n 0) 1) (zQ pc 1417 (.iload 4) 2)))) (zH pc 1425 (zH pc 1421 (zH pc 1420 (zQ pc 1419 (.iconst 1) 1) (zQ pc 1420 .iadd 1)) (zH pc 1422 (zQ pc 1421 .iaload 1) (zQ pc 1422 (.invokevirtual 143) 3))) (zH pc 1429 (zH pc 1428 (zQ pc 1425 (.if_icmp .eq 67) 3) (zQ pc 1428 (.iconst 0) 1)) (zH pc 1430 (zQ pc 1429 .ireturn 1) (zQ pc 1430 (.aload_n 1) 1))))) (zH pc 1441 (zH pc 1436 (zH pc 1434 (zH pc 1432 (zQ pc 1431 (.aload_n 0) 1) (zQ pc 1432 (.iload 4) 2)) (zH pc 1435 (zQ pc 1434 (.iconst 1) 1) (zQ pc 1435 .iadd 1))) (zH pc 1438 (zH pc 1437 (zQ pc 1436 .iaload 1) (zQ pc 1437 (.aload_n 0) 1)) (zH pc 1440 (zQ pc 1438 (.iload 4) 2) (zQ pc 1440 (.iconst 2) 1)))) (zH pc 1447 (zH pc 1443 (zH pc 1442 (zQ pc 1441 .iadd 1) (zQ pc 1442 .iaload 1)) (zH pc 1446 (zQ pc 1443 (.invokevirtual 144) 3) (zQ pc 1446 (.aload_n 2) 1))) (zH pc 1450 (zH pc 1448 (zQ pc 1447 (.aload_n 0) 1) (zQ pc 1448 (.iload 4) 2)) (zH pc 1451 (zQ pc 1450 (.iconst 1) 1) (zQ pc 1451 .iadd 1)))))) (zH pc 1473 (zH pc 1462 (zH pc 1456 (zH pc 1453 (zQ pc 1452 .iaload 1) (zH pc 1454 (zQ pc 1453 (.aload_n 0) 1) (zQ pc 1454 (.iload 4) 2))) (zH pc 1458 (zH pc 1457 (zQ pc 1456 (.iconst 2) 1) (zQ pc 1457 .iadd 1)) (zH pc 1459 (zQ pc 1458 .iaload 1) (zQ pc 1459 (.invokevirtual 147) 3)))) (zH pc 1468 (zH pc 1466 (zH pc 1465 (zQ pc 1462 (.if_icmp .eq 30) 3) (zQ pc 1465 (.iconst 0) 1)) (zH pc 1467 (zQ pc 1466 .ireturn 1) (zQ pc 1467 (.aload_n 1) 1))) (zH pc 1471 (zH pc 1469 (zQ pc 1468 (.aload_n 0) 1) (zQ pc 1469 (.iload 4) 2)) (zH pc 1472 (zQ pc 1471 (.iconst 1) 1) (zQ pc 1472 .iadd 1))))) (zH pc 1484 (zH pc 1479 (zH pc 1477 (zH pc 1474 (zQ pc 1473 .iaload 1) (zQ pc 1474 (.invokevirtual 148) 3)) (zH pc 1478 (zQ pc 1477 (.aload_n 2) 1) (zQ pc 1478 (.aload_n 0) 1))) (zH pc 1482 (zH pc 1481 (zQ pc 1479 (.iload 4) 2) (zQ pc 1481 (.iconst 1) 1)) (zH pc 1483 (zQ pc 1482 .iadd 1) (zQ pc 1483 .iaload 1)))) (zH pc 1492 (zH pc 1490 (zH pc 1487 (zQ pc 1484 (.invokevirtual 151) 3) (zQ pc 1487 (.if_icmp .eq 5) 3)) (zH pc 1491 (zQ pc 1490 (.iconst 0) 1) (zQ pc 1491 .ireturn 1))) (zH pc 1498 (zH pc 1495 (zQ pc 1492 (.iinc 4 7) 3) (zQ pc 1495 (.goto (-1472)) 3)) (zH pc 1499 (zQ pc 1498 (.iconst 1) 1) (zQ pc 1499 .ireturn 1)))))))))))
def zcode (mi pc : Nat) : Option (Instr × Nat) := (zH mi 106 (zH mi 53 (zH mi 26 (zH mi 13 (zH mi 6 (zH mi 3 (zH mi 1 (zE mi 0 (zc_0 pc) none) (zH mi 2 (zE mi 1 (zc_1 pc) none) (zE mi 2 (zc_2 pc) none))) (zH mi 4 (zE mi 3 (zc_3 pc) none) (zH mi 5 (zE mi 4 (zc_4 pc) none) (zE mi 5 (zc_5 pc) none)))) (zH mi 9 (zH mi 7 (zE mi 6 (zc_6 pc) none) (zH mi 8 (zE mi 7 (zc_7 pc) none) (zE mi 8 (zc_8 pc) none))) (zH mi 11 (zH mi 10 (zE mi 9 (zc_9 pc) none) (zE mi 10 (zc_10 pc) none)) (zH mi 12 (zE mi 11 (zc_11 pc) none) (zE mi 12 (zc_12 pc) none))))) (zH mi 19 (zH mi 16 (zH mi 14 (zE mi 13 (zc_13 pc) none) (zH mi 15 (zE mi 14 (zc_14 pc) none) (zE mi 15 (zc_15 pc) none))) (zH mi 17 (zE mi 16 (zc_16 pc) none) (zH mi 18 (zE mi 17 (zc_17 pc) none) (zE mi 18 (zc_18 pc) none)))) (zH mi 22 (zH mi 20 (zE mi 19 (zc_19 pc) none) (zH mi 21 (zE mi 20 (zc_20 pc) none) (zE mi 21 (zc_21 pc) none))) (zH mi 24 (zH mi 23 (zE mi 22 (zc_22 pc) none) (zE mi 23 (zc_23 pc) none)) (zH mi 25 (zE mi 24 (zc_24 pc) none) (zE mi 25 (zc_25 pc) none)))))) (zH mi 39 (zH mi 32 (zH mi 29 (zH mi 27 (zE mi 26 (zc_26 pc) none) (zH mi 28 (zE mi 27 (zc_27 pc) none) (zE mi 28 (zc_28 pc) none))) (zH mi 30 (zE mi 29 (zc_29 pc) none) (zH mi 31 (zE mi 30 (zc_30 pc) none) (zE mi 31 (zc_31 pc) none)))) (zH mi 35 (zH mi 33 (zE mi 32 (zc_32 pc) none) (zH mi 34 (zE mi 33 (zc_33 pc) none) (zE mi 34 (zc_34 pc) none))) (zH mi 37 (zH mi 36 (zE mi 35 (zc_35 pc) none) (zE mi 36 (zc_36 pc) none)) (zH mi 38 (zE mi 37 (zc_37 pc) none) (zE mi 38 (zc_38 pc) none))))) (zH mi 46 (zH mi 42 (zH mi 40 (zE mi 39 (zc_39 pc) none) (zH mi 41 (zE mi 40 (zc_40 pc) none) (zE mi 41 (zc_41 pc) none))) (zH mi 44 (zH mi 43 (zE mi 42 (zc_42 pc) none) (zE mi 43 (zc_43 pc) none)) (zH mi 45 (zE mi 44 (zc_44 pc) none) (zE mi 45 (zc_45 pc) none)))) (zH mi 49 (zH mi 47 (zE mi 46 (zc_46 pc) none) (zH mi 48 (zE mi 47 (zc_47 pc) none) (zE mi 48 (zc_48 pc) none))) (zH mi 51 (zH mi 50 (zE mi 49 (zc_49 pc) none) (zE mi 50 (zc_50 pc) none)) (zH mi 52 (zE mi 51 (zc_51 pc) none) (zE mi 52 (zc_52 pc) none))))))) (zH mi 79 (zH mi 66 (zH mi 59 (zH mi 56 (zH mi 54 (zE mi 53 (zc_53 pc) none) (zH mi 55 (zE mi 54 (zc_54 pc) none) (zE mi 55 (zc_55 pc) none))) (zH mi 57 (zE mi 56 (zc_56 pc) none) (zH mi 58 (zE mi 57 (zc_57 pc) none) (zE mi 58 (zc_58 pc) none)))) (zH mi 62 (zH mi 60 (zE mi 59 (zc_59 pc) none) (zH mi 61 (zE mi 60 (zc_60 pc) none) (zE mi 61 (zc_61 pc) none))) (zH mi 64 (zH mi 63 (zE mi 62 (zc_62 pc) none) (zE mi 63 (zc_63 pc) none)) (zH mi 65 (zE mi 64 (zc_64 pc) none) (zE mi 65 (zc_65 pc) none))))) (zH mi 72 (zH mi 69 (zH mi 67 (zE mi 66 (zc_66 pc) none) (zH mi 68 (zE mi 67 (zc_67 pc) none) (zE mi 68 (zc_68 pc) none))) (zH mi 70 (zE mi 69 (zc_69 pc) none) (zH mi 71 (zE mi 70 (zc_70 pc) none) (zE mi 71 (zc_71 pc) none)))) (zH mi 75 (zH mi 73 (zE mi 72 (zc_72 pc) none) (zH mi 74 (zE mi 73 (zc_73 pc) none) (zE mi 74 (zc_74 pc) none))) (zH mi 77 (zH mi 76 (zE mi 75 (zc_75 pc) none) (zE mi 76 (zc_76 pc) none)) (zH mi 78 (zE mi 77 (zc_77 pc) none) (zE mi 78 (zc_78 pc) none)))))) (zH mi 92 (zH mi 85 (zH mi 82 (zH mi 80 (zE mi 79 (zc_79 pc) none) (zH mi 81 (zE mi 80 (zc_80 pc) none) (zE mi 81 (zc_81 pc) none))) (zH mi 83 (zE mi 82 (zc_82 pc) none) (zH mi 84 (zE mi 83 (zc_83 pc) none) (zE mi 84 (zc_84 pc) none)))) (zH mi 88 (zH mi 86 (zE mi 85 (zc_85 pc) none) (zH mi 87 (zE mi 86 (zc_86 pc) none) (zE mi 87 (zc_87 pc) none))) (zH mi 90 (zH mi 89 (zE mi 88 (zc_88 pc) none) (zE mi 89 (zc_89 pc) none)) (zH mi 91 (zE mi 90 (zc_90 pc) none) (zE mi 91 (zc_91 pc) none))))) (zH mi 99 (zH mi 95 (zH mi 93 (zE mi 92 (zc_92 pc) none) (zH mi 94 (zE mi 93 (zc_93 pc) none) (zE mi 94 (zc_94 pc) none))) (zH mi 97 (zH mi 96 (zE mi 95 (zc_95 pc) none) (zE mi 96 (zc_96 pc) none)) (zH mi 98 (zE mi 97 (zc_97 pc) none) (zE mi 98 (zc_98 pc) none)))) (zH mi 102 (zH mi 100 (zE mi 99 (zc_99 pc) none) (zH mi 101 (zE mi 100 (zc_100 pc) none) (zE mi 101 (zc_101 pc) none))) (zH mi 104 (zH mi 103 (zE mi 102 (zc_102 pc) none) (zE mi 103 (zc_103 pc) none)) (zH mi 105 (zE mi 104 (zc_104 pc) none) (zE mi 105 (zc_105 pc) none)))))))) (zH mi 159 (zH mi 132 (zH mi 119 (zH mi 112 (zH mi 109 (zH mi 107 (zE mi 106 (zc_106 pc) none) (zH mi 108 (zE mi 107 (zc_107 pc) none) (zE mi 108 (zc_108 pc) none))) (zH mi 110 (zE mi 109 (zc_109 pc) none) (zH mi 111 (zE mi 110 (zc_110 pc) none) (zE mi 111 (zc_111 pc) none)))) (zH mi 115 (zH mi 113 (zE mi 112 (zc_112 pc) none) (zH mi 114 (zE mi 113 (zc_113 pc) none) (zE mi 114 (zc_114 pc) none))) (zH mi 117 (zH mi 116 (zE mi 115 (zc_115 pc) none) (zE mi 116 (zc_116 pc) none)) (zH mi 118 (zE mi 117 (zc_117 pc) none) (zE mi 118 (zc_118 pc) none))))) (zH mi 125 (zH mi 122 (zH mi 120 (zE mi 119 (zc_119 pc) none) (zH mi 121 (zE mi 120 (zc_120 pc) none) (zE mi 121 (zc_121 pc) none))) (zH mi 123 (zE mi 122 (zc_122 pc) none) (zH mi 124 (zE mi 123 (zc_123 pc) none) (zE mi 124 (zc_124 pc) none)))) (zH mi 128 (zH mi 126 (zE mi 125 (zc_125 pc) none) (zH mi 127 (zE mi 126 (zc_126 pc) none) (zE mi 127 (zc_127 pc) none))) (zH mi 130 (zH mi 129 (zE mi 128 (zc_128 pc) none) (zE mi 129 (zc_129 pc) none)) (zH mi 131 (zE mi 130 (zc_130 pc) none) (zE mi 131 (zc_131 pc) none)))))) (zH mi 145 (zH mi 138 (zH mi 135 (zH mi 133 (zE mi 132 (zc_132 pc) none) (zH mi 134 (zE mi 133 (zc_133 pc) none) (zE mi 134 (zc_134 pc) none))) (zH mi 136 (zE mi 135 (zc_135 pc) none) (zH mi 137 (zE mi 136 (zc_136 pc) none) (zE mi 137 (zc_137 pc) none)))) (zH mi 141 (zH mi 139 (zE mi 138 (zc_138 pc) none) (zH mi 140 (zE mi 139 (zc_139 pc) none) (zE mi 140 (zc_140 pc) none))) (zH mi 143 (zH mi 142 (zE mi 141 (zc_141 pc) none) (zE mi 142 (zc_142 pc) none)) (zH mi 144 (zE mi 143 (zc_143 pc) none) (zE mi 144 (zc_144 pc) none))))) (zH mi 152 (zH mi 148 (zH mi 146 (zE mi 145 (zc_145 pc) none) (zH mi 147 (zE mi 146 (zc_146 pc) none) (zE mi 147 (zc_147 pc) none))) (zH mi 150 (zH mi 149 (zE mi 148 (zc_148 pc) none) (zE mi 149 (zc_149 pc) none)) (zH mi 151 (zE mi 150 (zc_150 pc) none) (zE mi 151 (zc_151 pc) none)))) (zH mi 155 (zH mi 153 (zE mi 152 (zc_152 pc) none) (zH mi 154 (zE mi 153 (zc_153 pc) none) (zE mi 154 (zc_154 pc) none))) (zH mi 157 (zH mi 156 (zE mi 155 (zc_155 pc) none) (zE mi 156 (zc_156 pc) none)) (zH mi 158 (zE mi 157 (zc_157 pc) none) (zE mi 158 (zc_158 pc) none))))))) (zH mi 186 (zH mi 172 (zH mi 165 (zH mi 162 (zH mi 160 (zE mi 159 (zc_159 pc) none) (zH mi 161 (zE mi 160 (zc_160 pc) none) (zE mi 161 (zc_161 pc) none))) (zH mi 163 (zE mi 162 (zc_162 pc) none) (zH mi 164 (zE mi 163 (zc_163 pc) none) (zE mi 164 (zc_164 pc) none)))) (zH mi 168 (zH mi 166 (zE mi 165 (zc_165 pc) none) (zH mi 167 (zE mi 166 (zc_166 pc) none) (zE mi 167 (zc_167 pc) none))) (zH mi 170 (zH mi 169 (zE mi 168 (zc_168 pc) none) (zE mi 169 (zc_169 pc) none)) (zH mi 171 (zE mi 170 (zc_170 pc) none) (zE mi 171 (zc_171 pc) none))))) (zH mi 179 (zH mi 175 (zH mi 173 (zE mi 172 (zc_172 pc) none) (zH mi 174 (zE mi 173 (zc_173 pc) none) (zE mi 174 (zc_174 pc) none))) (zH mi 177 (zH mi 176 (zE mi 175 (zc_175 pc) none) (zE mi 176 (zc_176 pc) none)) (zH mi 178 (zE mi 177 (zc_177 pc) none) (zE mi 178 (zc_178 pc) none)))) (zH mi 182 (zH mi 180 (zE mi 179 (zc_179 pc) none) (zH mi 181 (zE mi 180 (zc_180 pc) none) (zE mi 181 (zc_181 pc) none))) (zH mi 184 (zH mi 183 (zE mi 182 (zc_182 pc) none) (zE mi 183 (zc_183 pc) none)) (zH mi 185 (zE mi 184 (zc_184 pc) none) (zE mi 185 (zc_185 pc) none)))))) (zH mi 199 (zH mi 192 (zH mi 189 (zH mi 187 (zE mi 186 (zc_186 pc) none) (zH mi 188 (zE mi 187 (zc_187 pc) none) (zE mi 188 (zc_188 pc) none))) (zH mi 190 (zE mi 189 (zc_189 pc) none) (zH mi 191 (zE mi 190 (zc_190 pc) none) (zE mi 191 (zc_191 pc) none)))) (zH mi 195 (zH mi 193 (zE mi 192 (zc_192 pc) none) (zH mi 194 (zE mi 193 (zc_193 pc) none) (zE mi 194 (zc_194 pc) none))) (zH mi 197 (zH mi 196 (zE mi 195 (zc_195 pc) none) (zE mi 196 (zc_196 pc) none)) (zH mi 198 (zE mi 197 (zc_197 pc) none) (zE mi 198 (zc_198 pc) none))))) (zH mi 206 (zH mi 202 (zH mi 200 (zE mi 199 (zc_199 pc) none) (zH mi 201 (zE mi 200 (zc_200 pc) none) (zE mi 201 (zc_201 pc) none))) (zH mi 204 (zH mi 203 (zE mi 202 (zc_202 pc) none) (zE mi 203 (zc_203 pc) none)) (zH mi 205 (zE mi 204 (zc_204 pc) none) (zE mi 205 (zc_205 pc) none)))) (zH mi 209 (zH mi 207 (zE mi 206 (zc_206 pc) none) (zH mi 208 (zE mi 207 (zc_207 pc) none) (zE mi 208 (zc_208 pc) none))) (zH mi 211 (zH mi 210 (zE mi 209 (zc_209 pc) none) (zE mi 210 (zc_210 pc) none)) (zH mi 212 (zE mi 211 (zc_211 pc) none) (zE mi 212 (zc_212 pc) none)))))))))
def zcutk (k : Nat) : Option (List Bool) := (zH k 335981 (zH k 167970 (zH k 96260 (zH k 49192 (zH k 22538 (zH k 12298 (zH k 10265 (zE k 8196 (some [true, true, true]) none) (zE k 10265 (some [true, true, true, false]) none)) (zH k 14356 (zE k 12298 (some [true, true, true, true]) none) (zH k 18438 (zE k 14356 (some [true, true, true, false]) none) (zE k 18438 (some [true, true, true, true, true, true, false]) none)))) (zH k 32774 (zH k 26626 (zE k 22538 (some [true, true, true, true, true, true]) none) (zE k 26626 (some [true, true, true, true]) none)) (zH k 34823 (zE k 32774 (some [true, true, true, true, true, true, true]) none) (zH k 43026 (zE k 34823 (some [true, true, true, true]) none) (zE k 43026 (some [true, true]) none))))) (zH k 57365 (zH k 49248 (zH k 49217 (zE k 49192 (some [true, true, true, false, true, false]) none) (zE k 49217 (some [true, true, true, false, true, true]) none)) (zH k 53251 (zE k 49248 (some [true, true, false, false, true, false]) none) (zH k 55301 (zE k 53251 (some [true, true, true, true, true, true, true]) none) (zE k 55301 (some [true, true, true, true, true, false, false]) none)))) (zH k 63547 (zH k 59396 (zE k 57365 (some [true, true, true, true, true]) none) (zH k 61458 (zE k 59396 (some [true, true, true, true]) none) (zE k 61458 (some [true, true, true, true, false]) none))) (zH k 71700 (zE k 63547 (some [true, true, true, true, true, true, false]) none) (zH k 94213 (zE k 71700 (some [true, true, false]) none) (zE k 94213 (some [true, false, true, true, true]) none)))))) (zH k 133129 (zH k 112643 (zH k 100374 (zH k 98348 (zE k 96260 (some [true, true, true]) none) (zE k 98348 (some [true, false, false, false, true]) none)) (zH k 104458 (zE k 100374 (some [true, false]) none) (zH k 108628 (zE k 104458 (some [true, true, true, true]) none) (zE k 108628 (some [true, true, true, true, true]) none)))) (zH k 116801 (zH k 112683 (zE k 112643 (some [true, true, false, true, false, false]) none) (zH k 116749 (zE k 112683 (some [true, true, false, true, true, false]) none) (zE k 116749 (some [true, false, false]) none))) (zH k 116857 (zE k 116801 (some [true, false, false]) none) (zH k 118787 (zE k 116857 (some [true, true, true]) none) (zE k 118787 (some [true, true, true, true, true]) none))))) (zH k 139295 (zH k 133197 (zH k 133159 (zE k 133129 (some [true, true, true, true, false, false, false]) none) (zE k 133159 (some [true, true, true, true, true, true, true]) none)) (zH k 135172 (zE k 133197 (some [true, true, true, true, true, true, false]) none) (zH k 137220 (zE k 135172 (some [true, true, true]) none) (zE k 137220 (some [true, true, false, true]) none)))) (zH k 157743 (zH k 139359 (zE k 139295 (some [true, true, true, false]) none) (zH k 155650 (zE k 139359 (some [true, false, true, false]) none) (zE k 155650 (some [true, true, false, true]) none))) (zH k 161866 (zE k 157743 (some [true, true, true, true, true, true]) none) (zH k 161903 (zE k 161866 (some [true, true, true, true, true, true, false]) none) (zE k 161903 (some [true, true, true, true, true, true, true]) none))))))) (zH k 196642 (zH k 184322 (zH k 172087 (zH k 169990 (zH k 168075 (zE k 167970 (some [true, true, true, false, false, true, true, true, false]) none) (zE k 168075 (some [true, true, true, false, false, false, true, true, true]) none)) (zH k 170035 (zE k 169990 (some [true, true, true, true, false]) none) (zH k 172037 (zE k 170035 (some [true, true, true, true, true]) none) (zE k 172037 (some [true, false, true, true, true, false]) none)))) (zH k 178191 (zH k 172127 (zE k 172087 (some [true, false, true, true, true, true]) none) (zE k 172127 (some [true, false, true, true, true, true]) none)) (zH k 178253 (zE k 178191 (some [true, true, true, true, true]) none) (zH k 180243 (zE k 178253 (some [true, false, true, true, false]) none) (zE k 180243 (some [true, true]) none))))) (zH k 190466 (zH k 184353 (zH k 184343 (zE k 184322 (some [true, true, false]) none) (zE k 184343 (some [true, true, false]) none)) (zH k 186388 (zE k 184353 (some [true, true, true]) none) (zH k 188418 (zE k 186388 (some [true, true, true, true, true, false]) none) (zE k 188418 (some [true, true, true]) none)))) (zH k 192536 (zH k 190479 (zE k 190466 (some [true, true, true, true, false]) none) (zH k 192514 (zE k 190479 (some [true, true, true, true, true]) none) (zE k 192514 (some [true, true, true, false]) none))) (zH k 192610 (zE k 192536 (some [true, true, true, true]) none) (zH k 194562 (zE k 192610 (some [true, true, false, false]) none) (zE k 194562 (some [true, true, true]) none)))))) (zH k 319566 (zH k 268338 (zH k 233506 (zH k 198689 (zE k 196642 (some [true, false, true, true, true]) none) (zE k 198689 (some [true, true]) none)) (zH k 237647 (zE k 233506 (some [true, true, true, true, true, false]) none) (zH k 245808 (zE k 237647 (some [true, true, true, true, true, true, true]) none) (zE k 245808 (some [true, false, false, false, true, true]) none)))) (zH k 294914 (zH k 286755 (zE k 268338 (some [true, true, false, false, false, false, false, false]) none) (zH k 290882 (zE k 286755 (some [true, true, true, true]) none) (zE k 290882 (some [true, true, true, true, true, true]) none))) (zH k 307202 (zE k 294914 (some [true, true, true, true]) none) (zH k 309259 (zE k 307202 (some [true, true, true]) none) (zE k 309259 (some [true, true, true, true, true, true, false]) none))))) (zH k 327690 (zH k 319686 (zH k 319610 (zE k 319566 (some [true, true, true, false, false]) none) (zE k 319610 (some [true, true, false, false, true]) none)) (zH k 319785 (zE k 319686 (some [true, true, true, true, false]) none) (zH k 323706 (zE k 319785 (some [true, true, false, false, true]) none) (zE k 323706 (some [true, true, true, true]) none)))) (zH k 331815 (zH k 329786 (zE k 327690 (some [true, true, true, true, true]) none) (zH k 331784 (zE k 329786 (some [true, true, true, true, true, true, true]) none) (zE k 331784 (some [true, true, false, true, false, true, false, true, false, false, false]) none))) (zH k 335872 (zE k 331815 (some [true, true, false, true, false, true, false, true, false, false, false]) none) (zH k 335924 (zE k 335872 (some [true, false]) none) (zE k 335924 (some [true, false]) none)))))))) (zH k 385079 (zH k 356542 (zH k 352412 (zH k 336217 (zH k 336096 (zH k 336060 (zE k 335981 (some [true, false]) none) (zE k 336060 (some [true, false]) none)) (zH k 336171 (zE k 336096 (some [true, false]) none) (zH k 336194 (zE k 336171 (some [true, false]) none) (zE k 336194 (some [true, true]) none)))) (zH k 352277 (zH k 350210 (zE k 336217 (some [false, true]) none) (zE k 350210 (some [true, true]) none)) (zH k 352324 (zE k 352277 (some [true, true, true, true, false, false, false, false]) none) (zH k 352378 (zE k 352324 (some [true, true, true, true, true, true, true, false]) none) (zE k 352378 (some [true, true, true, true, true, true, true, true]) none))))) (zH k 352654 (zH k 352536 (zH k 352482 (zE k 352412 (some [true, true, true, true, false, true, false, false]) none) (zE k 352482 (some [true, true, true, true, false, false, false, false]) none)) (zH k 352593 (zE k 352536 (some [true, true, true, false, false, false, false, false]) none) (zH k 352634 (zE k 352593 (some [true, true, true, true, false, false, false, false]) none) (zE k 352634 (some [true, true, true, true, false, false, false, false]) none)))) (zH k 354332 (zH k 352709 (zE k 352654 (some [true, true, true, false, false, false, false, false]) none) (zH k 352729 (zE k 352709 (some [true, true, true, true, false, false, false, false]) none) (zE k 352729 (some [true, true, true, false, false, false, false, false]) none))) (zH k 356400 (zE k 354332 (some [true, true, false, false, false]) none) (zH k 356445 (zE k 356400 (some [true, false]) none) (zE k 356445 (some [true, true]) none)))))) (zH k 366641 (zH k 364558 (zH k 362572 (zH k 362540 (zE k 356542 (some [true, true]) none) (zE k 362540 (some [true, true, true]) none)) (zH k 362602 (zE k 362572 (some [true, true, true]) none) (zH k 362632 (zE k 362602 (some [true, true, true]) none) (zE k 362632 (some [true, true, true]) none)))) (zH k 364831 (zH k 364590 (zE k 364558 (some [true, true, true, true, false, false]) none) (zH k 364680 (zE k 364590 (some [true, true, true, true, true, false]) none) (zE k 364680 (some [true, true, true, true, true, false]) none))) (zH k 364863 (zE k 364831 (some [true, true, true, true, false, true]) none) (zH k 366608 (zE k 364863 (some [true, true, true, true, false, true]) none) (zE k 366608 (some [true, true, true, true, true, false, false, false, false]) none))))) (zH k 374858 (zH k 368642 (zH k 366712 (zE k 366641 (some [true, true, true, true, true, false, false, false, false]) none) (zE k 366712 (some [true, true, true, true, true, true, true, true, false]) none)) (zH k 368663 (zE k 368642 (some [true, true]) none) (zH k 370695 (zE k 368663 (some [true, true]) none) (zE k 370695 (some [false, true, false, true, true]) none)))) (zH k 380984 (zH k 374922 (zE k 374858 (some [true, false, true, true, false, true, true, true, true, false, false, false]) none) (zH k 374979 (zE k 374922 (some [true, false, true, true, false, false, true, true, true, false, false, true]) none) (zE k 374979 (some [true, false, true, true, false, true, true, true, true, true, true, false]) none))) (zH k 381026 (zE k 380984 (some [true, true, true, true, true, true, true, false, false, false]) none) (zH k 382999 (zE k 381026 (some [true, true, true, true, false, false, false, false, true, false]) none) (zE k 382999 (some [true, true, false]) none))))))) (zH k 407584 (zH k 395336 (zH k 391199 (zH k 385230 (zH k 385194 (zE k 385079 (some [true, true, true, true, true, true, true, true, true, true, true, true, false, false, false]) none) (zE k 385194 (some [true, true, true, true, true, true, true, true, true, true, true, true, true, false, false]) none)) (zH k 389122 (zE k 385230 (some [true, true, true, true, true, true, true, true, true, true, true, true, true, false, false]) none) (zH k 391173 (zE k 389122 (some [true, true]) none) (zE k 391173 (some [true, true, true, true, true]) none)))) (zH k 393243 (zH k 393219 (zE k 391199 (some [true, true, true, false, true]) none) (zE k 393219 (some [true, true, true, true, true, true, false]) none)) (zH k 395270 (zE k 393243 (some [true, true, true, true, true, true, false]) none) (zH k 395309 (zE k 395270 (some [true, true, true, true, true, true, true, false, false, false, false]) none) (zE k 395309 (some [true, true, true, true, true, true, true, false, false, false, false]) none))))) (zH k 401421 (zH k 395442 (zH k 395388 (zE k 395336 (some [true, true, true, true, true, true, true, false, false, false, false]) none) (zE k 395388 (some [true, true, true, true, true, true, false, true, true, true, false]) none)) (zH k 397368 (zE k 395442 (some [true, true, true, true, true, true, false, true, true, true, true]) none) (zH k 399375 (zE k 397368 (some [true, true, true, true, true, true]) none) (zE k 399375 (some [true, true, true, true]) none)))) (zH k 401526 (zH k 401446 (zE k 401421 (some [true, true, true, true, false, true, true, true, true, false, false, false, false, false]) none) (zH k 401460 (zE k 401446 (some [true, true, true, true, false, true, true, true, true, false, false, false, false, false]) none) (zE k 401460 (some [true, true, true, true, false, true, true, true, true, true, false, false, false, false]) none))) (zH k 401562 (zE k 401526 (some [true, true, false, true, false, true, true, true, true, false, false, false, false, false]) none) (zH k 401641 (zE k 401562 (some [true, true, false, true, false, true, true, true, true, false, false, false, false, false]) none) (zE k 401641 (some [false, false, false, true, false, true, true, true, true, true, true, true, false, false]) none)))))) (zH k 415842 (zH k 411663 (zH k 409681 (zH k 409646 (zE k 407584 (some [true, true, true, true, true, true]) none) (zE k 409646 (some [true, false, false, false, true, false]) none)) (zH k 409713 (zE k 409681 (some [true, false, false, false, true, true]) none) (zH k 411650 (zE k 409713 (some [true, false, false, false, true, true]) none) (zE k 411650 (some [true, true, true, false, false]) none)))) (zH k 415751 (zH k 413714 (zE k 411663 (some [true, true, true, true, true]) none) (zH k 413749 (zE k 413714 (some [true, true, true]) none) (zE k 413749 (some [true, true, true]) none))) (zH k 415786 (zE k 415751 (some [true, true, false, false]) none) (zH k 415832 (zE k 415786 (some [true, true, false, false]) none) (zE k 415832 (some [true, true, false, false]) none))))) (zH k 432252 (zH k 415919 (zH k 415909 (zE k 415842 (some [true, true, true, false]) none) (zE k 415909 (some [true, true, false, false]) none)) (zH k 415937 (zE k 415919 (some [true, true, true, false]) none) (zH k 432221 (zE k 415937 (some [true, true, true, true]) none) (zE k 432221 (some [true, false, true, true]) none)))) (zH k 434199 (zH k 432314 (zE k 432252 (some [true, false, true, true]) none) (zH k 432342 (zE k 432314 (some [true, false, true, true]) none) (zE k 432342 (some [true, false, true, true]) none))) (zH k 434602 (zE k 434199 (some [true, true, true, true, true, false, false]) none) (zH k 434655 (zE k 434602 (some [true, true, true, true, true, false, false]) none) (zE k 434655 (some [true, true, true, true, true, false, false]) none)))))))))
def zcut (mi pc : Nat) : Option (List Bool) := zcutk (mi * 2048 + pc)
def zaln (t : Nat) : Nat := (zH t 69 (zH t 42 (zH t 29 (zH t 22 (zH t 17 (zH t 15 (zE t 14 13 0) (zH t 16 (zE t 15 5 0) (zE t 16 0 0))) (zH t 20 (zE t 17 1 0) (zH t 21 (zE t 20 40 0) (zE t 21 1200 0)))) (zH t 25 (zH t 23 (zE t 22 200 0) (zH t 24 (zE t 23 200 0) (zE t 24 200 0))) (zH t 27 (zH t 26 (zE t 25 200 0) (zE t 26 200 0)) (zH t 28 (zE t 27 200 0) (zE t 28 200 0))))) (zH t 35 (zH t 32 (zH t 30 (zE t 29 97 0) (zH t 31 (zE t 30 5 0) (zE t 31 2 0))) (zH t 33 (zE t 32 2 0) (zH t 34 (zE t 33 12 0) (zE t 34 12 0)))) (zH t 38 (zH t 36 (zE t 35 12 0) (zH t 37 (zE t 36 960 0) (zE t 37 96 0))) (zH t 40 (zH t 39 (zE t 38 96 0) (zE t 39 116 0)) (zH t 41 (zE t 40 16 0) (zE t 41 1000 0)))))) (zH t 55 (zH t 48 (zH t 45 (zH t 43 (zE t 42 16 0) (zH t 44 (zE t 43 16 0) (zE t 44 16 0))) (zH t 46 (zE t 45 1000 0) (zH t 47 (zE t 46 6 0) (zE t 47 6 0)))) (zH t 51 (zH t 49 (zE t 48 6 0) (zH t 50 (zE t 49 25 0) (zE t 50 360 0))) (zH t 53 (zH t 52 (zE t 51 60 0) (zE t 52 60 0)) (zH t 54 (zE t 53 96 0) (zE t 54 3 0))))) (zH t 62 (zH t 58 (zH t 56 (zE t 55 3 0) (zH t 57 (zE t 56 3 0) (zE t 57 96 0))) (zH t 60 (zH t 59 (zE t 58 5 0) (zE t 59 12 0)) (zH t 61 (zE t 60 12 0) (zE t 61 12 0)))) (zH t 65 (zH t 63 (zE t 62 960 0) (zH t 64 (zE t 63 16 0) (zE t 64 116 0))) (zH t 67 (zH t 66 (zE t 65 116 0) (zE t 66 116 0)) (zH t 68 (zE t 67 40 0) (zE t 68 40 0))))))) (zH t 95 (zH t 82 (zH t 75 (zH t 72 (zH t 70 (zE t 69 40 0) (zH t 71 (zE t 70 40 0) (zE t 71 40 0))) (zH t 73 (zE t 72 40 0) (zH t 74 (zE t 73 40 0) (zE t 74 200 0)))) (zH t 78 (zH t 76 (zE t 75 40 0) (zH t 77 (zE t 76 40 0) (zE t 77 40 0))) (zH t 80 (zH t 79 (zE t 78 40 0) (zE t 79 4800 0)) (zH t 81 (zE t 80 116 0) (zE t 81 40 0))))) (zH t 88 (zH t 85 (zH t 83 (zE t 82 200 0) (zH t 84 (zE t 83 200 0) (zE t 84 200 0))) (zH t 86 (zE t 85 200 0) (zH t 87 (zE t 86 200 0) (zE t 87 200 0)))) (zH t 91 (zH t 89 (zE t 88 200 0) (zH t 90 (zE t 89 1000 0) (zE t 90 2 0))) (zH t 93 (zH t 92 (zE t 91 32 0) (zE t 92 32 0)) (zH t 94 (zE t 93 32 0) (zE t 94 32 0)))))) (zH t 108 (zH t 101 (zH t 98 (zH t 96 (zE t 95 32 0) (zH t 97 (zE t 96 2 0) (zE t 97 6 0))) (zH t 99 (zE t 98 2000 0) (zH t 100 (zE t 99 6 0) (zE t 100 6 0)))) (zH t 104 (zH t 102 (zE t 101 6 0) (zH t 103 (zE t 102 6 0) (zE t 103 6 0))) (zH t 106 (zH t 105 (zE t 104 6 0) (zE t 105 6 0)) (zH t 107 (zE t 106 6 0) (zE t 107 6 0))))) (zH t 115 (zH t 111 (zH t 109 (zE t 108 6 0) (zH t 110 (zE t 109 6 0) (zE t 110 7 0))) (zH t 113 (zH t 112 (zE t 111 6 0) (zE t 112 8 0)) (zH t 114 (zE t 113 12 0) (zE t 114 16 0)))) (zH t 118 (zH t 116 (zE t 115 16 0) (zH t 117 (zE t 116 232 0) (zE t 117 60 0))) (zH t 120 (zH t 119 (zE t 118 5760 0) (zE t 119 3 0)) (zH t 121 (zE t 120 96 0) (zE t 121 3 0))))))))
def zaty (t : Nat) : Nat := (zH t 69 (zH t 42 (zH t 29 (zH t 22 (zH t 17 (zH t 15 (zE t 14 5 9) (zH t 16 (zE t 15 6 9) (zE t 16 0 9))) (zH t 20 (zE t 17 3 9) (zH t 21 (zE t 20 4 9) (zE t 21 0 9)))) (zH t 25 (zH t 23 (zE t 22 0 9) (zH t 24 (zE t 23 0 9) (zE t 24 0 9))) (zH t 27 (zH t 26 (zE t 25 0 9) (zE t 26 0 9)) (zH t 28 (zE t 27 0 9) (zE t 28 0 9))))) (zH t 35 (zH t 32 (zH t 30 (zE t 29 0 9) (zH t 31 (zE t 30 0 9) (zE t 31 0 9))) (zH t 33 (zE t 32 0 9) (zH t 34 (zE t 33 0 9) (zE t 34 0 9)))) (zH t 38 (zH t 36 (zE t 35 0 9) (zH t 37 (zE t 36 0 9) (zE t 37 1 9))) (zH t 40 (zH t 39 (zE t 38 1 9) (zE t 39 0 9)) (zH t 41 (zE t 40 0 9) (zE t 41 2 9)))))) (zH t 55 (zH t 48 (zH t 45 (zH t 43 (zE t 42 0 9) (zH t 44 (zE t 43 0 9) (zE t 44 0 9))) (zH t 46 (zE t 45 0 9) (zH t 47 (zE t 46 3 9) (zE t 47 0 9)))) (zH t 51 (zH t 49 (zE t 48 0 9) (zH t 50 (zE t 49 0 9) (zE t 50 0 9))) (zH t 53 (zH t 52 (zE t 51 0 9) (zE t 52 1 9)) (zH t 54 (zE t 53 1 9) (zE t 54 0 9))))) (zH t 62 (zH t 58 (zH t 56 (zE t 55 0 9) (zH t 57 (zE t 56 0 9) (zE t 57 0 9))) (zH t 60 (zH t 59 (zE t 58 0 9) (zE t 59 0 9)) (zH t 61 (zE t 60 0 9) (zE t 61 0 9)))) (zH t 65 (zH t 63 (zE t 62 0 9) (zH t 64 (zE t 63 0 9) (zE t 64 0 9))) (zH t 67 (zH t 66 (zE t 65 1 9) (zE t 66 1 9)) (zH t 68 (zE t 67 0 9) (zE t 68 0 9))))))) (zH t 95 (zH t 82 (zH t 75 (zH t 72 (zH t 70 (zE t 69 0 9) (zH t 71 (zE t 70 0 9) (zE t 71 0 9))) (zH t 73 (zE t 72 0 9) (zH t 74 (zE t 73 0 9) (zE t 74 0 9)))) (zH t 78 (zH t 76 (zE t 75 0 9) (zH t 77 (zE t 76 0 9) (zE t 77 0 9))) (zH t 80 (zH t 79 (zE t 78 0 9) (zE t 79 0 9)) (zH t 81 (zE t 80 1 9) (zE t 81 1 9))))) (zH t 88 (zH t 85 (zH t 83 (zE t 82 0 9) (zH t 84 (zE t 83 0 9) (zE t 84 0 9))) (zH t 86 (zE t 85 0 9) (zH t 87 (zE t 86 0 9) (zE t 87 0 9)))) (zH t 91 (zH t 89 (zE t 88 0 9) (zH t 90 (zE t 89 0 9) (zE t 90 0 9))) (zH t 93 (zH t 92 (zE t 91 0 9) (zE t 92 0 9)) (zH t 94 (zE t 93 0 9) (zE t 94 0 9)))))) (zH t 108 (zH t 101 (zH t 98 (zH t 96 (zE t 95 0 9) (zH t 97 (zE t 96 0 9) (zE t 97 3 9))) (zH t 99 (zE t 98 0 9) (zH t 100 (zE t 99 0 9) (zE t 100 1 9)))) (zH t 104 (zH t 102 (zE t 101 0 9) (zH t 103 (zE t 102 0 9) (zE t 103 0 9))) (zH t 106 (zH t 105 (zE t 104 0 9) (zE t 105 0 9)) (zH t 107 (zE t 106 0 9) (zE t 107 0 9))))) (zH t 115 (zH t 111 (zH t 109 (zE t 108 1 9) (zH t 110 (zE t 109 0 9) (zE t 110 0 9))) (zH t 113 (zH t 112 (zE t 111 0 9) (zE t 112 0 9)) (zH t 114 (zE t 113 0 9) (zE t 114 0 9)))) (zH t 118 (zH t 116 (zE t 115 0 9) (zH t 117 (zE t 116 1 9) (zE t 117 1 9))) (zH t 120 (zH t 119 (zE t 118 1 9) (zE t 119 0 9)) (zH t 121 (zE t 120 0 9) (zE t 121 0 9))))))))
def zfink (k i : Nat) : Option (Nat × Nat) := (zH k 1416 (zH k 899 (zH k 386 (zH k 134 (zH k 129 (zH k 1 (zE k 0 (some (4, 0)) none) (zH k 2 (zE k 1 (some (20, 0)) none) (zE k 2 (some (21, 0)) none))) (zH k 131 (zH k 130 (zE k 129 (some (22, 0)) none) (zE k 130 (some (23, 0)) none)) (zH k 132 (zE k 131 (some (24, 0)) none) (zE k 132 (some (25, 0)) none)))) (zH k 260 (zH k 135 (zE k 134 (some (26, 0)) none) (zH k 136 (zE k 135 (some (27, 0)) none) (zE k 136 (some (28, 0)) none))) (zH k 384 (zH k 263 (zE k 260 (some (29, i)) none) (zE k 263 (some (30, i)) none)) (zH k 385 (zE k 384 (some (4, 0)) none) (zE k 385 (some (31, 0)) none))))) (zH k 519 (zH k 515 (zH k 513 (zE k 386 (some (32, 0)) none) (zH k 514 (zE k 513 (some (33, 0)) none) (zE k 514 (some (34, 0)) none))) (zH k 517 (zH k 516 (zE k 515 (some (35, 0)) none) (zE k 516 (some (36, 0)) none)) (zH k 518 (zE k 517 (some (37, 0)) none) (zE k 518 (some (38, 0)) none)))) (zH k 642 (zH k 640 (zH k 520 (zE k 519 (some (39, 0)) none) (zE k 520 (some (40, 0)) none)) (zH k 641 (zE k 640 (some (4, 0)) none) (zE k 641 (some (0, 0)) none))) (zH k 768 (zH k 643 (zE k 642 (some (9, 0)) none) (zE k 643 (some (9, 1)) none)) (zH k 896 (zE k 768 (some (41, 0)) none) (zE k 896 (some (6, 0)) none)))))) (zH k 1032 (zH k 908 (zH k 902 (zH k 900 (zE k 899 (some (42, i)) none) (zH k 901 (zE k 900 (some (43, i)) none) (zE k 901 (some (44, i)) none))) (zH k 906 (zH k 905 (zE k 902 (some (45, i)) none) (zE k 905 (some (46, i)) none)) (zH k 907 (zE k 906 (some (47, i)) none) (zE k 907 (some (48, i)) none)))) (zH k 1028 (zH k 1026 (zH k 1024 (zE k 908 (some (49, i)) none) (zE k 1024 (some (4, 0)) none)) (zH k 1027 (zE k 1026 (some (50, 0)) none) (zE k 1027 (some (51, 0)) none))) (zH k 1030 (zH k 1029 (zE k 1028 (some (52, 0)) none) (zE k 1029 (some (53, 0)) none)) (zH k 1031 (zE k 1030 (some (54, 0)) none) (zE k 1031 (some (55, 0)) none))))) (zH k 1284 (zH k 1280 (zH k 1034 (zE k 1032 (some (56, 0)) none) (zH k 1156 (zE k 1034 (some (57, 0)) none) (zE k 1156 (some (58, i)) none))) (zH k 1282 (zH k 1281 (zE k 1280 (some (4, 0)) none) (zE k 1281 (some (0, 0)) none)) (zH k 1283 (zE k 1282 (some (5, 0)) none) (zE k 1283 (some (3, 0)) none)))) (zH k 1412 (zH k 1286 (zH k 1285 (zE k 1284 (some (8, 0)) none) (zE k 1285 (some (1, 0)) none)) (zH k 1411 (zE k 1286 (some (6, 0)) none) (zE k 1411 (some (59, 0)) none))) (zH k 1414 (zH k 1413 (zE k 1412 (some (60, 0)) none) (zE k 1413 (some (61, 0)) none)) (zH k 1415 (zE k 1414 (some (62, 0)) none) (zE k 1415 (some (63, 0)) none))))))) (zH k 1456 (zH k 1431 (zH k 1424 (zH k 1420 (zH k 1417 (zE k 1416 (some (64, 0)) none) (zH k 1418 (zE k 1417 (some (65, 0)) none) (zE k 1418 (some (66, 0)) none))) (zH k 1422 (zH k 1421 (zE k 1420 (some (67, 0)) none) (zE k 1421 (some (68, 0)) none)) (zH k 1423 (zE k 1422 (some (69, 0)) none) (zE k 1423 (some (70, 0)) none)))) (zH k 1427 (zH k 1425 (zE k 1424 (some (71, 0)) none) (zH k 1426 (zE k 1425 (some (72, 0)) none) (zE k 1426 (some (73, 0)) none))) (zH k 1429 (zH k 1428 (zE k 1427 (some (74, 0)) none) (zE k 1428 (some (75, 0)) none)) (zH k 1430 (zE k 1429 (some (76, 0)) none) (zE k 1430 (some (77, 0)) none))))) (zH k 1439 (zH k 1434 (zH k 1432 (zE k 1431 (some (78, 0)) none) (zH k 1433 (zE k 1432 (some (79, 0)) none) (zE k 1433 (some (80, 0)) none))) (zH k 1437 (zH k 1436 (zE k 1434 (some (81, 0)) none) (zE k 1436 (some (82, 0)) none)) (zH k 1438 (zE k 1437 (some (83, 0)) none) (zE k 1438 (some (84, 0)) none)))) (zH k 1445 (zH k 1442 (zH k 1441 (zE k 1439 (some (85, 0)) none) (zE k 1441 (some (86, 0)) none)) (zH k 1443 (zE k 1442 (some (87, 0)) none) (zE k 1443 (some (88, 0)) none))) (zH k 1454 (zH k 1453 (zE k 1445 (some (89, 0)) none) (zE k 1453 (some (90, 0)) none)) (zH k 1455 (zE k 1454 (some (91, 0)) none) (zE k 1455 (some (92, 0)) none)))))) (zH k 1472 (zH k 1464 (zH k 1459 (zH k 1457 (zE k 1456 (some (93, 0)) none) (zH k 1458 (zE k 1457 (some (94, 0)) none) (zE k 1458 (some (95, 0)) none))) (zH k 1461 (zH k 1460 (zE k 1459 (some (96, 0)) none) (zE k 1460 (some (97, 0)) none)) (zH k 1463 (zE k 1461 (some (98, 0)) none) (zE k 1463 (some (99, 0)) none)))) (zH k 1468 (zH k 1466 (zH k 1465 (zE k 1464 (some (100, 0)) none) (zE k 1465 (some (101, 0)) none)) (zH k 1467 (zE k 1466 (some (102, 0)) none) (zE k 1467 (some (103, 0)) none))) (zH k 1470 (zH k 1469 (zE k 1468 (some (104, 0)) none) (zE k 1469 (some (105, 0)) none)) (zH k 1471 (zE k 1470 (some (106, 0)) none) (zE k 1471 (some (107, 0)) none))))) (zH k 1481 (zH k 1475 (zH k 1473 (zE k 1472 (some (108, 0)) none) (zH k 1474 (zE k 1473 (some (109, 0)) none) (zE k 1474 (some (110, 0)) none))) (zH k 1478 (zH k 1477 (zE k 1475 (some (111, 0)) none) (zE k 1477 (some (112, 0)) none)) (zH k 1479 (zE k 1478 (some (113, 0)) none) (zE k 1479 (some (114, 0)) none)))) (zH k 1486 (zH k 1484 (zH k 1482 (zE k 1481 (some (115, 0)) none) (zE k 1482 (some (116, 0)) none)) (zH k 1485 (zE k 1484 (some (117, 0)) none) (zE k 1485 (some (118, 0)) none))) (zH k 1488 (zH k 1487 (zE k 1486 (some (119, 0)) none) (zE k 1487 (some (120, 0)) none)) (zH k 1536 (zE k 1488 (some (121, 0)) none) (zE k 1536 (some (13, i)) none))))))))
def zfin (t k i : Nat) : Option (Nat × Nat) := zfink (t * 128 + k) i
def zldck (k : Nat) : Option (Int32 ⊕ Nat) := (zH k 11408 (zH k 7346 (zH k 7339 (zE k 6195 (some (.inr 13)) none) (zE k 7339 (some (.inl (999999 : Int32))) none)) (zH k 11342 (zE k 7346 (some (.inl (86400 : Int32))) none) (zH k 11343 (zE k 11342 (some (.inl (100000 : Int32))) none) (zE k 11343 (some (.inl (999999 : Int32))) none)))) (zH k 12511 (zH k 11537 (zE k 11408 (some (.inl (86400 : Int32))) none) (zH k 12507 (zE k 11537 (some (.inl (99999 : Int32))) none) (zE k 12507 (some (.inl (100000 : Int32))) none))) (zH k 12555 (zE k 12511 (some (.inl (999999 : Int32))) none) (zH k 12684 (zE k 12555 (some (.inl (86400 : Int32))) none) (zE k 12684 (some (.inl (99999 : Int32))) none)))))
def zcst (n : Int) : Int32 := (zH (n + 40000).toNat 40043 (zH (n + 40000).toNat 40019 (zH (n + 40000).toNat 40007 (zH (n + 40000).toNat 40001 (zH (n + 40000).toNat 39998 (zH (n + 40000).toNat 39997 (zE (n + 40000).toNat 39992 (-8 : Int32) (Int32.ofInt n)) (zE (n + 40000).toNat 39997 (-3 : Int32) (Int32.ofInt n))) (zH (n + 40000).toNat 39999 (zE (n + 40000).toNat 39998 (-2 : Int32) (Int32.ofInt n)) (zH (n + 40000).toNat 40000 (zE (n + 40000).toNat 39999 (-1 : Int32) (Int32.ofInt n)) (zE (n + 40000).toNat 40000 (0 : Int32) (Int32.ofInt n))))) (zH (n + 40000).toNat 40004 (zH (n + 40000).toNat 40002 (zE (n + 40000).toNat 40001 (1 : Int32) (Int32.ofInt n)) (zH (n + 40000).toNat 40003 (zE (n + 40000).toNat 40002 (2 : Int32) (Int32.ofInt n)) (zE (n + 40000).toNat 40003 (3 : Int32) (Int32.ofInt n)))) (zH (n + 40000).toNat 40005 (zE (n + 40000).toNat 40004 (4 : Int32) (Int32.ofInt n)) (zH (n + 40000).toNat 40006 (zE (n + 40000).toNat 40005 (5 : Int32) (Int32.ofInt n)) (zE (n + 40000).toNat 40006 (6 : Int32) (Int32.ofInt n)))))) (zH (n + 40000).toNat 40013 (zH (n + 40000).toNat 40010 (zH (n + 40000).toNat 40008 (zE (n + 40000).toNat 40007 (7 : Int32) (Int32.ofInt n)) (zH (n + 40000).toNat 40009 (zE (n + 40000).toNat 40008 (8 : Int32) (Int32.ofInt n)) (zE (n + 40000).toNat 40009 (9 : Int32) (Int32.ofInt n)))) (zH (n + 40000).toNat 40011 (zE (n + 40000).toNat 40010 (10 : Int32) (Int32.ofInt n)) (zH (n + 40000).toNat 40012 (zE (n + 40000).toNat 40011 (11 : Int32) (Int32.ofInt n)) (zE (n + 40000).toNat 40012 (12 : Int32) (Int32.ofInt n))))) (zH (n + 40000).toNat 40016 (zH (n + 40000).toNat 40014 (zE (n + 40000).toNat 40013 (13 : Int32) (Int32.ofInt n)) (zH (n + 40000).toNat 40015 (zE (n + 40000).toNat 40014 (14 : Int32) (Int32.ofInt n)) (zE (n + 40000).toNat 40015 (15 : Int32) (Int32.ofInt n)))) (zH (n + 40000).toNat 40017 (zE (n + 40000).toNat 40016 (16 : Int32) (Int32.ofInt n)) (zH (n + 40000).toNat 40018 (zE (n + 40000).toNat 40017 (17 : Int32) (Int32.ofInt n)) (zE (n + 40000).toNat 40018 (18 : Int32) (Int32.ofInt n))))))) (zH (n + 40000).toNat 40031 (zH (n + 40000).toNat 40025 (zH (n + 40000).toNat 40022 (zH (n + 40000).toNat 40020 (zE (n + 40000).toNat 40019 (19 : Int32) (Int32.ofInt n)) (zH (n + 40000).toNat 40021 (zE (n + 40000).toNat 40020 (20 : Int32) (Int32.ofInt n)) (zE (n + 40000).toNat 40021 (21 : Int32) (Int32.ofInt n)))) (zH (n + 40000).toNat 40023 (zE (n + 40000).toNat 40022 (22 : Int32) (Int32.ofInt n)) (zH (n + 40000).toNat 40024 (zE (n + 40000).toNat 40023 (23 : Int32) (Int32.ofInt n)) (zE (n + 40000).toNat 40024 (24 : Int32) (Int32.ofInt n))))) (zH (n + 40000).toNat 40028 (zH (n + 40000).toNat 40026 (zE (n + 40000).toNat 40025 (25 : Int32) (Int32.ofInt n)) (zH (n + 40000).toNat 40027 (zE (n + 40000).toNat 40026 (26 : Int32) (Int32.ofInt n)) (zE (n + 40000).toNat 40027 (27 : Int32) (Int32.ofInt n)))) (zH (n + 40000).toNat 40029 (zE (n + 40000).toNat 40028 (28 : Int32) (Int32.ofInt n)) (zH (n + 40000).toNat 40030 (zE (n + 40000).toNat 40029 (29 : Int32) (Int32.ofInt n)) (zE (n + 40000).toNat 40030 (30 : Int32) (Int32.ofInt n)))))) (zH (n + 40000).toNat 40037 (zH (n + 40000).toNat 40034 (zH (n + 40000).toNat 40032 (zE (n + 40000).toNat 40031 (31 : Int32) (Int32.ofInt n)) (zH (n + 40000).toNat 40033 (zE (n + 40000).toNat 40032 (32 : Int32) (Int32.ofInt n)) (zE (n + 40000).toNat 40033 (33 : Int32) (Int32.ofInt n)))) (zH (n + 40000).toNat 40035 (zE (n + 40000).toNat 40034 (34 : Int32) (Int32.ofInt n)) (zH (n + 40000).toNat 40036 (zE (n + 40000).toNat 40035 (35 : Int32) (Int32.ofInt n)) (zE (n + 40000).toNat 40036 (36 : Int32) (Int32.ofInt n))))) (zH (n + 40000).toNat 40040 (zH (n + 40000).toNat 40038 (zE (n + 40000).toNat 40037 (37 : Int32) (Int32.ofInt n)) (zH (n + 40000).toNat 40039 (zE (n + 40000).toNat 40038 (38 : Int32) (Int32.ofInt n)) (zE (n + 40000).toNat 40039 (39 : Int32) (Int32.ofInt n)))) (zH (n + 40000).toNat 40041 (zE (n + 40000).toNat 40040 (40 : Int32) (Int32.ofInt n)) (zH (n + 40000).toNat 40042 (zE (n + 40000).toNat 40041 (41 : Int32) (Int32.ofInt n)) (zE (n + 40000).toNat 40042 (42 : Int32) (Int32.ofInt n)))))))) (zH (n + 40000).toNat 40096 (zH (n + 40000).toNat 40054 (zH (n + 40000).toNat 40048 (zH (n + 40000).toNat 40045 (zH (n + 40000).toNat 40044 (zE (n + 40000).toNat 40043 (43 : Int32) (Int32.ofInt n)) (zE (n + 40000).toNat 40044 (44 : Int32) (Int32.ofInt n))) (zH (n + 40000).toNat 40046 (zE (n + 40000).toNat 40045 (45 : Int32) (Int32.ofInt n)) (zH (n + 40000).toNat 40047 (zE (n + 40000).toNat 40046 (46 : Int32) (Int32.ofInt n)) (zE (n + 40000).toNat 40047 (47 : Int32) (Int32.ofInt n))))) (zH (n + 40000).toNat 40051 (zH (n + 40000).toNat 40049 (zE (n + 40000).toNat 40048 (48 : Int32) (Int32.ofInt n)) (zH (n + 40000).toNat 40050 (zE (n + 40000).toNat 40049 (49 : Int32) (Int32.ofInt n)) (zE (n + 40000).toNat 40050 (50 : Int32) (Int32.ofInt n)))) (zH (n + 40000).toNat 40052 (zE (n + 40000).toNat 40051 (51 : Int32) (Int32.ofInt n)) (zH (n + 40000).toNat 40053 (zE (n + 40000).toNat 40052 (52 : Int32) (Int32.ofInt n)) (zE (n + 40000).toNat 40053 (53 : Int32) (Int32.ofInt n)))))) (zH (n + 40000).toNat 40060 (zH (n + 40000).toNat 40057 (zH (n + 40000).toNat 40055 (zE (n + 40000).toNat 40054 (54 : Int32) (Int32.ofInt n)) (zH (n + 40000).toNat 40056 (zE (n + 40000).toNat 40055 (55 : Int32) (Int32.ofInt n)) (zE (n + 40000).toNat 40056 (56 : Int32) (Int32.ofInt n)))) (zH (n + 40000).toNat 40058 (zE (n + 40000).toNat 40057 (57 : Int32) (Int32.ofInt n)) (zH (n + 40000).toNat 40059 (zE (n + 40000).toNat 40058 (58 : Int32) (Int32.ofInt n)) (zE (n + 40000).toNat 40059 (59 : Int32) (Int32.ofInt n))))) (zH (n + 40000).toNat 40063 (zH (n + 40000).toNat 40061 (zE (n + 40000).toNat 40060 (60 : Int32) (Int32.ofInt n)) (zH (n + 40000).toNat 40062 (zE (n + 40000).toNat 40061 (61 : Int32) (Int32.ofInt n)) (zE (n + 40000).toNat 40062 (62 : Int32) (Int32.ofInt n)))) (zH (n + 40000).toNat 40064 (zE (n + 40000).toNat 40063 (63 : Int32) (Int32.ofInt n)) (zH (n + 40000).toNat 40080 (zE (n + 40000).toNat 40064 (64 : Int32) (Int32.ofInt n)) (zE (n + 40000).toNat 40080 (80 : Int32) (Int32.ofInt n))))))) (zH (n + 40000).toNat 43600 (zH (n + 40000).toNat 40120 (zH (n + 40000).toNat 40100 (zH (n + 40000).toNat 40097 (zE (n + 40000).toNat 40096 (96 : Int32) (Int32.ofInt n)) (zH (n + 40000).toNat 40099 (zE (n + 40000).toNat 40097 (97 : Int32) (Int32.ofInt n)) (zE (n + 40000).toNat 40099 (99 : Int32) (Int32.ofInt n)))) (zH (n + 40000).toNat 40115 (zE (n + 40000).toNat 40100 (100 : Int32) (Int32.ofInt n)) (zH (n + 40000).toNat 40116 (zE (n + 40000).toNat 40115 (115 : Int32) (Int32.ofInt n)) (zE (n + 40000).toNat 40116 (116 : Int32) (Int32.ofInt n))))) (zH (n + 40000).toNat 40200 (zH (n + 40000).toNat 40122 (zE (n + 40000).toNat 40120 (120 : Int32) (Int32.ofInt n)) (zH (n + 40000).toNat 40126 (zE (n + 40000).toNat 40122 (122 : Int32) (Int32.ofInt n)) (zE (n + 40000).toNat 40126 (126 : Int32) (Int32.ofInt n)))) (zH (n + 40000).toNat 40232 (zE (n + 40000).toNat 40200 (200 : Int32) (Int32.ofInt n)) (zH (n + 40000).toNat 41000 (zE (n + 40000).toNat 40232 (232 : Int32) (Int32.ofInt n)) (zE (n + 40000).toNat 41000 (1000 : Int32) (Int32.ofInt n)))))) (zH (n + 40000).toNat 70002 (zH (n + 40000).toNat 60000 (zH (n + 40000).toNat 49999 (zE (n + 40000).toNat 43600 (3600 : Int32) (Int32.ofInt n)) (zH (n + 40000).toNat 50000 (zE (n + 40000).toNat 49999 (9999 : Int32) (Int32.ofInt n)) (zE (n + 40000).toNat 50000 (10000 : Int32) (Int32.ofInt n)))) (zH (n + 40000).toNat 70000 (zE (n + 40000).toNat 60000 (20000 : Int32) (Int32.ofInt n)) (zH (n + 40000).toNat 70001 (zE (n + 40000).toNat 70000 (30000 : Int32) (Int32.ofInt n)) (zE (n + 40000).toNat 70001 (30001 : Int32) (Int32.ofInt n))))) (zH (n + 40000).toNat 70005 (zH (n + 40000).toNat 70003 (zE (n + 40000).toNat 70002 (30002 : Int32) (Int32.ofInt n)) (zH (n + 40000).toNat 70004 (zE (n + 40000).toNat 70003 (30003 : Int32) (Int32.ofInt n)) (zE (n + 40000).toNat 70004 (30004 : Int32) (Int32.ofInt n)))) (zH (n + 40000).toNat 70006 (zE (n + 40000).toNat 70005 (30005 : Int32) (Int32.ofInt n)) (zH (n + 40000).toNat 70007 (zE (n + 40000).toNat 70006 (30006 : Int32) (Int32.ofInt n)) (zE (n + 40000).toNat 70007 (30007 : Int32) (Int32.ofInt n)))))))))
def zldc (oc n : Nat) : Option (Int32 ⊕ Nat) := zldck (oc * 1024 + n)
def zldlk (k : Nat) : Option Int64 := (zH k 12607 (zH k 12591 (zH k 12562 (zH k 6226 (zE k 6159 (some (255 : Int64)) none) (zE k 6226 (some (32 : Int64)) none)) (zH k 12589 (zE k 12562 (some (255 : Int64)) none) (zE k 12589 (some (27 : Int64)) none))) (zH k 12601 (zH k 12599 (zE k 12591 (some (96 : Int64)) none) (zE k 12599 (some (523076 : Int64)) none)) (zH k 12603 (zE k 12601 (some (168984 : Int64)) none) (zH k 12605 (zE k 12603 (some (2968 : Int64)) none) (zE k 12605 (some (173107021 : Int64)) none))))) (zH k 12617 (zH k 12611 (zH k 12609 (zE k 12607 (some (11442943 : Int64)) none) (zE k 12609 (some (243140 : Int64)) none)) (zH k 12613 (zE k 12611 (some (8903 : Int64)) none) (zH k 12615 (zE k 12613 (some (423812 : Int64)) none) (zE k 12615 (some (99233 : Int64)) none)))) (zH k 12621 (zH k 12619 (zE k 12617 (some (458690 : Int64)) none) (zE k 12619 (some (1111 : Int64)) none)) (zH k 12623 (zE k 12621 (some (423 : Int64)) none) (zH k 13381 (zE k 12623 (some (10631 : Int64)) none) (zE k 13381 (some (4294967295 : Int64)) none))))))
def zldl (oc n : Nat) : Option Int64 := zldlk (oc * 1024 + n)
def zstak (k : Nat) : Option (Nat × Nat) := (zH k 7324 (zH k 7286 (zH k 7231 (zE k 6208 (some (14, 0)) none) (zH k 7250 (zE k 7231 (some (12, 6)) none) (zE k 7250 (some (12, 7)) none))) (zH k 7315 (zH k 7292 (zE k 7286 (some (12, 8)) none) (zE k 7292 (some (12, 9)) none)) (zH k 7318 (zE k 7315 (some (12, 10)) none) (zE k 7318 (some (12, 11)) none)))) (zH k 7343 (zH k 7336 (zH k 7331 (zE k 7324 (some (12, 12)) none) (zE k 7331 (some (12, 0)) none)) (zH k 7340 (zE k 7336 (some (12, 5)) none) (zE k 7340 (some (12, 1)) none))) (zH k 7350 (zH k 7347 (zE k 7343 (some (12, 2)) none) (zE k 7347 (some (12, 3)) none)) (zH k 11538 (zE k 7350 (some (12, 4)) none) (zE k 11538 (some (15, 0)) none)))))
def zsta (oc n : Nat) : Option (Nat × Nat) := zstak (oc * 1024 + n)
def zmthk (k : Nat) : Option (Nat × Nat × Nat) := (zH k 11443 (zH k 6222 (zH k 3135 (zH k 117 (zH k 75 (zH k 57 (zH k 31 (zE k 25 (some (1002, 2, 0)) none) (zH k 47 (zE k 31 (some (33, 3, 1)) none) (zE k 47 (some (3, 2, 1)) none))) (zH k 67 (zH k 60 (zE k 57 (some (45, 2, 1)) none) (zE k 60 (some (10, 4, 0)) none)) (zH k 71 (zE k 67 (some (21, 2, 0)) none) (zE k 71 (some (19, 1, 1)) none)))) (zH k 94 (zH k 84 (zH k 81 (zE k 75 (some (37, 2, 1)) none) (zE k 81 (some (38, 2, 1)) none)) (zH k 88 (zE k 84 (some (8, 3, 0)) none) (zE k 88 (some (9, 4, 0)) none))) (zH k 104 (zH k 98 (zE k 94 (some (5, 3, 1)) none) (zE k 98 (some (2, 2, 1)) none)) (zH k 114 (zE k 104 (some (42, 4, 1)) none) (zE k 114 (some (22, 2, 0)) none))))) (zH k 2088 (zH k 131 (zH k 124 (zH k 120 (zE k 117 (some (44, 2, 1)) none) (zE k 120 (some (6, 2, 1)) none)) (zH k 127 (zE k 124 (some (132, 3, 1)) none) (zE k 127 (some (7, 3, 1)) none))) (zH k 137 (zH k 134 (zE k 131 (some (13, 3, 0)) none) (zE k 134 (some (1, 2, 1)) none)) (zH k 1064 (zE k 137 (some (23, 1, 0)) none) (zE k 1064 (some (17, 3, 1)) none)))) (zH k 3118 (zH k 3107 (zH k 3094 (zE k 2088 (some (19, 1, 1)) none) (zE k 3094 (some (34, 3, 1)) none)) (zH k 3114 (zE k 3107 (some (25, 5, 0)) none) (zE k 3114 (some (41, 5, 1)) none))) (zH k 3126 (zH k 3122 (zE k 3118 (some (43, 2, 1)) none) (zE k 3122 (some (26, 6, 1)) none)) (zH k 3132 (zE k 3126 (some (1000, 2, 1)) none) (zE k 3132 (some (29, 2, 1)) none)))))) (zH k 5216 (zH k 4164 (zH k 4151 (zH k 4143 (zH k 4133 (zE k 3135 (some (27, 3, 1)) none) (zE k 4133 (some (1002, 2, 0)) none)) (zH k 4147 (zE k 4143 (some (34, 3, 1)) none) (zE k 4147 (some (36, 2, 1)) none))) (zH k 4158 (zH k 4155 (zE k 4151 (some (40, 3, 1)) none) (zE k 4155 (some (33, 3, 1)) none)) (zH k 4161 (zE k 4158 (some (35, 2, 1)) none) (zE k 4161 (some (37, 2, 1)) none)))) (zH k 5178 (zH k 5167 (zH k 5159 (zE k 4164 (some (43, 2, 1)) none) (zE k 5159 (some (96, 4, 0)) none)) (zH k 5174 (zE k 5167 (some (51, 2, 1)) none) (zE k 5174 (some (49, 1, 1)) none))) (zH k 5196 (zH k 5192 (zE k 5178 (some (50, 2, 1)) none) (zE k 5192 (some (97, 2, 0)) none)) (zH k 5212 (zE k 5196 (some (13, 3, 0)) none) (zE k 5212 (some (52, 4, 1)) none))))) (zH k 5254 (zH k 5235 (zH k 5229 (zH k 5220 (zE k 5216 (some (45, 2, 1)) none) (zE k 5220 (some (44, 2, 1)) none)) (zH k 5232 (zE k 5229 (some (53, 4, 1)) none) (zE k 5232 (some (37, 2, 1)) none))) (zH k 5241 (zH k 5238 (zE k 5235 (some (98, 2, 1)) none) (zE k 5238 (some (54, 2, 1)) none)) (zH k 5244 (zE k 5241 (some (38, 2, 1)) none) (zE k 5244 (some (99, 4, 1)) none)))) (zH k 6184 (zH k 6174 (zH k 6171 (zE k 5254 (some (42, 4, 1)) none) (zE k 6171 (some (57, 1, 0)) none)) (zH k 6178 (zE k 6174 (some (58, 4, 1)) none) (zE k 6178 (some (1000, 2, 1)) none))) (zH k 6216 (zH k 6197 (zE k 6184 (some (65, 1, 3)) none) (zE k 6197 (some (1006, 2, 1)) none)) (zH k 6219 (zE k 6216 (some (1004, 1, 1)) none) (zE k 6219 (some (1001, 2, 1)) none))))))) (zH k 8263 (zH k 7282 (zH k 7253 (zH k 7237 (zH k 7224 (zE k 6222 (some (1005, 2, 1)) none) (zH k 7227 (zE k 7224 (some (56, 1, 0)) none) (zE k 7227 (some (59, 1, 1)) none))) (zH k 7244 (zH k 7241 (zE k 7237 (some (62, 2, 1)) none) (zE k 7241 (some (69, 1, 1)) none)) (zH k 7247 (zE k 7244 (some (70, 1, 1)) none) (zE k 7247 (some (71, 1, 1)) none)))) (zH k 7267 (zH k 7260 (zH k 7257 (zE k 7253 (some (72, 2, 1)) none) (zE k 7257 (some (57, 1, 0)) none)) (zH k 7263 (zE k 7260 (some (63, 1, 1)) none) (zE k 7263 (some (67, 1, 2)) none))) (zH k 7275 (zH k 7271 (zE k 7267 (some (76, 2, 1)) none) (zE k 7271 (some (73, 2, 1)) none)) (zH k 7279 (zE k 7275 (some (77, 3, 1)) none) (zE k 7279 (some (75, 3, 1)) none))))) (zH k 7327 (zH k 7304 (zH k 7298 (zH k 7289 (zE k 7282 (some (66, 1, 1)) none) (zE k 7289 (some (74, 2, 1)) none)) (zH k 7301 (zE k 7298 (some (61, 2, 1)) none) (zE k 7301 (some (60, 1, 1)) none))) (zH k 7311 (zH k 7307 (zE k 7304 (some (79, 2, 1)) none) (zE k 7307 (some (78, 2, 1)) none)) (zH k 7321 (zE k 7311 (some (81, 2, 0)) none) (zE k 7321 (some (64, 1, 1)) none)))) (zH k 7363 (zH k 7356 (zH k 7353 (zE k 7327 (some (80, 3, 1)) none) (zE k 7353 (some (83, 1, 1)) none)) (zH k 7360 (zE k 7356 (some (84, 3, 1)) none) (zE k 7360 (some (85, 2, 1)) none))) (zH k 8254 (zH k 8245 (zE k 7363 (some (86, 3, 1)) none) (zE k 8245 (some (35, 2, 1)) none)) (zH k 8260 (zE k 8254 (some (1002, 2, 0)) none) (zE k 8260 (some (90, 1, 0)) none)))))) (zH k 11370 (zH k 9267 (zH k 8279 (zH k 8271 (zH k 8267 (zE k 8263 (some (91, 3, 0)) none) (zE k 8267 (some (92, 2, 1)) none)) (zH k 8275 (zE k 8271 (some (94, 2, 0)) none) (zE k 8275 (some (93, 3, 1)) none))) (zH k 9247 (zH k 8282 (zE k 8279 (some (95, 2, 1)) none) (zE k 8282 (some (1003, 5, 0)) none)) (zH k 9256 (zE k 9247 (some (1001, 2, 1)) none) (zE k 9256 (some (132, 3, 1)) none)))) (zH k 11348 (zH k 9278 (zH k 9273 (zE k 9267 (some (1003, 5, 0)) none) (zE k 9273 (some (5, 3, 1)) none)) (zH k 11344 (zE k 9278 (some (2, 2, 1)) none) (zE k 11344 (some (30, 4, 1)) none))) (zH k 11356 (zH k 11352 (zE k 11348 (some (31, 6, 1)) none) (zE k 11352 (some (32, 3, 1)) none)) (zH k 11359 (zE k 11356 (some (0, 4, 1)) none) (zE k 11359 (some (35, 2, 1)) none))))) (zH k 11412 (zH k 11396 (zH k 11381 (zH k 11377 (zE k 11370 (some (2, 2, 1)) none) (zE k 11377 (some (6, 2, 1)) none)) (zH k 11384 (zE k 11381 (some (3, 2, 1)) none) (zE k 11384 (some (7, 3, 1)) none))) (zH k 11404 (zH k 11400 (zE k 11396 (some (19, 1, 1)) none) (zE k 11400 (some (39, 2, 1)) none)) (zH k 11409 (zE k 11404 (some (82, 5, 1)) none) (zE k 11409 (some (129, 1, 1)) none)))) (zH k 11430 (zH k 11420 (zH k 11416 (zE k 11412 (some (14, 5, 0)) none) (zE k 11416 (some (12, 2, 0)) none)) (zH k 11427 (zE k 11420 (some (55, 2, 0)) none) (zE k 11427 (some (68, 1, 1)) none))) (zH k 11437 (zH k 11434 (zE k 11430 (some (15, 4, 1)) none) (zE k 11434 (some (1, 2, 1)) none)) (zH k 11440 (zE k 11437 (some (16, 5, 1)) none) (zE k 11440 (some (130, 4, 1)) none)))))))) (zH k 12737 (zH k 12586 (zH k 11534 (zH k 11470 (zH k 11454 (zH k 11447 (zE k 11443 (some (11, 4, 1)) none) (zH k 11450 (zE k 11447 (some (115, 4, 1)) none) (zE k 11450 (some (131, 7, 1)) none))) (zH k 11463 (zH k 11460 (zE k 11454 (some (48, 4, 1)) none) (zE k 11460 (some (24, 4, 1)) none)) (zH k 11467 (zE k 11463 (some (27, 3, 1)) none) (zE k 11467 (some (28, 3, 1)) none)))) (zH k 11506 (zH k 11481 (zH k 11474 (zE k 11470 (some (87, 3, 0)) none) (zE k 11474 (some (88, 1, 1)) none)) (zH k 11497 (zE k 11481 (some (89, 2, 1)) none) (zE k 11497 (some (20, 2, 1)) none))) (zH k 11519 (zH k 11512 (zE k 11506 (some (36, 2, 1)) none) (zE k 11512 (some (18, 3, 1)) none)) (zH k 11522 (zE k 11519 (some (4, 1, 1)) none) (zE k 11522 (some (46, 3, 1)) none))))) (zH k 12529 (zH k 12515 (zH k 12500 (zH k 12496 (zE k 11534 (some (47, 1, 1)) none) (zE k 12496 (some (135, 2, 1)) none)) (zH k 12512 (zE k 12500 (some (134, 3, 1)) none) (zE k 12512 (some (138, 2, 1)) none))) (zH k 12522 (zH k 12518 (zE k 12515 (some (136, 2, 1)) none) (zE k 12518 (some (141, 4, 1)) none)) (zH k 12526 (zE k 12522 (some (144, 3, 1)) none) (zE k 12526 (some (148, 2, 1)) none)))) (zH k 12543 (zH k 12536 (zH k 12532 (zE k 12529 (some (137, 2, 1)) none) (zE k 12532 (some (150, 2, 1)) none)) (zH k 12540 (zE k 12536 (some (152, 3, 0)) none) (zE k 12540 (some (154, 2, 1)) none))) (zH k 12549 (zH k 12546 (zE k 12543 (some (155, 2, 1)) none) (zE k 12546 (some (151, 3, 1)) none)) (zH k 12559 (zE k 12549 (some (179, 2, 1)) none) (zE k 12559 (some (160, 3, 1)) none)))))) (zH k 12677 (zH k 12650 (zH k 12636 (zH k 12629 (zH k 12625 (zE k 12586 (some (163, 2, 1)) none) (zE k 12625 (some (169, 1, 1)) none)) (zH k 12633 (zE k 12629 (some (165, 2, 1)) none) (zE k 12633 (some (166, 2, 1)) none))) (zH k 12643 (zH k 12640 (zE k 12636 (some (170, 1, 1)) none) (zE k 12640 (some (167, 2, 1)) none)) (zH k 12646 (zE k 12643 (some (171, 1, 1)) none) (zE k 12646 (some (168, 2, 0)) none)))) (zH k 12662 (zH k 12656 (zH k 12653 (zE k 12650 (some (164, 1, 0)) none) (zE k 12653 (some (172, 2, 1)) none)) (zH k 12659 (zE k 12656 (some (173, 1, 1)) none) (zE k 12659 (some (176, 2, 0)) none))) (zH k 12668 (zH k 12665 (zE k 12662 (some (175, 2, 0)) none) (zE k 12665 (some (177, 2, 0)) none)) (zH k 12674 (zE k 12668 (some (178, 2, 1)) none) (zE k 12674 (some (149, 2, 1)) none))))) (zH k 12708 (zH k 12691 (zH k 12685 (zH k 12680 (zE k 12677 (some (182, 2, 0)) none) (zE k 12680 (some (181, 3, 1)) none)) (zH k 12688 (zE k 12685 (some (184, 4, 1)) none) (zE k 12688 (some (180, 1, 0)) none))) (zH k 12701 (zH k 12697 (zE k 12691 (some (183, 4, 1)) none) (zE k 12697 (some (187, 3, 1)) none)) (zH k 12704 (zE k 12701 (some (189, 2, 0)) none) (zE k 12704 (some (188, 7, 1)) none)))) (zH k 12721 (zH k 12714 (zH k 12711 (zE k 12708 (some (190, 1, 0)) none) (zE k 12711 (some (191, 4, 1)) none)) (zH k 12718 (zE k 12714 (some (192, 5, 1)) none) (zE k 12718 (some (193, 5, 1)) none))) (zH k 12729 (zH k 12726 (zE k 12721 (some (1000, 2, 1)) none) (zE k 12726 (some (195, 2, 1)) none)) (zH k 12732 (zE k 12729 (some (197, 4, 1)) none) (zE k 12732 (some (196, 5, 1)) none))))))) (zH k 13396 (zH k 13359 (zH k 13340 (zH k 13319 (zH k 12743 (zE k 12737 (some (201, 2, 1)) none) (zH k 12746 (zE k 12743 (some (202, 2, 0)) none) (zE k 12746 (some (203, 1, 1)) none))) (zH k 13335 (zH k 13331 (zE k 13319 (some (124, 3, 1)) none) (zE k 13331 (some (100, 2, 1)) none)) (zH k 13336 (zE k 13335 (some (139, 2, 1)) none) (zE k 13336 (some (101, 4, 1)) none)))) (zH k 13350 (zH k 13345 (zH k 13341 (zE k 13340 (some (140, 4, 1)) none) (zE k 13341 (some (102, 6, 1)) none)) (zH k 13346 (zE k 13345 (some (142, 6, 1)) none) (zE k 13346 (some (103, 3, 1)) none))) (zH k 13354 (zH k 13351 (zE k 13350 (some (143, 3, 1)) none) (zE k 13351 (some (104, 4, 1)) none)) (zH k 13355 (zE k 13354 (some (145, 4, 1)) none) (zE k 13355 (some (105, 3, 1)) none))))) (zH k 13376 (zH k 13367 (zH k 13363 (zH k 13360 (zE k 13359 (some (146, 3, 1)) none) (zE k 13360 (some (106, 3, 1)) none)) (zH k 13364 (zE k 13363 (some (147, 3, 1)) none) (zE k 13364 (some (107, 2, 1)) none))) (zH k 13371 (zH k 13368 (zE k 13367 (some (153, 2, 1)) none) (zE k 13368 (some (108, 3, 1)) none)) (zH k 13372 (zE k 13371 (some (156, 3, 1)) none) (zE k 13372 (some (109, 2, 1)) none)))) (zH k 13387 (zH k 13380 (zH k 13377 (zE k 13376 (some (157, 2, 1)) none) (zE k 13377 (some (110, 2, 1)) none)) (zH k 13383 (zE k 13380 (some (158, 2, 1)) none) (zE k 13383 (some (111, 4, 1)) none))) (zH k 13392 (zH k 13388 (zE k 13387 (some (162, 4, 1)) none) (zE k 13388 (some (112, 1, 1)) none)) (zH k 13393 (zE k 13392 (some (174, 1, 1)) none) (zE k 13393 (some (113, 3, 1)) none)))))) (zH k 13430 (zH k 13414 (zH k 13405 (zH k 13401 (zH k 13397 (zE k 13396 (some (159, 3, 1)) none) (zE k 13397 (some (114, 5, 1)) none)) (zH k 13402 (zE k 13401 (some (161, 5, 1)) none) (zE k 13402 (some (115, 4, 1)) none))) (zH k 13410 (zH k 13406 (zE k 13405 (some (185, 4, 1)) none) (zE k 13406 (some (116, 7, 1)) none)) (zH k 13411 (zE k 13410 (some (186, 7, 1)) none) (zE k 13411 (some (117, 5, 1)) none)))) (zH k 13422 (zH k 13418 (zH k 13415 (zE k 13414 (some (194, 5, 1)) none) (zE k 13415 (some (118, 4, 1)) none)) (zH k 13419 (zE k 13418 (some (198, 4, 1)) none) (zE k 13419 (some (119, 5, 1)) none))) (zH k 13426 (zH k 13423 (zE k 13422 (some (199, 5, 1)) none) (zE k 13423 (some (120, 4, 1)) none)) (zH k 13427 (zE k 13426 (some (200, 4, 1)) none) (zE k 13427 (some (121, 2, 1)) none))))) (zH k 13448 (zH k 13438 (zH k 13434 (zH k 13431 (zE k 13430 (some (204, 2, 1)) none) (zE k 13431 (some (122, 2, 1)) none)) (zH k 13435 (zE k 13434 (some (205, 2, 1)) none) (zE k 13435 (some (123, 1, 1)) none))) (zH k 13444 (zH k 13439 (zE k 13438 (some (206, 1, 1)) none) (zE k 13439 (some (1008, 4, 1)) none)) (zH k 13445 (zE k 13444 (some (207, 3, 1)) none) (zE k 13445 (some (133, 1, 1)) none)))) (zH k 13456 (zH k 13452 (zH k 13451 (zE k 13448 (some (125, 3, 1)) none) (zE k 13451 (some (208, 3, 1)) none)) (zH k 13455 (zE k 13452 (some (126, 2, 1)) none) (zE k 13455 (some (209, 2, 1)) none))) (zH k 13460 (zH k 13459 (zE k 13456 (some (127, 3, 1)) none) (zE k 13459 (some (210, 3, 1)) none)) (zH k 13463 (zE k 13460 (some (128, 2, 1)) none) (zE k 13463 (some (211, 2, 1)) none)))))))))
def zmth (oc n : Nat) : Option (Nat × Nat × Nat) := zmthk (oc * 1024 + n)
def zfldk (k : Nat) : Option (Nat × Nat × Nat) := (zH k 9263 (zH k 5153 (zH k 2073 (zH k 143 (zH k 64 (zH k 37 (zH k 17 (zE k 11 (some (0, 1, 2)) none) (zH k 21 (zE k 17 (some (0, 2, 2)) none) (zE k 21 (some (0, 0, 2)) none))) (zH k 51 (zH k 44 (zE k 37 (some (0, 3, 0)) none) (zE k 44 (some (2, 2, 0)) none)) (zH k 54 (zE k 51 (some (2, 1, 0)) none) (zE k 54 (some (4, 2, 2)) none)))) (zH k 101 (zH k 78 (zE k 64 (some (2, 3, 0)) none) (zH k 91 (zE k 78 (some (2, 8, 0)) none) (zE k 91 (some (2, 9, 0)) none))) (zH k 111 (zH k 108 (zE k 101 (some (2, 10, 0)) none) (zE k 108 (some (4, 7, 2)) none)) (zH k 140 (zE k 111 (some (2, 0, 0)) none) (zE k 140 (some (2, 5, 0)) none))))) (zH k 1054 (zH k 1042 (zH k 1035 (zE k 143 (some (2, 4, 2)) none) (zH k 1039 (zE k 1035 (some (1, 1, 2)) none) (zE k 1039 (some (1, 2, 2)) none))) (zH k 1048 (zH k 1045 (zE k 1042 (some (1, 3, 2)) none) (zE k 1045 (some (1, 4, 2)) none)) (zH k 1051 (zE k 1048 (some (1, 6, 2)) none) (zE k 1051 (some (1, 7, 2)) none)))) (zH k 2057 (zH k 1057 (zE k 1054 (some (1, 8, 2)) none) (zH k 1061 (zE k 1057 (some (1, 0, 0)) none) (zE k 1061 (some (1, 5, 0)) none))) (zH k 2067 (zH k 2063 (zE k 2057 (some (2, 2, 0)) none) (zE k 2063 (some (2, 4, 2)) none)) (zH k 2070 (zE k 2067 (some (2, 7, 2)) none) (zE k 2070 (some (2, 10, 0)) none)))))) (zH k 4105 (zH k 2098 (zH k 2082 (zH k 2076 (zE k 2073 (some (2, 11, 0)) none) (zH k 2079 (zE k 2076 (some (2, 0, 0)) none) (zE k 2079 (some (2, 1, 0)) none))) (zH k 2092 (zH k 2085 (zE k 2082 (some (2, 5, 0)) none) (zE k 2085 (some (2, 3, 0)) none)) (zH k 2095 (zE k 2092 (some (2, 6, 0)) none) (zE k 2095 (some (2, 8, 0)) none)))) (zH k 3090 (zH k 3081 (zE k 2098 (some (2, 9, 0)) none) (zH k 3087 (zE k 3081 (some (3, 1, 2)) none) (zE k 3087 (some (3, 2, 2)) none))) (zH k 3103 (zH k 3100 (zE k 3090 (some (3, 0, 2)) none) (zE k 3100 (some (4, 2, 2)) none)) (zH k 3111 (zE k 3103 (some (3, 3, 0)) none) (zE k 3111 (some (4, 3, 2)) none))))) (zH k 4130 (zH k 4117 (zH k 4111 (zE k 4105 (some (4, 1, 2)) none) (zH k 4114 (zE k 4111 (some (4, 2, 2)) none) (zE k 4114 (some (4, 3, 2)) none))) (zH k 4124 (zH k 4120 (zE k 4117 (some (4, 4, 2)) none) (zE k 4120 (some (4, 5, 2)) none)) (zH k 4127 (zE k 4124 (some (4, 6, 2)) none) (zE k 4127 (some (4, 7, 2)) none)))) (zH k 5138 (zH k 4139 (zE k 4130 (some (4, 8, 2)) none) (zH k 5132 (zE k 4139 (some (4, 0, 0)) none) (zE k 5132 (some (5, 2, 2)) none))) (zH k 5145 (zH k 5141 (zE k 5138 (some (5, 3, 2)) none) (zE k 5141 (some (5, 5, 0)) none)) (zH k 5149 (zE k 5145 (some (5, 0, 2)) none) (zE k 5149 (some (5, 1, 2)) none))))))) (zH k 7204 (zH k 6161 (zH k 5203 (zH k 5181 (zH k 5163 (zE k 5153 (some (0, 1, 2)) none) (zH k 5171 (zE k 5163 (some (5, 4, 4)) none) (zE k 5171 (some (0, 3, 0)) none))) (zH k 5189 (zH k 5186 (zE k 5181 (some (2, 3, 0)) none) (zE k 5186 (some (2, 2, 0)) none)) (zH k 5200 (zE k 5189 (some (2, 6, 0)) none) (zE k 5200 (some (2, 0, 0)) none)))) (zH k 5226 (zH k 5206 (zE k 5203 (some (9, 1, 0)) none) (zH k 5223 (zE k 5206 (some (4, 2, 2)) none) (zE k 5223 (some (4, 7, 2)) none))) (zH k 5251 (zH k 5248 (zE k 5226 (some (9, 0, 0)) none) (zE k 5248 (some (9, 3, 0)) none)) (zH k 6155 (zE k 5251 (some (9, 4, 2)) none) (zE k 6155 (some (6, 0, 2)) none))))) (zH k 7179 (zH k 6188 (zH k 6165 (zE k 6161 (some (6, 1, 0)) none) (zH k 6168 (zE k 6165 (some (6, 3, 0)) none) (zE k 6168 (some (6, 4, 0)) none))) (zH k 6203 (zH k 6192 (zE k 6188 (some (6, 5, 3)) none) (zE k 6192 (some (6, 2, 0)) none)) (zH k 6212 (zE k 6203 (some (12, 1, 5)) none) (zE k 6212 (some (12, 0, 2)) none)))) (zH k 7191 (zH k 7183 (zE k 7179 (some (7, 3, 2)) none) (zH k 7186 (zE k 7183 (some (7, 4, 2)) none) (zE k 7186 (some (7, 5, 2)) none))) (zH k 7198 (zH k 7194 (zE k 7191 (some (7, 6, 2)) none) (zE k 7194 (some (7, 9, 2)) none)) (zH k 7201 (zE k 7198 (some (7, 10, 2)) none) (zE k 7201 (some (7, 11, 2)) none)))))) (zH k 8223 (zH k 7334 (zH k 7215 (zH k 7207 (zE k 7204 (some (7, 12, 2)) none) (zH k 7211 (zE k 7207 (some (7, 0, 2)) none) (zE k 7211 (some (7, 1, 0)) none))) (zH k 7221 (zH k 7218 (zE k 7215 (some (7, 2, 0)) none) (zE k 7218 (some (7, 8, 0)) none)) (zH k 7295 (zE k 7221 (some (7, 7, 0)) none) (zE k 7295 (some (6, 3, 0)) none)))) (zH k 8210 (zH k 8203 (zE k 7334 (some (12, 1, 5)) none) (zH k 8207 (zE k 8203 (some (8, 2, 2)) none) (zE k 8207 (some (8, 3, 2)) none))) (zH k 8217 (zH k 8214 (zE k 8210 (some (8, 4, 2)) none) (zE k 8214 (some (8, 5, 2)) none)) (zH k 8220 (zE k 8217 (some (8, 6, 2)) none) (zE k 8220 (some (8, 7, 2)) none))))) (zH k 9225 (zH k 8233 (zH k 8226 (zE k 8223 (some (8, 8, 2)) none) (zH k 8229 (zE k 8226 (some (8, 10, 2)) none) (zE k 8229 (some (8, 0, 2)) none))) (zH k 8242 (zH k 8237 (zE k 8233 (some (8, 1, 0)) none) (zE k 8237 (some (2, 5, 0)) none)) (zH k 8251 (zE k 8242 (some (2, 4, 2)) none) (zE k 8251 (some (8, 9, 0)) none)))) (zH k 9243 (zH k 9237 (zH k 9231 (zE k 9225 (some (9, 4, 2)) none) (zE k 9231 (some (2, 0, 0)) none)) (zH k 9240 (zE k 9237 (some (9, 0, 0)) none) (zE k 9240 (some (2, 1, 0)) none))) (zH k 9253 (zH k 9244 (zE k 9243 (some (9, 1, 0)) none) (zE k 9244 (some (9, 2, 0)) none)) (zH k 9260 (zE k 9253 (some (9, 3, 0)) none) (zE k 9260 (some (2, 10, 0)) none)))))))) (zH k 12374 (zH k 11526 (zH k 11373 (zH k 11315 (zH k 11285 (zH k 9266 (zE k 9263 (some (2, 6, 0)) none) (zH k 11276 (zE k 9266 (some (2, 7, 2)) none) (zE k 11276 (some (10, 0, 2)) none))) (zH k 11301 (zH k 11294 (zE k 11285 (some (10, 1, 2)) none) (zE k 11294 (some (10, 2, 2)) none)) (zH k 11308 (zE k 11301 (some (10, 3, 2)) none) (zE k 11308 (some (10, 4, 2)) none)))) (zH k 11335 (zH k 11322 (zE k 11315 (some (10, 5, 2)) none) (zH k 11331 (zE k 11322 (some (10, 6, 2)) none) (zE k 11331 (some (10, 7, 3)) none))) (zH k 11363 (zH k 11338 (zE k 11335 (some (10, 8, 3)) none) (zE k 11338 (some (10, 9, 0)) none)) (zH k 11367 (zE k 11363 (some (4, 5, 2)) none) (zE k 11367 (some (4, 6, 2)) none))))) (zH k 11494 (zH k 11424 (zH k 11388 (zE k 11373 (some (0, 1, 2)) none) (zH k 11393 (zE k 11388 (some (2, 3, 0)) none) (zE k 11393 (some (2, 11, 0)) none))) (zH k 11477 (zH k 11457 (zE k 11424 (some (6, 1, 0)) none) (zE k 11457 (some (5, 5, 0)) none)) (zH k 11484 (zE k 11477 (some (8, 8, 2)) none) (zE k 11484 (some (8, 1, 0)) none)))) (zH k 11509 (zH k 11500 (zE k 11494 (some (2, 2, 0)) none) (zH k 11503 (zE k 11500 (some (2, 5, 0)) none) (zE k 11503 (some (2, 4, 2)) none))) (zH k 11518 (zH k 11515 (zE k 11509 (some (4, 7, 2)) none) (zE k 11515 (some (4, 0, 0)) none)) (zH k 11525 (zE k 11518 (some (0, 3, 0)) none) (zE k 11525 (some (1, 0, 0)) none)))))) (zH k 12332 (zH k 12310 (zH k 12295 (zH k 11529 (zE k 11526 (some (1, 5, 0)) none) (zH k 11531 (zE k 11529 (some (7, 2, 0)) none) (zE k 11531 (some (7, 8, 0)) none))) (zH k 12304 (zH k 12301 (zE k 12295 (some (11, 3, 2)) none) (zE k 12301 (some (11, 4, 2)) none)) (zH k 12307 (zE k 12304 (some (11, 5, 2)) none) (zE k 12307 (some (11, 6, 2)) none)))) (zH k 12320 (zH k 12313 (zE k 12310 (some (11, 7, 2)) none) (zH k 12316 (zE k 12313 (some (11, 8, 2)) none) (zE k 12316 (some (11, 9, 2)) none))) (zH k 12326 (zH k 12323 (zE k 12320 (some (11, 10, 2)) none) (zE k 12323 (some (11, 12, 2)) none)) (zH k 12329 (zE k 12326 (some (11, 13, 2)) none) (zE k 12329 (some (11, 14, 2)) none))))) (zH k 12353 (zH k 12341 (zH k 12335 (zE k 12332 (some (11, 15, 2)) none) (zH k 12338 (zE k 12335 (some (11, 16, 2)) none) (zE k 12338 (some (11, 17, 2)) none))) (zH k 12347 (zH k 12344 (zE k 12341 (some (11, 18, 2)) none) (zE k 12344 (some (11, 19, 2)) none)) (zH k 12350 (zE k 12347 (some (11, 20, 2)) none) (zE k 12350 (some (11, 21, 2)) none)))) (zH k 12362 (zH k 12356 (zE k 12353 (some (11, 22, 2)) none) (zH k 12359 (zE k 12356 (some (11, 23, 2)) none) (zE k 12359 (some (11, 24, 2)) none))) (zH k 12368 (zH k 12365 (zE k 12362 (some (11, 25, 2)) none) (zE k 12365 (some (11, 26, 2)) none)) (zH k 12371 (zE k 12368 (some (11, 28, 2)) none) (zE k 12371 (some (11, 29, 2)) none))))))) (zH k 12459 (zH k 12417 (zH k 12395 (zH k 12383 (zH k 12377 (zE k 12374 (some (11, 30, 2)) none) (zH k 12380 (zE k 12377 (some (11, 31, 2)) none) (zE k 12380 (some (11, 33, 2)) none))) (zH k 12389 (zH k 12386 (zE k 12383 (some (11, 34, 2)) none) (zE k 12386 (some (11, 35, 2)) none)) (zH k 12392 (zE k 12389 (some (11, 37, 2)) none) (zE k 12392 (some (11, 45, 2)) none)))) (zH k 12404 (zH k 12398 (zE k 12395 (some (11, 46, 2)) none) (zH k 12401 (zE k 12398 (some (11, 47, 2)) none) (zE k 12401 (some (11, 48, 2)) none))) (zH k 12410 (zH k 12407 (zE k 12404 (some (11, 49, 2)) none) (zE k 12407 (some (11, 50, 2)) none)) (zH k 12413 (zE k 12410 (some (11, 51, 2)) none) (zE k 12413 (some (11, 52, 2)) none))))) (zH k 12438 (zH k 12426 (zH k 12420 (zE k 12417 (some (11, 53, 2)) none) (zH k 12423 (zE k 12420 (some (11, 55, 2)) none) (zE k 12423 (some (11, 56, 2)) none))) (zH k 12432 (zH k 12429 (zE k 12426 (some (11, 57, 2)) none) (zE k 12429 (some (11, 58, 2)) none)) (zH k 12435 (zE k 12432 (some (11, 59, 2)) none) (zE k 12435 (some (11, 60, 2)) none)))) (zH k 12447 (zH k 12441 (zE k 12438 (some (11, 61, 2)) none) (zH k 12444 (zE k 12441 (some (11, 62, 2)) none) (zE k 12444 (some (11, 63, 2)) none))) (zH k 12453 (zH k 12450 (zE k 12447 (some (11, 64, 2)) none) (zE k 12450 (some (11, 65, 2)) none)) (zH k 12456 (zE k 12453 (some (11, 66, 2)) none) (zE k 12456 (some (11, 67, 2)) none)))))) (zH k 12552 (zH k 12480 (zH k 12468 (zH k 12462 (zE k 12459 (some (11, 69, 2)) none) (zH k 12465 (zE k 12462 (some (11, 70, 2)) none) (zE k 12465 (some (11, 71, 2)) none))) (zH k 12474 (zH k 12471 (zE k 12468 (some (11, 73, 2)) none) (zE k 12471 (some (11, 74, 2)) none)) (zH k 12477 (zE k 12474 (some (11, 76, 2)) none) (zE k 12477 (some (11, 77, 2)) none)))) (zH k 12489 (zH k 12483 (zE k 12480 (some (11, 78, 2)) none) (zH k 12486 (zE k 12483 (some (11, 79, 2)) none) (zE k 12486 (some (11, 80, 2)) none))) (zH k 12504 (zH k 12493 (zE k 12489 (some (11, 0, 0)) none) (zE k 12493 (some (11, 2, 0)) none)) (zH k 12508 (zE k 12504 (some (11, 11, 0)) none) (zE k 12508 (some (11, 1, 0)) none))))) (zH k 12580 (zH k 12567 (zH k 12556 (zE k 12552 (some (11, 27, 0)) none) (zH k 12564 (zE k 12556 (some (11, 32, 0)) none) (zE k 12564 (some (11, 36, 0)) none))) (zH k 12573 (zH k 12570 (zE k 12567 (some (11, 38, 0)) none) (zE k 12570 (some (11, 39, 0)) none)) (zH k 12576 (zE k 12573 (some (11, 40, 0)) none) (zE k 12576 (some (11, 42, 1)) none)))) (zH k 12671 (zH k 12593 (zH k 12583 (zE k 12580 (some (11, 43, 0)) none) (zE k 12583 (some (11, 41, 0)) none)) (zH k 12596 (zE k 12593 (some (11, 44, 0)) none) (zE k 12596 (some (11, 54, 0)) none))) (zH k 12735 (zH k 12694 (zE k 12671 (some (11, 68, 0)) none) (zE k 12694 (some (11, 72, 0)) none)) (zH k 12740 (zE k 12735 (some (11, 75, 0)) none) (zE k 12740 (some (11, 81, 0)) none)))))))))
def zfld (oc n : Nat) : Option (Nat × Nat × Nat) := zfldk (oc * 1024 + n)
def znewat (mi pc : Nat) : Bool := Nat.beq mi 0 && Nat.beq pc 70
def zsg (mi : Nat) : Option Nat := (zH mi 106 (zH mi 53 (zH mi 26 (zH mi 13 (zH mi 6 (zH mi 3 (zH mi 1 (zE mi 0 (some 0) none) (zH mi 2 (zE mi 1 (some 0) none) (zE mi 2 (some 0) none))) (zH mi 4 (zE mi 3 (some 0) none) (zH mi 5 (zE mi 4 (some 0) none) (zE mi 5 (some 0) none)))) (zH mi 9 (zH mi 7 (zE mi 6 (some 0) none) (zH mi 8 (zE mi 7 (some 0) none) (zE mi 8 (some 0) none))) (zH mi 11 (zH mi 10 (zE mi 9 (some 0) none) (zE mi 10 (some 0) none)) (zH mi 12 (zE mi 11 (some 0) none) (zE mi 12 (some 0) none))))) (zH mi 19 (zH mi 16 (zH mi 14 (zE mi 13 (some 0) none) (zH mi 15 (zE mi 14 (some 1) none) (zE mi 15 (some 1) none))) (zH mi 17 (zE mi 16 (some 1) none) (zH mi 18 (zE mi 17 (some 1) none) (zE mi 18 (some 1) none)))) (zH mi 22 (zH mi 20 (zE mi 19 (some 2) none) (zH mi 21 (zE mi 20 (some 2) none) (zE mi 21 (some 2) none))) (zH mi 24 (zH mi 23 (zE mi 22 (some 2) none) (zE mi 23 (some 2) none)) (zH mi 25 (zE mi 24 (some 3) none) (zE mi 25 (some 3) none)))))) (zH mi 39 (zH mi 32 (zH mi 29 (zH mi 27 (zE mi 26 (some 3) none) (zH mi 28 (zE mi 27 (some 3) none) (zE mi 28 (some 3) none))) (zH mi 30 (zE mi 29 none none) (zH mi 31 (zE mi 30 (some 4) none) (zE mi 31 (some 4) none)))) (zH mi 35 (zH mi 33 (zE mi 32 (some 4) none) (zH mi 34 (zE mi 33 (some 4) none) (zE mi 34 (some 4) none))) (zH mi 37 (zH mi 36 (zE mi 35 (some 4) none) (zE mi 36 (some 4) none)) (zH mi 38 (zE mi 37 (some 4) none) (zE mi 38 (some 4) none))))) (zH mi 46 (zH mi 42 (zH mi 40 (zE mi 39 (some 4) none) (zH mi 41 (zE mi 40 none none) (zE mi 41 (some 4) none))) (zH mi 44 (zH mi 43 (zE mi 42 (some 4) none) (zE mi 43 (some 4) none)) (zH mi 45 (zE mi 44 (some 4) none) (zE mi 45 (some 4) none)))) (zH mi 49 (zH mi 47 (zE mi 46 (some 4) none) (zH mi 48 (zE mi 47 (some 4) none) (zE mi 48 (some 5) none))) (zH mi 51 (zH mi 50 (zE mi 49 none none) (zE mi 50 (some 5) none)) (zH mi 52 (zE mi 51 (some 5) none) (zE mi 52 (some 5) none))))))) (zH mi 79 (zH mi 66 (zH mi 59 (zH mi 56 (zH mi 54 (zE mi 53 (some 5) none) (zH mi 55 (zE mi 54 (some 5) none) (zE mi 55 (some 6) none))) (zH mi 57 (zE mi 56 (some 6) none) (zH mi 58 (zE mi 57 (some 6) none) (zE mi 58 (some 6) none)))) (zH mi 62 (zH mi 60 (zE mi 59 (some 6) none) (zH mi 61 (zE mi 60 (some 6) none) (zE mi 61 (some 6) none))) (zH mi 64 (zH mi 63 (zE mi 62 (some 6) none) (zE mi 63 (some 6) none)) (zH mi 65 (zE mi 64 (some 6) none) (zE mi 65 (some 6) none))))) (zH mi 72 (zH mi 69 (zH mi 67 (zE mi 66 (some 6) none) (zH mi 68 (zE mi 67 (some 6) none) (zE mi 68 (some 7) none))) (zH mi 70 (zE mi 69 (some 7) none) (zH mi 71 (zE mi 70 (some 7) none) (zE mi 71 (some 7) none)))) (zH mi 75 (zH mi 73 (zE mi 72 (some 7) none) (zH mi 74 (zE mi 73 (some 7) none) (zE mi 74 (some 7) none))) (zH mi 77 (zH mi 76 (zE mi 75 (some 7) none) (zE mi 76 (some 7) none)) (zH mi 78 (zE mi 77 (some 7) none) (zE mi 78 (some 7) none)))))) (zH mi 92 (zH mi 85 (zH mi 82 (zH mi 80 (zE mi 79 (some 7) none) (zH mi 81 (zE mi 80 (some 7) none) (zE mi 81 (some 7) none))) (zH mi 83 (zE mi 82 (some 7) none) (zH mi 84 (zE mi 83 (some 7) none) (zE mi 84 (some 7) none)))) (zH mi 88 (zH mi 86 (zE mi 85 (some 7) none) (zH mi 87 (zE mi 86 none none) (zE mi 87 (some 8) none))) (zH mi 90 (zH mi 89 (zE mi 88 (some 8) none) (zE mi 89 (some 8) none)) (zH mi 91 (zE mi 90 (some 8) none) (zE mi 91 (some 8) none))))) (zH mi 99 (zH mi 95 (zH mi 93 (zE mi 92 (some 8) none) (zH mi 94 (zE mi 93 (some 8) none) (zE mi 94 (some 8) none))) (zH mi 97 (zH mi 96 (zE mi 95 (some 8) none) (zE mi 96 (some 9) none)) (zH mi 98 (zE mi 97 (some 9) none) (zE mi 98 (some 9) none)))) (zH mi 102 (zH mi 100 (zE mi 99 (some 9) none) (zH mi 101 (zE mi 100 (some 10) none) (zE mi 101 (some 10) none))) (zH mi 104 (zH mi 103 (zE mi 102 (some 10) none) (zE mi 103 (some 10) none)) (zH mi 105 (zE mi 104 (some 10) none) (zE mi 105 (some 10) none)))))))) (zH mi 159 (zH mi 132 (zH mi 119 (zH mi 112 (zH mi 109 (zH mi 107 (zE mi 106 (some 10) none) (zH mi 108 (zE mi 107 (some 10) none) (zE mi 108 (some 10) none))) (zH mi 110 (zE mi 109 (some 10) none) (zH mi 111 (zE mi 110 (some 10) none) (zE mi 111 (some 10) none)))) (zH mi 115 (zH mi 113 (zE mi 112 (some 10) none) (zH mi 114 (zE mi 113 (some 10) none) (zE mi 114 (some 10) none))) (zH mi 117 (zH mi 116 (zE mi 115 (some 10) none) (zE mi 116 (some 10) none)) (zH mi 118 (zE mi 117 (some 10) none) (zE mi 118 (some 10) none))))) (zH mi 125 (zH mi 122 (zH mi 120 (zE mi 119 (some 10) none) (zH mi 121 (zE mi 120 (some 10) none) (zE mi 121 (some 10) none))) (zH mi 123 (zE mi 122 (some 10) none) (zH mi 124 (zE mi 123 (some 10) none) (zE mi 124 (some 10) none)))) (zH mi 128 (zH mi 126 (zE mi 125 (some 10) none) (zH mi 127 (zE mi 126 (some 10) none) (zE mi 127 (some 10) none))) (zH mi 130 (zH mi 129 (zE mi 128 (some 10) none) (zE mi 129 (some 10) none)) (zH mi 131 (zE mi 130 (some 10) none) (zE mi 131 (some 10) none)))))) (zH mi 145 (zH mi 138 (zH mi 135 (zH mi 133 (zE mi 132 none none) (zH mi 134 (zE mi 133 (some 11) none) (zE mi 134 none none))) (zH mi 136 (zE mi 135 (some 11) none) (zH mi 137 (zE mi 136 (some 11) none) (zE mi 137 (some 11) none)))) (zH mi 141 (zH mi 139 (zE mi 138 (some 11) none) (zH mi 140 (zE mi 139 (some 11) none) (zE mi 140 (some 11) none))) (zH mi 143 (zH mi 142 (zE mi 141 none none) (zE mi 142 (some 11) none)) (zH mi 144 (zE mi 143 (some 11) none) (zE mi 144 (some 11) none))))) (zH mi 152 (zH mi 148 (zH mi 146 (zE mi 145 (some 11) none) (zH mi 147 (zE mi 146 (some 11) none) (zE mi 147 (some 11) none))) (zH mi 150 (zH mi 149 (zE mi 148 (some 11) none) (zE mi 149 (some 11) none)) (zH mi 151 (zE mi 150 (some 11) none) (zE mi 151 (some 11) none)))) (zH mi 155 (zH mi 153 (zE mi 152 (some 11) none) (zH mi 154 (zE mi 153 (some 11) none) (zE mi 154 (some 11) none))) (zH mi 157 (zH mi 156 (zE mi 155 (some 11) none) (zE mi 156 (some 11) none)) (zH mi 158 (zE mi 157 (some 11) none) (zE mi 158 (some 11) none))))))) (zH mi 186 (zH mi 172 (zH mi 165 (zH mi 162 (zH mi 160 (zE mi 159 (some 11) none) (zH mi 161 (zE mi 160 (some 11) none) (zE mi 161 (some 11) none))) (zH mi 163 (zE mi 162 (some 11) none) (zH mi 164 (zE mi 163 (some 11) none) (zE mi 164 (some 11) none)))) (zH mi 168 (zH mi 166 (zE mi 165 (some 11) none) (zH mi 167 (zE mi 166 (some 11) none) (zE mi 167 (some 11) none))) (zH mi 170 (zH mi 169 (zE mi 168 (some 11) none) (zE mi 169 (some 11) none)) (zH mi 171 (zE mi 170 (some 11) none) (zE mi 171 (some 11) none))))) (zH mi 179 (zH mi 175 (zH mi 173 (zE mi 172 (some 11) none) (zH mi 174 (zE mi 173 (some 11) none) (zE mi 174 (some 11) none))) (zH mi 177 (zH mi 176 (zE mi 175 (some 11) none) (zE mi 176 (some 11) none)) (zH mi 178 (zE mi 177 (some 11) none) (zE mi 178 (some 11) none)))) (zH mi 182 (zH mi 180 (zE mi 179 (some 11) none) (zH mi 181 (zE mi 180 (some 11) none) (zE mi 181 none none))) (zH mi 184 (zH mi 183 (zE mi 182 (some 11) none) (zE mi 183 (some 11) none)) (zH mi 185 (zE mi 184 (some 11) none) (zE mi 185 (some 11) none)))))) (zH mi 199 (zH mi 192 (zH mi 189 (zH mi 187 (zE mi 186 (some 11) none) (zH mi 188 (zE mi 187 (some 11) none) (zE mi 188 (some 11) none))) (zH mi 190 (zE mi 189 (some 11) none) (zH mi 191 (zE mi 190 (some 11) none) (zE mi 191 (some 11) none)))) (zH mi 195 (zH mi 193 (zE mi 192 (some 11) none) (zH mi 194 (zE mi 193 (some 11) none) (zE mi 194 (some 11) none))) (zH mi 197 (zH mi 196 (zE mi 195 none none) (zE mi 196 (some 11) none)) (zH mi 198 (zE mi 197 (some 11) none) (zE mi 198 (some 11) none))))) (zH mi 206 (zH mi 202 (zH mi 200 (zE mi 199 (some 11) none) (zH mi 201 (zE mi 200 (some 11) none) (zE mi 201 (some 11) none))) (zH mi 204 (zH mi 203 (zE mi 202 (some 11) none) (zE mi 203 (some 11) none)) (zH mi 205 (zE mi 204 (some 11) none) (zE mi 205 (some 11) none)))) (zH mi 209 (zH mi 207 (zE mi 206 (some 11) none) (zH mi 208 (zE mi 207 (some 11) none) (zE mi 208 (some 11) none))) (zH mi 211 (zH mi 210 (zE mi 209 (some 11) none) (zE mi 210 (some 11) none)) (zH mi 212 (zE mi 211 (some 11) none) (zE mi 212 none none)))))))))
def zrz (mi : Nat) : Bool := (zH mi 106 (zH mi 53 (zH mi 26 (zH mi 13 (zH mi 6 (zH mi 3 (zH mi 1 (zE mi 0 false false) (zH mi 2 (zE mi 1 true false) (zE mi 2 true false))) (zH mi 4 (zE mi 3 true false) (zH mi 5 (zE mi 4 false false) (zE mi 5 false false)))) (zH mi 9 (zH mi 7 (zE mi 6 false false) (zH mi 8 (zE mi 7 false false) (zE mi 8 false false))) (zH mi 11 (zH mi 10 (zE mi 9 false false) (zE mi 10 false false)) (zH mi 12 (zE mi 11 false false) (zE mi 12 false false))))) (zH mi 19 (zH mi 16 (zH mi 14 (zE mi 13 false false) (zH mi 15 (zE mi 14 false false) (zE mi 15 true false))) (zH mi 17 (zE mi 16 false false) (zH mi 18 (zE mi 17 false false) (zE mi 18 false false)))) (zH mi 22 (zH mi 20 (zE mi 19 false false) (zH mi 21 (zE mi 20 false false) (zE mi 21 false false))) (zH mi 24 (zH mi 23 (zE mi 22 false false) (zE mi 23 false false)) (zH mi 25 (zE mi 24 true false) (zE mi 25 false false)))))) (zH mi 39 (zH mi 32 (zH mi 29 (zH mi 27 (zE mi 26 true false) (zH mi 28 (zE mi 27 false false) (zE mi 28 false false))) (zH mi 30 (zE mi 29 false false) (zH mi 31 (zE mi 30 false false) (zE mi 31 true false)))) (zH mi 35 (zH mi 33 (zE mi 32 true false) (zH mi 34 (zE mi 33 true false) (zE mi 34 true false))) (zH mi 37 (zH mi 36 (zE mi 35 true false) (zE mi 36 true false)) (zH mi 38 (zE mi 37 true false) (zE mi 38 true false))))) (zH mi 46 (zH mi 42 (zH mi 40 (zE mi 39 false false) (zH mi 41 (zE mi 40 false false) (zE mi 41 false false))) (zH mi 44 (zH mi 43 (zE mi 42 false false) (zE mi 43 true false)) (zH mi 45 (zE mi 44 true false) (zE mi 45 true false)))) (zH mi 49 (zH mi 47 (zE mi 46 false false) (zH mi 48 (zE mi 47 false false) (zE mi 48 false false))) (zH mi 51 (zH mi 50 (zE mi 49 true false) (zE mi 50 true false)) (zH mi 52 (zE mi 51 true false) (zE mi 52 true false))))))) (zH mi 79 (zH mi 66 (zH mi 59 (zH mi 56 (zH mi 54 (zE mi 53 true false) (zH mi 55 (zE mi 54 true false) (zE mi 55 false false))) (zH mi 57 (zE mi 56 false false) (zH mi 58 (zE mi 57 false false) (zE mi 58 false false)))) (zH mi 62 (zH mi 60 (zE mi 59 true false) (zH mi 61 (zE mi 60 true false) (zE mi 61 true false))) (zH mi 64 (zH mi 63 (zE mi 62 true false) (zE mi 63 true false)) (zH mi 65 (zE mi 64 false false) (zE mi 65 false false))))) (zH mi 72 (zH mi 69 (zH mi 67 (zE mi 66 false false) (zH mi 68 (zE mi 67 false false) (zE mi 68 false false))) (zH mi 70 (zE mi 69 true false) (zH mi 71 (zE mi 70 true false) (zE mi 71 true false)))) (zH mi 75 (zH mi 73 (zE mi 72 true false) (zH mi 74 (zE mi 73 true false) (zE mi 74 true false))) (zH mi 77 (zH mi 76 (zE mi 75 true false) (zE mi 76 false false)) (zH mi 78 (zE mi 77 true false) (zE mi 78 false false)))))) (zH mi 92 (zH mi 85 (zH mi 82 (zH mi 80 (zE mi 79 true false) (zH mi 81 (zE mi 80 true false) (zE mi 81 false false))) (zH mi 83 (zE mi 82 false false) (zH mi 84 (zE mi 83 false false) (zE mi 84 false false)))) (zH mi 88 (zH mi 86 (zE mi 85 false false) (zH mi 87 (zE mi 86 false false) (zE mi 87 false false))) (zH mi 90 (zH mi 89 (zE mi 88 false false) (zE mi 89 true false)) (zH mi 91 (zE mi 90 false false) (zE mi 91 false false))))) (zH mi 99 (zH mi 95 (zH mi 93 (zE mi 92 false false) (zH mi 94 (zE mi 93 true false) (zE mi 94 false false))) (zH mi 97 (zH mi 96 (zE mi 95 true false) (zE mi 96 false false)) (zH mi 98 (zE mi 97 false false) (zE mi 98 true false)))) (zH mi 102 (zH mi 100 (zE mi 99 true false) (zH mi 101 (zE mi 100 false false) (zE mi 101 false false))) (zH mi 104 (zH mi 103 (zE mi 102 true false) (zE mi 103 true false)) (zH mi 105 (zE mi 104 false false) (zE mi 105 true false)))))))) (zH mi 159 (zH mi 132 (zH mi 119 (zH mi 112 (zH mi 109 (zH mi 107 (zE mi 106 true false) (zH mi 108 (zE mi 107 false false) (zE mi 108 false false))) (zH mi 110 (zE mi 109 true false) (zH mi 111 (zE mi 110 false false) (zE mi 111 false false)))) (zH mi 115 (zH mi 113 (zE mi 112 false false) (zH mi 114 (zE mi 113 true false) (zE mi 114 false false))) (zH mi 117 (zH mi 116 (zE mi 115 false false) (zE mi 116 false false)) (zH mi 118 (zE mi 117 false false) (zE mi 118 false false))))) (zH mi 125 (zH mi 122 (zH mi 120 (zE mi 119 false false) (zH mi 121 (zE mi 120 false false) (zE mi 121 false false))) (zH mi 123 (zE mi 122 false false) (zH mi 124 (zE mi 123 false false) (zE mi 124 false false)))) (zH mi 128 (zH mi 126 (zE mi 125 false false) (zH mi 127 (zE mi 126 false false) (zE mi 127 false false))) (zH mi 130 (zH mi 129 (zE mi 128 false false) (zE mi 129 false false)) (zH mi 131 (zE mi 130 true false) (zE mi 131 true false)))))) (zH mi 145 (zH mi 138 (zH mi 135 (zH mi 133 (zE mi 132 false false) (zH mi 134 (zE mi 133 false false) (zE mi 134 true false))) (zH mi 136 (zE mi 135 true false) (zH mi 137 (zE mi 136 true false) (zE mi 137 true false)))) (zH mi 141 (zH mi 139 (zE mi 138 true false) (zH mi 140 (zE mi 139 false false) (zE mi 140 false false))) (zH mi 143 (zH mi 142 (zE mi 141 false false) (zE mi 142 true false)) (zH mi 144 (zE mi 143 true false) (zE mi 144 false false))))) (zH mi 152 (zH mi 148 (zH mi 146 (zE mi 145 false false) (zH mi 147 (zE mi 146 true false) (zE mi 147 true false))) (zH mi 150 (zH mi 149 (zE mi 148 true false) (zE mi 149 true false)) (zH mi 151 (zE mi 150 false false) (zE mi 151 false false)))) (zH mi 155 (zH mi 153 (zE mi 152 false false) (zH mi 154 (zE mi 153 false false) (zE mi 154 false false))) (zH mi 157 (zH mi 156 (zE mi 155 true false) (zE mi 156 false false)) (zH mi 158 (zE mi 157 true false) (zE mi 158 false false))))))) (zH mi 186 (zH mi 172 (zH mi 165 (zH mi 162 (zH mi 160 (zE mi 159 true false) (zH mi 161 (zE mi 160 false false) (zE mi 161 false false))) (zH mi 163 (zE mi 162 false false) (zH mi 164 (zE mi 163 false false) (zE mi 164 false false)))) (zH mi 168 (zH mi 166 (zE mi 165 true false) (zH mi 167 (zE mi 166 true false) (zE mi 167 true false))) (zH mi 170 (zH mi 169 (zE mi 168 false false) (zE mi 169 false false)) (zH mi 171 (zE mi 170 true false) (zE mi 171 false false))))) (zH mi 179 (zH mi 175 (zH mi 173 (zE mi 172 true false) (zH mi 174 (zE mi 173 true false) (zE mi 174 false false))) (zH mi 177 (zH mi 176 (zE mi 175 false false) (zE mi 176 false false)) (zH mi 178 (zE mi 177 false false) (zE mi 178 false false)))) (zH mi 182 (zH mi 180 (zE mi 179 false false) (zH mi 181 (zE mi 180 false false) (zE mi 181 false false))) (zH mi 184 (zH mi 183 (zE mi 182 false false) (zE mi 183 false false)) (zH mi 185 (zE mi 184 true false) (zE mi 185 false false)))))) (zH mi 199 (zH mi 192 (zH mi 189 (zH mi 187 (zE mi 186 false false) (zH mi 188 (zE mi 187 true false) (zE mi 188 false false))) (zH mi 190 (zE mi 189 false false) (zH mi 191 (zE mi 190 false false) (zE mi 191 true false)))) (zH mi 195 (zH mi 193 (zE mi 192 true false) (zH mi 194 (zE mi 193 true false) (zE mi 194 false false))) (zH mi 197 (zH mi 196 (zE mi 195 false false) (zE mi 196 false false)) (zH mi 198 (zE mi 197 true false) (zE mi 198 false false))))) (zH mi 206 (zH mi 202 (zH mi 200 (zE mi 199 false false) (zH mi 201 (zE mi 200 false false) (zE mi 201 true false))) (zH mi 204 (zH mi 203 (zE mi 202 false false) (zE mi 203 false false)) (zH mi 205 (zE mi 204 false false) (zE mi 205 false false)))) (zH mi 209 (zH mi 207 (zE mi 206 false false) (zH mi 208 (zE mi 207 false false) (zE mi 208 false false))) (zH mi 211 (zH mi 210 (zE mi 209 false false) (zE mi 210 false false)) (zH mi 212 (zE mi 211 false false) (zE mi 212 true false)))))))))
def zoc (mi : Nat) : Nat := (zH mi 106 (zH mi 53 (zH mi 26 (zH mi 13 (zH mi 6 (zH mi 3 (zH mi 1 (zE mi 0 0 99) (zH mi 2 (zE mi 1 0 99) (zE mi 2 0 99))) (zH mi 4 (zE mi 3 0 99) (zH mi 5 (zE mi 4 0 99) (zE mi 5 0 99)))) (zH mi 9 (zH mi 7 (zE mi 6 0 99) (zH mi 8 (zE mi 7 0 99) (zE mi 8 0 99))) (zH mi 11 (zH mi 10 (zE mi 9 0 99) (zE mi 10 0 99)) (zH mi 12 (zE mi 11 0 99) (zE mi 12 0 99))))) (zH mi 19 (zH mi 16 (zH mi 14 (zE mi 13 0 99) (zH mi 15 (zE mi 14 1 99) (zE mi 15 1 99))) (zH mi 17 (zE mi 16 1 99) (zH mi 18 (zE mi 17 1 99) (zE mi 18 1 99)))) (zH mi 22 (zH mi 20 (zE mi 19 2 99) (zH mi 21 (zE mi 20 2 99) (zE mi 21 2 99))) (zH mi 24 (zH mi 23 (zE mi 22 2 99) (zE mi 23 2 99)) (zH mi 25 (zE mi 24 3 99) (zE mi 25 3 99)))))) (zH mi 39 (zH mi 32 (zH mi 29 (zH mi 27 (zE mi 26 3 99) (zH mi 28 (zE mi 27 3 99) (zE mi 28 3 99))) (zH mi 30 (zE mi 29 3 99) (zH mi 31 (zE mi 30 4 99) (zE mi 31 4 99)))) (zH mi 35 (zH mi 33 (zE mi 32 4 99) (zH mi 34 (zE mi 33 4 99) (zE mi 34 4 99))) (zH mi 37 (zH mi 36 (zE mi 35 4 99) (zE mi 36 4 99)) (zH mi 38 (zE mi 37 4 99) (zE mi 38 4 99))))) (zH mi 46 (zH mi 42 (zH mi 40 (zE mi 39 4 99) (zH mi 41 (zE mi 40 4 99) (zE mi 41 4 99))) (zH mi 44 (zH mi 43 (zE mi 42 4 99) (zE mi 43 4 99)) (zH mi 45 (zE mi 44 4 99) (zE mi 45 4 99)))) (zH mi 49 (zH mi 47 (zE mi 46 4 99) (zH mi 48 (zE mi 47 4 99) (zE mi 48 5 99))) (zH mi 51 (zH mi 50 (zE mi 49 5 99) (zE mi 50 5 99)) (zH mi 52 (zE mi 51 5 99) (zE mi 52 5 99))))))) (zH mi 79 (zH mi 66 (zH mi 59 (zH mi 56 (zH mi 54 (zE mi 53 5 99) (zH mi 55 (zE mi 54 5 99) (zE mi 55 6 99))) (zH mi 57 (zE mi 56 6 99) (zH mi 58 (zE mi 57 6 99) (zE mi 58 6 99)))) (zH mi 62 (zH mi 60 (zE mi 59 6 99) (zH mi 61 (zE mi 60 6 99) (zE mi 61 6 99))) (zH mi 64 (zH mi 63 (zE mi 62 6 99) (zE mi 63 6 99)) (zH mi 65 (zE mi 64 6 99) (zE mi 65 6 99))))) (zH mi 72 (zH mi 69 (zH mi 67 (zE mi 66 6 99) (zH mi 68 (zE mi 67 6 99) (zE mi 68 7 99))) (zH mi 70 (zE mi 69 7 99) (zH mi 71 (zE mi 70 7 99) (zE mi 71 7 99)))) (zH mi 75 (zH mi 73 (zE mi 72 7 99) (zH mi 74 (zE mi 73 7 99) (zE mi 74 7 99))) (zH mi 77 (zH mi 76 (zE mi 75 7 99) (zE mi 76 7 99)) (zH mi 78 (zE mi 77 7 99) (zE mi 78 7 99)))))) (zH mi 92 (zH mi 85 (zH mi 82 (zH mi 80 (zE mi 79 7 99) (zH mi 81 (zE mi 80 7 99) (zE mi 81 7 99))) (zH mi 83 (zE mi 82 7 99) (zH mi 84 (zE mi 83 7 99) (zE mi 84 7 99)))) (zH mi 88 (zH mi 86 (zE mi 85 7 99) (zH mi 87 (zE mi 86 7 99) (zE mi 87 8 99))) (zH mi 90 (zH mi 89 (zE mi 88 8 99) (zE mi 89 8 99)) (zH mi 91 (zE mi 90 8 99) (zE mi 91 8 99))))) (zH mi 99 (zH mi 95 (zH mi 93 (zE mi 92 8 99) (zH mi 94 (zE mi 93 8 99) (zE mi 94 8 99))) (zH mi 97 (zH mi 96 (zE mi 95 8 99) (zE mi 96 9 99)) (zH mi 98 (zE mi 97 9 99) (zE mi 98 9 99)))) (zH mi 102 (zH mi 100 (zE mi 99 9 99) (zH mi 101 (zE mi 100 11 99) (zE mi 101 11 99))) (zH mi 104 (zH mi 103 (zE mi 102 11 99) (zE mi 103 11 99)) (zH mi 105 (zE mi 104 11 99) (zE mi 105 11 99)))))))) (zH mi 159 (zH mi 132 (zH mi 119 (zH mi 112 (zH mi 109 (zH mi 107 (zE mi 106 11 99) (zH mi 108 (zE mi 107 11 99) (zE mi 108 11 99))) (zH mi 110 (zE mi 109 11 99) (zH mi 111 (zE mi 110 11 99) (zE mi 111 11 99)))) (zH mi 115 (zH mi 113 (zE mi 112 11 99) (zH mi 114 (zE mi 113 11 99) (zE mi 114 11 99))) (zH mi 117 (zH mi 116 (zE mi 115 11 99) (zE mi 116 11 99)) (zH mi 118 (zE mi 117 11 99) (zE mi 118 11 99))))) (zH mi 125 (zH mi 122 (zH mi 120 (zE mi 119 11 99) (zH mi 121 (zE mi 120 11 99) (zE mi 121 11 99))) (zH mi 123 (zE mi 122 11 99) (zH mi 124 (zE mi 123 11 99) (zE mi 124 11 99)))) (zH mi 128 (zH mi 126 (zE mi 125 11 99) (zH mi 127 (zE mi 126 11 99) (zE mi 127 11 99))) (zH mi 130 (zH mi 129 (zE mi 128 11 99) (zE mi 129 11 99)) (zH mi 131 (zE mi 130 11 99) (zE mi 131 11 99)))))) (zH mi 145 (zH mi 138 (zH mi 135 (zH mi 133 (zE mi 132 11 99) (zH mi 134 (zE mi 133 12 99) (zE mi 134 12 99))) (zH mi 136 (zE mi 135 12 99) (zH mi 137 (zE mi 136 12 99) (zE mi 137 12 99)))) (zH mi 141 (zH mi 139 (zE mi 138 12 99) (zH mi 140 (zE mi 139 12 99) (zE mi 140 12 99))) (zH mi 143 (zH mi 142 (zE mi 141 12 99) (zE mi 142 12 99)) (zH mi 144 (zE mi 143 12 99) (zE mi 144 12 99))))) (zH mi 152 (zH mi 148 (zH mi 146 (zE mi 145 12 99) (zH mi 147 (zE mi 146 12 99) (zE mi 147 12 99))) (zH mi 150 (zH mi 149 (zE mi 148 12 99) (zE mi 149 12 99)) (zH mi 151 (zE mi 150 12 99) (zE mi 151 12 99)))) (zH mi 155 (zH mi 153 (zE mi 152 12 99) (zH mi 154 (zE mi 153 12 99) (zE mi 154 12 99))) (zH mi 157 (zH mi 156 (zE mi 155 12 99) (zE mi 156 12 99)) (zH mi 158 (zE mi 157 12 99) (zE mi 158 12 99))))))) (zH mi 186 (zH mi 172 (zH mi 165 (zH mi 162 (zH mi 160 (zE mi 159 12 99) (zH mi 161 (zE mi 160 12 99) (zE mi 161 12 99))) (zH mi 163 (zE mi 162 12 99) (zH mi 164 (zE mi 163 12 99) (zE mi 164 12 99)))) (zH mi 168 (zH mi 166 (zE mi 165 12 99) (zH mi 167 (zE mi 166 12 99) (zE mi 167 12 99))) (zH mi 170 (zH mi 169 (zE mi 168 12 99) (zE mi 169 12 99)) (zH mi 171 (zE mi 170 12 99) (zE mi 171 12 99))))) (zH mi 179 (zH mi 175 (zH mi 173 (zE mi 172 12 99) (zH mi 174 (zE mi 173 12 99) (zE mi 174 12 99))) (zH mi 177 (zH mi 176 (zE mi 175 12 99) (zE mi 176 12 99)) (zH mi 178 (zE mi 177 12 99) (zE mi 178 12 99)))) (zH mi 182 (zH mi 180 (zE mi 179 12 99) (zH mi 181 (zE mi 180 12 99) (zE mi 181 12 99))) (zH mi 184 (zH mi 183 (zE mi 182 12 99) (zE mi 183 12 99)) (zH mi 185 (zE mi 184 12 99) (zE mi 185 12 99)))))) (zH mi 199 (zH mi 192 (zH mi 189 (zH mi 187 (zE mi 186 12 99) (zH mi 188 (zE mi 187 12 99) (zE mi 188 12 99))) (zH mi 190 (zE mi 189 12 99) (zH mi 191 (zE mi 190 12 99) (zE mi 191 12 99)))) (zH mi 195 (zH mi 193 (zE mi 192 12 99) (zH mi 194 (zE mi 193 12 99) (zE mi 194 12 99))) (zH mi 197 (zH mi 196 (zE mi 195 12 99) (zE mi 196 12 99)) (zH mi 198 (zE mi 197 12 99) (zE mi 198 12 99))))) (zH mi 206 (zH mi 202 (zH mi 200 (zE mi 199 12 99) (zH mi 201 (zE mi 200 12 99) (zE mi 201 12 99))) (zH mi 204 (zH mi 203 (zE mi 202 12 99) (zE mi 203 12 99)) (zH mi 205 (zE mi 204 12 99) (zE mi 205 12 99)))) (zH mi 209 (zH mi 207 (zE mi 206 12 99) (zH mi 208 (zE mi 207 12 99) (zE mi 208 12 99))) (zH mi 211 (zH mi 210 (zE mi 209 12 99) (zE mi 210 12 99)) (zH mi 212 (zE mi 211 12 99) (zE mi 212 13 99)))))))))
def zmx (mi : Nat) : Nat := (zH mi 106 (zH mi 53 (zH mi 26 (zH mi 13 (zH mi 6 (zH mi 3 (zH mi 1 (zE mi 0 4 0) (zH mi 2 (zE mi 1 2 0) (zE mi 2 2 0))) (zH mi 4 (zE mi 3 2 0) (zH mi 5 (zE mi 4 3 0) (zE mi 5 4 0)))) (zH mi 9 (zH mi 7 (zE mi 6 4 0) (zH mi 8 (zE mi 7 4 0) (zE mi 8 4 0))) (zH mi 11 (zH mi 10 (zE mi 9 7 0) (zE mi 10 4 0)) (zH mi 12 (zE mi 11 6 0) (zE mi 12 2 0))))) (zH mi 19 (zH mi 16 (zH mi 14 (zE mi 13 4 0) (zH mi 15 (zE mi 14 5 0) (zE mi 15 4 0))) (zH mi 17 (zE mi 16 7 0) (zH mi 18 (zE mi 17 4 0) (zE mi 18 3 0)))) (zH mi 22 (zH mi 20 (zE mi 19 1 0) (zH mi 21 (zE mi 20 2 0) (zE mi 21 2 0))) (zH mi 24 (zH mi 23 (zE mi 22 2 0) (zE mi 23 1 0)) (zH mi 25 (zE mi 24 6 0) (zE mi 25 6 0)))))) (zH mi 39 (zH mi 32 (zH mi 29 (zH mi 27 (zE mi 26 7 0) (zH mi 28 (zE mi 27 7 0) (zE mi 28 5 0))) (zH mi 30 (zE mi 29 4 0) (zH mi 31 (zE mi 30 5 0) (zE mi 31 7 0)))) (zH mi 35 (zH mi 33 (zE mi 32 3 0) (zH mi 34 (zE mi 33 3 0) (zE mi 34 3 0))) (zH mi 37 (zH mi 36 (zE mi 35 3 0) (zE mi 36 2 0)) (zH mi 38 (zE mi 37 2 0) (zE mi 38 2 0))))) (zH mi 46 (zH mi 42 (zH mi 40 (zE mi 39 2 0) (zH mi 41 (zE mi 40 3 0) (zE mi 41 5 0))) (zH mi 44 (zH mi 43 (zE mi 42 6 0) (zE mi 43 2 0)) (zH mi 45 (zE mi 44 2 0) (zE mi 45 2 0)))) (zH mi 49 (zH mi 47 (zE mi 46 5 0) (zH mi 48 (zE mi 47 3 0) (zE mi 48 5 0))) (zH mi 51 (zH mi 50 (zE mi 49 2 0) (zE mi 50 3 0)) (zH mi 52 (zE mi 51 4 0) (zE mi 52 5 0))))))) (zH mi 79 (zH mi 66 (zH mi 59 (zH mi 56 (zH mi 54 (zE mi 53 5 0) (zH mi 55 (zE mi 54 2 0) (zE mi 55 6 0))) (zH mi 57 (zE mi 56 1 0) (zH mi 58 (zE mi 57 3 0) (zE mi 58 5 0)))) (zH mi 62 (zH mi 60 (zE mi 59 1 0) (zH mi 61 (zE mi 60 1 0) (zE mi 61 2 0))) (zH mi 64 (zH mi 63 (zE mi 62 2 0) (zE mi 63 1 0)) (zH mi 65 (zE mi 64 1 0) (zE mi 65 7 0))))) (zH mi 72 (zH mi 69 (zH mi 67 (zE mi 66 3 0) (zH mi 68 (zE mi 67 4 0) (zE mi 68 4 0))) (zH mi 70 (zE mi 69 1 0) (zH mi 71 (zE mi 70 3 0) (zE mi 71 1 0)))) (zH mi 75 (zH mi 73 (zE mi 72 2 0) (zH mi 74 (zE mi 73 2 0) (zE mi 74 2 0))) (zH mi 77 (zH mi 76 (zE mi 75 3 0) (zE mi 76 4 0)) (zH mi 78 (zE mi 77 6 0) (zE mi 78 2 0)))))) (zH mi 92 (zH mi 85 (zH mi 82 (zH mi 80 (zE mi 79 7 0) (zH mi 81 (zE mi 80 3 0) (zE mi 81 2 0))) (zH mi 83 (zE mi 82 9 0) (zH mi 84 (zE mi 83 5 0) (zE mi 84 6 0)))) (zH mi 88 (zH mi 86 (zE mi 85 2 0) (zH mi 87 (zE mi 86 3 0) (zE mi 87 5 0))) (zH mi 90 (zH mi 89 (zE mi 88 2 0) (zE mi 89 2 0)) (zH mi 91 (zE mi 90 3 0) (zE mi 91 6 0))))) (zH mi 99 (zH mi 95 (zH mi 93 (zE mi 92 3 0) (zH mi 94 (zE mi 93 5 0) (zE mi 94 4 0))) (zH mi 97 (zH mi 96 (zE mi 95 3 0) (zE mi 96 5 0)) (zH mi 98 (zE mi 97 2 0) (zE mi 98 2 0)))) (zH mi 102 (zH mi 100 (zE mi 99 5 0) (zH mi 101 (zE mi 100 2 0) (zE mi 101 4 0))) (zH mi 104 (zH mi 103 (zE mi 102 6 0) (zE mi 103 3 0)) (zH mi 105 (zE mi 104 4 0) (zE mi 105 3 0)))))))) (zH mi 159 (zH mi 132 (zH mi 119 (zH mi 112 (zH mi 109 (zH mi 107 (zE mi 106 3 0) (zH mi 108 (zE mi 107 2 0) (zE mi 108 3 0))) (zH mi 110 (zE mi 109 2 0) (zH mi 111 (zE mi 110 4 0) (zE mi 111 7 0)))) (zH mi 115 (zH mi 113 (zE mi 112 3 0) (zH mi 114 (zE mi 113 3 0) (zE mi 114 6 0))) (zH mi 117 (zH mi 116 (zE mi 115 5 0) (zE mi 116 7 0)) (zH mi 118 (zE mi 117 6 0) (zE mi 118 4 0))))) (zH mi 125 (zH mi 122 (zH mi 120 (zE mi 119 5 0) (zH mi 121 (zE mi 120 6 0) (zE mi 121 3 0))) (zH mi 123 (zE mi 122 2 0) (zH mi 124 (zE mi 123 2 0) (zE mi 124 4 0)))) (zH mi 128 (zH mi 126 (zE mi 125 3 0) (zH mi 127 (zE mi 126 2 0) (zE mi 127 3 0))) (zH mi 130 (zH mi 129 (zE mi 128 2 0) (zE mi 129 1 0)) (zH mi 131 (zE mi 130 4 0) (zE mi 131 8 0)))))) (zH mi 145 (zH mi 138 (zH mi 135 (zH mi 133 (zE mi 132 4 0) (zH mi 134 (zE mi 133 1 0) (zE mi 134 3 0))) (zH mi 136 (zE mi 135 2 0) (zH mi 137 (zE mi 136 2 0) (zE mi 137 2 0)))) (zH mi 141 (zH mi 139 (zE mi 138 2 0) (zH mi 140 (zE mi 139 2 0) (zE mi 140 4 0))) (zH mi 143 (zH mi 142 (zE mi 141 4 0) (zE mi 142 6 0)) (zH mi 144 (zE mi 143 3 0) (zE mi 144 4 0))))) (zH mi 152 (zH mi 148 (zH mi 146 (zE mi 145 4 0) (zH mi 147 (zE mi 146 3 0) (zE mi 147 3 0))) (zH mi 150 (zH mi 149 (zE mi 148 2 0) (zE mi 149 2 0)) (zH mi 151 (zE mi 150 3 0) (zE mi 151 7 0)))) (zH mi 155 (zH mi 153 (zE mi 152 3 0) (zH mi 154 (zE mi 153 3 0) (zE mi 154 2 0))) (zH mi 157 (zH mi 156 (zE mi 155 2 0) (zE mi 156 5 0)) (zH mi 158 (zE mi 157 2 0) (zE mi 158 4 0))))))) (zH mi 186 (zH mi 172 (zH mi 165 (zH mi 162 (zH mi 160 (zE mi 159 3 0) (zH mi 161 (zE mi 160 5 0) (zE mi 161 7 0))) (zH mi 163 (zE mi 162 11 0) (zH mi 164 (zE mi 163 2 0) (zE mi 164 2 0)))) (zH mi 168 (zH mi 166 (zE mi 165 3 0) (zH mi 167 (zE mi 166 2 0) (zE mi 167 2 0))) (zH mi 170 (zH mi 169 (zE mi 168 2 0) (zE mi 169 1 0)) (zH mi 171 (zE mi 170 1 0) (zE mi 171 2 0))))) (zH mi 179 (zH mi 175 (zH mi 173 (zE mi 172 8 0) (zH mi 174 (zE mi 173 5 0) (zE mi 174 2 0))) (zH mi 177 (zH mi 176 (zE mi 175 2 0) (zE mi 176 2 0)) (zH mi 178 (zE mi 177 3 0) (zE mi 178 6 0)))) (zH mi 182 (zH mi 180 (zE mi 179 9 0) (zH mi 181 (zE mi 180 2 0) (zE mi 181 5 0))) (zH mi 184 (zH mi 183 (zE mi 182 2 0) (zE mi 183 12 0)) (zH mi 185 (zE mi 184 4 0) (zE mi 185 5 0)))))) (zH mi 199 (zH mi 192 (zH mi 189 (zH mi 187 (zE mi 186 10 0) (zH mi 188 (zE mi 187 3 0) (zE mi 188 15 0))) (zH mi 190 (zE mi 189 2 0) (zH mi 191 (zE mi 190 2 0) (zE mi 191 5 0)))) (zH mi 195 (zH mi 193 (zE mi 192 7 0) (zH mi 194 (zE mi 193 11 0) (zE mi 194 6 0))) (zH mi 197 (zH mi 196 (zE mi 195 4 0) (zE mi 196 14 0)) (zH mi 198 (zE mi 197 4 0) (zE mi 198 4 0))))) (zH mi 206 (zH mi 202 (zH mi 200 (zE mi 199 6 0) (zH mi 201 (zE mi 200 6 0) (zE mi 201 5 0))) (zH mi 204 (zH mi 203 (zE mi 202 3 0) (zE mi 203 4 0)) (zH mi 205 (zE mi 204 3 0) (zE mi 205 2 0)))) (zH mi 209 (zH mi 207 (zE mi 206 2 0) (zH mi 208 (zE mi 207 3 0) (zE mi 208 3 0))) (zH mi 211 (zH mi 210 (zE mi 209 2 0) (zE mi 210 3 0)) (zH mi 212 (zE mi 211 4 0) (zE mi 212 7 0)))))))))
def zlook : Nat := 124
def zwv (i : Nat) : Int32 := bif Nat.blt i 6 then Int32.ofNat i else -1
def zten (k : Nat) : Int32 := (zH k 2 (zH k 1 (zE k 0 (1 : Int32) 0) (zE k 1 (10 : Int32) 0)) (zH k 3 (zE k 2 (100 : Int32) 0) (zH k 4 (zE k 3 (1000 : Int32) 0) (zE k 4 (10000 : Int32) 0))))
def zsl (i : Nat) : Nat := (zH i 7 (zH i 3 (zH i 1 (zE i 0 4 0) (zH i 2 (zE i 1 4 0) (zE i 2 3 0))) (zH i 5 (zH i 4 (zE i 3 6 0) (zE i 4 5 0)) (zH i 6 (zE i 5 4 0) (zE i 6 3 0)))) (zH i 10 (zH i 8 (zE i 7 4 0) (zH i 9 (zE i 8 4 0) (zE i 9 4 0))) (zH i 12 (zH i 11 (zE i 10 3 0) (zE i 11 2 0)) (zH i 13 (zE i 12 3 0) (zE i 13 8 0)))))
def zscw (i k : Nat) : Int32 := (zH (i * 16 + k) 98 (zH (i * 16 + k) 51 (zH (i * 16 + k) 19 (zH (i * 16 + k) 3 (zH (i * 16 + k) 1 (zE (i * 16 + k) 0 (122 : Int32) 0) (zH (i * 16 + k) 2 (zE (i * 16 + k) 1 (111 : Int32) 0) (zE (i * 16 + k) 2 (110 : Int32) 0))) (zH (i * 16 + k) 17 (zH (i * 16 + k) 16 (zE (i * 16 + k) 3 (101 : Int32) 0) (zE (i * 16 + k) 16 (104 : Int32) 0)) (zH (i * 16 + k) 18 (zE (i * 16 + k) 17 (111 : Int32) 0) (zE (i * 16 + k) 18 (117 : Int32) 0)))) (zH (i * 16 + k) 34 (zH (i * 16 + k) 32 (zE (i * 16 + k) 19 (114 : Int32) 0) (zH (i * 16 + k) 33 (zE (i * 16 + k) 32 (100 : Int32) 0) (zE (i * 16 + k) 33 (97 : Int32) 0))) (zH (i * 16 + k) 49 (zH (i * 16 + k) 48 (zE (i * 16 + k) 34 (121 : Int32) 0) (zE (i * 16 + k) 48 (108 : Int32) 0)) (zH (i * 16 + k) 50 (zE (i * 16 + k) 49 (97 : Int32) 0) (zE (i * 16 + k) 50 (115 : Int32) 0))))) (zH (i * 16 + k) 68 (zH (i * 16 + k) 64 (zH (i * 16 + k) 52 (zE (i * 16 + k) 51 (116 : Int32) 0) (zH (i * 16 + k) 53 (zE (i * 16 + k) 52 (101 : Int32) 0) (zE (i * 16 + k) 53 (100 : Int32) 0))) (zH (i * 16 + k) 66 (zH (i * 16 + k) 65 (zE (i * 16 + k) 64 (117 : Int32) 0) (zE (i * 16 + k) 65 (110 : Int32) 0)) (zH (i * 16 + k) 67 (zE (i * 16 + k) 66 (105 : Int32) 0) (zE (i * 16 + k) 67 (116 : Int32) 0)))) (zH (i * 16 + k) 82 (zH (i * 16 + k) 80 (zE (i * 16 + k) 68 (115 : Int32) 0) (zH (i * 16 + k) 81 (zE (i * 16 + k) 80 (108 : Int32) 0) (zE (i * 16 + k) 81 (105 : Int32) 0))) (zH (i * 16 + k) 96 (zH (i * 16 + k) 83 (zE (i * 16 + k) 82 (110 : Int32) 0) (zE (i * 16 + k) 83 (101 : Int32) 0)) (zH (i * 16 + k) 97 (zE (i * 16 + k) 96 (108 : Int32) 0) (zE (i * 16 + k) 97 (101 : Int32) 0)))))) (zH (i * 16 + k) 161 (zH (i * 16 + k) 130 (zH (i * 16 + k) 114 (zH (i * 16 + k) 112 (zE (i * 16 + k) 98 (116 : Int32) 0) (zH (i * 16 + k) 113 (zE (i * 16 + k) 112 (117 : Int32) 0) (zE (i * 16 + k) 113 (110 : Int32) 0))) (zH (i * 16 + k) 128 (zH (i * 16 + k) 115 (zE (i * 16 + k) 114 (105 : Int32) 0) (zE (i * 16 + k) 115 (116 : Int32) 0)) (zH (i * 16 + k) 129 (zE (i * 16 + k) 128 (101 : Int32) 0) (zE (i * 16 + k) 129 (97 : Int32) 0)))) (zH (i * 16 + k) 145 (zH (i * 16 + k) 131 (zE (i * 16 + k) 130 (99 : Int32) 0) (zH (i * 16 + k) 144 (zE (i * 16 + k) 131 (104 : Int32) 0) (zE (i * 16 + k) 144 (119 : Int32) 0))) (zH (i * 16 + k) 147 (zH (i * 16 + k) 146 (zE (i * 16 + k) 145 (104 : Int32) 0) (zE (i * 16 + k) 146 (101 : Int32) 0)) (zH (i * 16 + k) 160 (zE (i * 16 + k) 147 (110 : Int32) 0) (zE (i * 16 + k) 160 (97 : Int32) 0))))) (zH (i * 16 + k) 208 (zH (i * 16 + k) 177 (zH (i * 16 + k) 162 (zE (i * 16 + k) 161 (110 : Int32) 0) (zH (i * 16 + k) 176 (zE (i * 16 + k) 162 (100 : Int32) 0) (zE (i * 16 + k) 176 (111 : Int32) 0))) (zH (i * 16 + k) 193 (zH (i * 16 + k) 192 (zE (i * 16 + k) 177 (114 : Int32) 0) (zE (i * 16 + k) 192 (110 : Int32) 0)) (zH (i * 16 + k) 194 (zE (i * 16 + k) 193 (111 : Int32) 0) (zE (i * 16 + k) 194 (116 : Int32) 0)))) (zH (i * 16 + k) 212 (zH (i * 16 + k) 210 (zH (i * 16 + k) 209 (zE (i * 16 + k) 208 (40 : Int32) 0) (zE (i * 16 + k) 209 (41 : Int32) 0)) (zH (i * 16 + k) 211 (zE (i * 16 + k) 210 (60 : Int32) 0) (zE (i * 16 + k) 211 (61 : Int32) 0))) (zH (i * 16 + k) 214 (zH (i * 16 + k) 213 (zE (i * 16 + k) 212 (43 : Int32) 0) (zE (i * 16 + k) 213 (45 : Int32) 0)) (zH (i * 16 + k) 215 (zE (i * 16 + k) 214 (42 : Int32) 0) (zE (i * 16 + k) 215 (59 : Int32) 0)))))))
end
section
/-! The abstract machine: ids of cells are (tag, instance); ints, longs and references by (tag, instance, slot) -/
abbrev ZR : Type := Nat × Nat
abbrev ZV : Type := Int32 ⊕ (Int64 ⊕ Option ZR)
abbrev ZMp (α : Type) : Type := Nat → Nat → Nat → α
/-- ints, longs, references that are no final field's, lines made, cells made, slots made -/
abbrev ZS : Type := ZMp Int32 × ZMp Int64 × ZMp (Option ZR) × Nat × Nat × Nat
abbrev ZL : Type := List (Option ZV)
abbrev ZX : Type := Option ZV × ZS
abbrev ZF : Type := Nat × ZL × List ZV × ZS
abbrev zi (x : Int32) : ZV := .inl x
abbrev zl (x : Int64) : ZV := .inr (.inl x)
abbrev zo (o : Option ZR) : ZV := .inr (.inr o)
abbrev zr (t i : Nat) : ZV := .inr (.inr (some (t, i)))
def zu {α : Type} (f : ZMp α) (t i k : Nat) (v : α) : ZMp α := fun t' i' k' => if t' = t ∧ i' = i ∧ k' = k then v else f t' i' k'
def zin (x : Int32) (n : Nat) : Bool := decide (¬ (x < 0 ∨ n ≤ x.toNatClampNeg))
def zbl (x : Int32) : Bool := decide (x = 0 ∨ x = 1)
abbrev zx (x : Int32) : Nat := x.toNatClampNeg
/-- the length of an array by its tag; the script's stands in the ints -/
def zlen (t : Nat) (S : ZS) : Nat := bif Nat.beq t 16 then (S.1 16 1 0).toNatClampNeg else zaln t
def zmask : List Bool → ZL → ZL
  | [], l => l
  | _ :: _, [] => []
  | b :: bs, x :: xs => (bif b then x else none) :: zmask bs xs
/-- a truth value is 0 or 1 -/
def zgb {α : Type} (x : Int32) (k : Option α) : Option α := bif zbl x then k else none
def zunl (o : Option ZV) : Option ZV := match o with
  | some (.inr (.inl _)) => none
  | o => o
def zset : Nat → ZV → ZL → ZL
  | 0, v, _ :: r => some v :: r
  | 1, v, a :: _ :: r => zunl a :: some v :: r
  | n + 2, v, a :: r => a :: zset (n + 1) v r
  | _, _, l => l
def zsetl (n : Nat) (v : ZV) (l : ZL) : ZL := (zset n v l).set (n + 1) none
def zget : Nat → ZL → Option ZV
  | 0, x :: _ => x
  | n + 1, _ :: r => zget n r
  | _, [] => none
/-- a reference that must be of this tag -/
def zder {α : Type} (o : Option ZR) (t : Nat) (k : Nat → Option α) : Option α := match o with
  | some (t', i) => bif Nat.beq t' t then k i else none
  | none => none
abbrev zt (pc : Nat) (o : Int) : Nat := ((pc : Int) + o).toNat
def zpi {α : Type} (st : List ZV) (k : Int32 → List ZV → Option α) : Option α := match st with
  | .inl x :: r => k x r
  | _ => none
def zpl {α : Type} (st : List ZV) (k : Int64 → List ZV → Option α) : Option α := match st with
  | .inr (.inl x) :: r => k x r
  | _ => none
def zpo {α : Type} (st : List ZV) (k : Option ZR → List ZV → Option α) : Option α := match st with
  | .inr (.inr x) :: r => k x r
  | _ => none
/-- a reference that isn't null -/
def zpr {α : Type} (st : List ZV) (k : Nat → Nat → List ZV → Option α) : Option α := match st with
  | .inr (.inr (some (t, i))) :: r => k t i r
  | _ => none
def zli {α : Type} (n : Nat) (ls : ZL) (k : Int32 → Option α) : Option α := match zget n ls with
  | some (.inl x) => k x
  | _ => none
def zll {α : Type} (n : Nat) (ls : ZL) (k : Int64 → Option α) : Option α := match zget n ls with
  | some (.inr (.inl x)) => k x
  | _ => none
def zlo {α : Type} (n : Nat) (ls : ZL) (k : Option ZR → Option α) : Option α := match zget n ls with
  | some (.inr (.inr x)) => k x
  | _ => none
def zob {α β : Type} (o : Option β) (k : β → Option α) : Option α := match o with
  | some x => k x
  | none => none
/-- a cut, or the code -/
def zel {α β : Type} (o : Option β) (k : β → Option α) (n : Option α) : Option α := match o with
  | some x => k x
  | none => n
/-- a branch whose test nobody evaluates -/
noncomputable def zif {α : Type} (c : Prop) (a b : Option α) : Option α := @ite (Option α) c (Classical.propDecidable c) a b
theorem zif_pos {α : Type} {c : Prop} {a b : Option α} (h : c) : zif c a b = a := by unfold zif; exact @if_pos c (Classical.propDecidable c) h (Option α) a b
theorem zif_neg {α : Type} {c : Prop} {a b : Option α} (h : ¬ c) : zif c a b = b := by unfold zif; exact @if_neg c (Classical.propDecidable c) h (Option α) a b
theorem zif_if {α : Type} (c : Prop) [Decidable c] (a b : Option α) : zif c a b = if c then a else b := by
  by_cases h : c
  · rw [zif_pos h, if_pos h]
  · rw [zif_neg h, if_neg h]
noncomputable def zg {α : Type} (b : Bool) (k : Option α) : Option α := zif (b = true) k none
theorem zg_t {α : Type} {b : Bool} {k : Option α} (h : b = true) : zg b k = k := zif_pos h
theorem zg_f {α : Type} {b : Bool} {k : Option α} (h : b = false) : zg b k = none := zif_neg (by rw [h]; exact Bool.false_ne_true)
def zz (x : Int32) : Bool := decide (x = 0)
def zpop : Nat → List ZV → List ZV → Option (List ZV × List ZV)
  | 0, acc, r => some (acc, r)
  | n + 1, acc, x :: r => zpop n (x :: acc) r
  | _ + 1, _, [] => none
def zoi (r : ZX) : Option (Int32 × ZS) := match r with
  | (some (.inl x), S) => some (x, S)
  | _ => none
def zol (r : ZX) : Option (Int64 × ZS) := match r with
  | (some (.inr (.inl x)), S) => some (x, S)
  | _ => none
def zoo (r : ZX) : Option (Option ZR × ZS) := match r with
  | (some (.inr (.inr x)), S) => some (x, S)
  | _ => none
def zov (r : ZX) : Option ZS := match r with
  | (none, S) => some S
  | _ => none
/-- plain instructions -/
def zop (oc : Nat) (ins : Instr) (ls : ZL) (st : List ZV) (S : ZS) : Option (ZL × List ZV × ZS) := match ins with
  | .iload n => zli n ls (fun x => some (ls, .inl x :: st, S))
  | .iload_n n => zli n.val ls (fun x => some (ls, .inl x :: st, S))
  | .lload n => zll n ls (fun x => some (ls, .inr (.inl x) :: st, S))
  | .lload_n n => zll n.val ls (fun x => some (ls, .inr (.inl x) :: st, S))
  | .aload n => zlo n ls (fun x => some (ls, .inr (.inr x) :: st, S))
  | .aload_n n => zlo n.val ls (fun x => some (ls, .inr (.inr x) :: st, S))
  | .istore n => zpi st (fun x r => some (zset n (.inl x) ls, r, S))
  | .istore_n n => zpi st (fun x r => some (zset n.val (.inl x) ls, r, S))
  | .lstore n => zpl st (fun x r => some (zsetl n (.inr (.inl x)) ls, r, S))
  | .lstore_n n => zpl st (fun x r => some (zsetl n.val (.inr (.inl x)) ls, r, S))
  | .astore n => zpo st (fun x r => some (zset n (.inr (.inr x)) ls, r, S))
  | .astore_n n => zpo st (fun x r => some (zset n.val (.inr (.inr x)) ls, r, S))
  | .iinc n c => zli n ls (fun x => some (zset n (.inl (x + zcst c)) ls, st, S))
  | .iconst n => some (ls, .inl (zcst n) :: st, S)
  | .bipush n => some (ls, .inl (zcst n) :: st, S)
  | .sipush n => some (ls, .inl (zcst n) :: st, S)
  | .lconst n => some (ls, .inr (.inl (Int64.ofNat n.val)) :: st, S)
  | .aconst_null => some (ls, .inr (.inr none) :: st, S)
  | .ldc n => zob (zldc oc n) (fun v => match v with
    | .inl v => some (ls, .inl v :: st, S)
    | .inr i => some (ls, .inr (.inr (some (13, i))) :: st, S))
  | .ldc_w n => zob (zldc oc n) (fun v => match v with
    | .inl v => some (ls, .inl v :: st, S)
    | .inr _ => none)
  | .ldc2_w n => zob (zldl oc n) (fun v => some (ls, .inr (.inl v) :: st, S))
  | .dup => match st with
    | .inl x :: r => some (ls, .inl x :: .inl x :: r, S)
    | .inr (.inr x) :: r => some (ls, .inr (.inr x) :: .inr (.inr x) :: r, S)
    | _ => none
  | .dup2 => zpi st (fun x r => zpr r (fun t i r => some (ls, .inl x :: .inr (.inr (some (t, i))) :: .inl x :: .inr (.inr (some (t, i))) :: r, S)))
  | .pop => match st with
    | .inl _ :: r => some (ls, r, S)
    | .inr (.inr _) :: r => some (ls, r, S)
    | _ => none
  | .iadd => zpi st (fun y r => zpi r (fun x r => some (ls, .inl (x + y) :: r, S)))
  | .isub => zpi st (fun y r => zpi r (fun x r => some (ls, .inl (x - y) :: r, S)))
  | .imul => zpi st (fun y r => zpi r (fun x r => some (ls, .inl (x * y) :: r, S)))
  | .iand => zpi st (fun y r => zpi r (fun x r => some (ls, .inl (x &&& y) :: r, S)))
  | .ladd => zpl st (fun y r => zpl r (fun x r => some (ls, .inr (.inl (x + y)) :: r, S)))
  | .lsub => zpl st (fun y r => zpl r (fun x r => some (ls, .inr (.inl (x - y)) :: r, S)))
  | .lmul => zpl st (fun y r => zpl r (fun x r => some (ls, .inr (.inl (x * y)) :: r, S)))
  | .land => zpl st (fun y r => zpl r (fun x r => some (ls, .inr (.inl (x &&& y)) :: r, S)))
  | .lor => zpl st (fun y r => zpl r (fun x r => some (ls, .inr (.inl (x ||| y)) :: r, S)))
  | .lshl => zpi st (fun y r => zpl r (fun x r => some (ls, .inr (.inl (x <<< (y.toInt64 &&& 63))) :: r, S)))
  | .lushr => zpi st (fun y r => zpl r (fun x r => some (ls, .inr (.inl ((x.toUInt64 >>> (y.toInt64.toUInt64 &&& Int64.toUInt64 63)).toInt64)) :: r, S)))
  | .lcmp => zpl st (fun y r => zpl r (fun x r => some (ls, .inl (lg_cmp x y) :: r, S)))
  | .i2l => zpi st (fun x r => some (ls, .inr (.inl x.toInt64) :: r, S))
  | .l2i => zpl st (fun x r => some (ls, .inl x.toInt32 :: r, S))
  | .i2c => zpi st (fun x r => some (ls, .inl (x.toUInt32 % 65536).toInt32 :: r, S))
  | .getstatic n => zob (zsta oc n) (fun q => some (ls, .inr (.inr (some (q.1, q.2))) :: st, S))
  | .arraylength => zpr st (fun t _ r => some (ls, .inl (Int32.ofNat (zlen t S)) :: r, S))
  | _ => none
/-- a table switch's targets, one behind another -/
noncomputable def zsw {α : Type} (x : Int32) (k : Nat → Option α) (dflt : Nat) : List Nat → Int → Option α
  | [], _ => k dflt
  | t :: ts, lo => zif (x = zcst lo) (k t) (zsw x k dflt ts (lo + 1))
def zci (cl : Nat → List ZV → ZS → Option ZX) (mj : Nat) (args : List ZV) (S : ZS) : Option (Int32 × ZS) := (cl mj args S).bind zoi
def zcl (cl : Nat → List ZV → ZS → Option ZX) (mj : Nat) (args : List ZV) (S : ZS) : Option (Int64 × ZS) := (cl mj args S).bind zol
def zco (cl : Nat → List ZV → ZS → Option ZX) (mj : Nat) (args : List ZV) (S : ZS) : Option (Option ZR × ZS) := (cl mj args S).bind zoo
def zcv (cl : Nat → List ZV → ZS → Option ZX) (mj : Nat) (args : List ZV) (S : ZS) : Option ZS := (cl mj args S).bind zov
def zcal {α : Type} (cl : Nat → List ZV → ZS → Option ZX) (oc n : Nat) (st : List ZV) (S : ZS) (k : List ZV → ZS → Option α) : Option α :=
  zob (zmth oc n) (fun q => zob (zpop q.2.1 [] st) (fun w => bif Nat.ble w.2.length 4 then (match q.2.2 with
        | 0 => (zcv cl q.1 w.1 S).bind (fun S' => k w.2 S')
        | 1 => (zci cl q.1 w.1 S).bind (fun r => k (.inl r.1 :: w.2) r.2)
        | 2 => (zcl cl q.1 w.1 S).bind (fun r => k (.inr (.inl r.1) :: w.2) r.2)
        | _ => (zco cl q.1 w.1 S).bind (fun r => k (.inr (.inr r.1) :: w.2) r.2)) else none))
/-- a line that has just been made -/
def zline (f : ZMp Int32) (j : Nat) (ix home : Int32) : ZMp Int32 := fun t i k =>
  if t = 2 ∧ i = j then (if k = 0 then ix else if k = 1 then home else if k = 10 ∨ k = 11 then -1 else 0)
  else if (t = 29 ∨ t = 30) ∧ i = j then 0 else f t i k
noncomputable def zgo {α : Type} (cl : Nat → List ZV → ZS → Option ZX) (mi oc : Nat) (κ : Nat → ZL → List ZV → ZS → Option α) (ρ : Option ZV → ZS → Option α) : Nat → Bool → Nat → ZL → List ZV → ZS → Option α
  | 0, _, _, _, _, _ => none
  | j + 1, b, pc, ls, st, S =>
    zel (bif b then zcut mi pc else none) (fun ms => κ pc (zmask ms ls) st S) (zob (zcode mi pc) (fun c => match c with
      | (ins, len) => match ins with
        | .goto o => zgo cl mi oc κ ρ j true (zt pc o) ls st S
        | .ifCond c o => zpi st (fun x r => match c with
          | .eq => zif (x = 0) (zgo cl mi oc κ ρ j true (zt pc o) ls r S) (zgo cl mi oc κ ρ j true (pc + len) ls r S)
          | .ne => zif (x = 0) (zgo cl mi oc κ ρ j true (pc + len) ls r S) (zgo cl mi oc κ ρ j true (zt pc o) ls r S)
          | .lt => zif (x < 0) (zgo cl mi oc κ ρ j true (zt pc o) ls r S) (zgo cl mi oc κ ρ j true (pc + len) ls r S)
          | .ge => zif (0 ≤ x) (zgo cl mi oc κ ρ j true (zt pc o) ls r S) (zgo cl mi oc κ ρ j true (pc + len) ls r S)
          | .gt => zif (0 < x) (zgo cl mi oc κ ρ j true (zt pc o) ls r S) (zgo cl mi oc κ ρ j true (pc + len) ls r S)
          | .le => zif (x ≤ 0) (zgo cl mi oc κ ρ j true (zt pc o) ls r S) (zgo cl mi oc κ ρ j true (pc + len) ls r S))
        | .if_icmp c o => zpi st (fun y r => zpi r (fun x r => match c with
          | .eq => zif (x = y) (zgo cl mi oc κ ρ j true (zt pc o) ls r S) (zgo cl mi oc κ ρ j true (pc + len) ls r S)
          | .ne => zif (x = y) (zgo cl mi oc κ ρ j true (pc + len) ls r S) (zgo cl mi oc κ ρ j true (zt pc o) ls r S)
          | .lt => zif (x < y) (zgo cl mi oc κ ρ j true (zt pc o) ls r S) (zgo cl mi oc κ ρ j true (pc + len) ls r S)
          | .ge => zif (y ≤ x) (zgo cl mi oc κ ρ j true (zt pc o) ls r S) (zgo cl mi oc κ ρ j true (pc + len) ls r S)
          | .gt => zif (y < x) (zgo cl mi oc κ ρ j true (zt pc o) ls r S) (zgo cl mi oc κ ρ j true (pc + len) ls r S)
          | .le => zif (x ≤ y) (zgo cl mi oc κ ρ j true (zt pc o) ls r S) (zgo cl mi oc κ ρ j true (pc + len) ls r S)))
        | .if_acmp c o => zpo st (fun y r => zpo r (fun x r => match c with
          | .eq => zif (x = y) (zgo cl mi oc κ ρ j true (zt pc o) ls r S) (zgo cl mi oc κ ρ j true (pc + len) ls r S)
          | .ne => zif (x = y) (zgo cl mi oc κ ρ j true (pc + len) ls r S) (zgo cl mi oc κ ρ j true (zt pc o) ls r S)))
        | .ifnonnull o => zpo st (fun x r => zif (x = none) (zgo cl mi oc κ ρ j true (pc + len) ls r S) (zgo cl mi oc κ ρ j true (zt pc o) ls r S))
        | .tableswitch dflt lo _ offs => zpi st (fun x r => zsw x (fun p => zgo cl mi oc κ ρ j true p ls r S) (zt pc dflt) (offs.toList.map (zt pc)) lo)
        | .invokevirtual n => zcal cl oc n st S (fun st' S' => zgo cl mi oc κ ρ j true (pc + len) ls st' S')
        | .invokestatic n => zcal cl oc n st S (fun st' S' => zgo cl mi oc κ ρ j true (pc + len) ls st' S')
        | .invokespecial n => zcal cl oc n st S (fun st' S' => zgo cl mi oc κ ρ j true (pc + len) ls st' S')
        | .ireturn => zpi st (fun x r => bif r.isEmpty then (bif zrz mi then zgb x (ρ (some (.inl x)) S) else ρ (some (.inl x)) S) else none)
        | .lreturn => zpl st (fun x r => bif r.isEmpty then ρ (some (.inr (.inl x))) S else none)
        | .areturn => zpo st (fun x r => bif r.isEmpty then ρ (some (.inr (.inr x))) S else none)
        | .return_ => bif st.isEmpty then ρ none S else none
        | .new _ => bif znewat mi pc then zli 1 ls (fun home => zlo 0 ls (fun o => zder o 0 (fun i0 => zgo cl mi oc κ ρ j true (pc + 12) ls (.inr (.inr (some (2, S.2.2.2.1))) :: st) (zline S.1 S.2.2.2.1 (S.1 0 i0 3) home, S.2.1, S.2.2.1, S.2.2.2.1 + 1, S.2.2.2.2.1 + 3, S.2.2.2.2.2 + 114)))) else none
        | .idiv => zpi st (fun y r => zpi r (fun x r => bif zz y then none else zgo cl mi oc κ ρ j true (pc + len) ls (.inl (x / y) :: r) S))
        | .irem => zpi st (fun y r => zpi r (fun x r => bif zz y then none else zgo cl mi oc κ ρ j true (pc + len) ls (.inl (x - x / y * y) :: r) S))
        | .getfield n => zob (zfld oc n) (fun q => zpo st (fun o r => zder o q.1 (fun i => match q.2.2 with
          | 0 => zgo cl mi oc κ ρ j true (pc + len) ls (.inl (S.1 q.1 i q.2.1) :: r) S
          | 1 => zgo cl mi oc κ ρ j true (pc + len) ls (.inr (.inl (S.2.1 q.1 i q.2.1)) :: r) S
          | 2 => zgo cl mi oc κ ρ j true (pc + len) ls (.inr (.inr (zfin q.1 q.2.1 i)) :: r) S
          | 3 => zgo cl mi oc κ ρ j true (pc + len) ls (.inr (.inr (S.2.2.1 q.1 i q.2.1)) :: r) S
          | 4 => zgo cl mi oc κ ρ j true (pc + len) ls (.inl (S.1 q.1 i q.2.1) :: r) S
          | _ => zgo cl mi oc κ ρ j true (pc + len) ls (.inl (zwv i) :: r) S)))
        | .putfield n => zob (zfld oc n) (fun q => match q.2.2 with
          | 0 => zpi st (fun x r => zpo r (fun o r => zder o q.1 (fun i => zgo cl mi oc κ ρ j true (pc + len) ls r (zu S.1 q.1 i q.2.1 x, S.2))))
          | 1 => zpl st (fun x r => zpo r (fun o r => zder o q.1 (fun i => zgo cl mi oc κ ρ j true (pc + len) ls r (S.1, zu S.2.1 q.1 i q.2.1 x, S.2.2))))
          | 3 => zpo st (fun x r => zpo r (fun o r => zder o q.1 (fun i => zgo cl mi oc κ ρ j true (pc + len) ls r (S.1, S.2.1, zu S.2.2.1 q.1 i q.2.1 x, S.2.2.2))))
          | 4 => zpi st (fun x r => zpo r (fun o r => zder o q.1 (fun i => zg (zbl x) (zgo cl mi oc κ ρ j true (pc + len) ls r (zu S.1 q.1 i q.2.1 x, S.2)))))
          | _ => none)
        | .iaload => zpi st (fun x r => zpr r (fun t i r => bif Nat.beq (zaty t) 0 then zg (zin x (zlen t S)) (zgo cl mi oc κ ρ j true (pc + len) ls (.inl (S.1 t i (zx x)) :: r) S) else
          bif Nat.beq (zaty t) 6 then zg (zin x (zlen t S)) (zgo cl mi oc κ ρ j true (pc + len) ls (.inl (zten (zx x)) :: r) S) else none))
        | .baload => zpi st (fun x r => zpr r (fun t i r => bif Nat.beq (zaty t) 1 then zg (zin x (zlen t S)) (zgo cl mi oc κ ρ j true (pc + len) ls (.inl (S.1 t i (zx x)) :: r) S) else none))
        | .caload => zpi st (fun x r => zpr r (fun t i r => bif Nat.beq (zaty t) 2 then zg (zin x (zlen t S)) (zgo cl mi oc κ ρ j true (pc + len) ls (.inl (S.1 t i (zx x)) :: r) S) else none))
        | .laload => zpi st (fun x r => zpr r (fun t i r => bif Nat.beq (zaty t) 3 then zg (zin x (zlen t S)) (zgo cl mi oc κ ρ j true (pc + len) ls (.inr (.inl (S.2.1 t i (zx x))) :: r) S) else none))
        | .aaload => zpi st (fun x r => zpr r (fun t i r => bif Nat.beq (zaty t) 4 then zg (zin x (zlen t S)) (zgo cl mi oc κ ρ j true (pc + len) ls (.inr (.inr (S.2.2.1 t i (zx x))) :: r) S) else
          bif Nat.beq (zaty t) 5 then zg (zin x (zlen t S)) (zgo cl mi oc κ ρ j true (pc + len) ls (.inr (.inr (some (12, zx x))) :: r) S) else none))
        | .iastore => zpi st (fun v r => zpi r (fun x r => zpr r (fun t i r => bif Nat.beq (zaty t) 0 then zg (zin x (zlen t S)) (zgo cl mi oc κ ρ j true (pc + len) ls r (zu S.1 t i (zx x) v, S.2)) else none)))
        | .bastore => zpi st (fun v r => zpi r (fun x r => zpr r (fun t i r => bif Nat.beq (zaty t) 1 then zg (zin x (zlen t S)) (zg (zbl v) (zgo cl mi oc κ ρ j true (pc + len) ls r (zu S.1 t i (zx x) v, S.2))) else none)))
        | .castore => zpi st (fun v r => zpi r (fun x r => zpr r (fun t i r => bif Nat.beq (zaty t) 2 then zg (zin x (zlen t S)) (zgo cl mi oc κ ρ j true (pc + len) ls r (zu S.1 t i (zx x) (v.toUInt32 % 65536).toInt32, S.2)) else none)))
        | .lastore => zpl st (fun v r => zpi r (fun x r => zpr r (fun t i r => bif Nat.beq (zaty t) 3 then zg (zin x (zlen t S)) (zgo cl mi oc κ ρ j true (pc + len) ls r (S.1, zu S.2.1 t i (zx x) v, S.2.2)) else none)))
        | .aastore => zpo st (fun v r => zpi r (fun x r => zpr r (fun t i r => bif Nat.beq (zaty t) 4 then zg (zin x (zlen t S)) (zder v 2 (fun _ => zgo cl mi oc κ ρ j true (pc + len) ls r (S.1, S.2.1, zu S.2.2.1 t i (zx x) v, S.2.2.2))) else none)))
        | ins => zob (zop oc ins ls st S) (fun q => zgo cl mi oc κ ρ j true (pc + len) q.1 q.2.1 q.2.2)))
def zarg : List ZV → ZL
  | [] => []
  | .inr (.inl x) :: r => some (.inr (.inl x)) :: none :: zarg r
  | .inl x :: r => some (.inl x) :: zarg r
  | .inr (.inr x) :: r => some (.inr (.inr x)) :: zarg r
def zpad (n : Nat) (l : ZL) : ZL := l ++ List.replicate (n - l.length) none
def zrcv (t : Option Nat) (args : List ZV) : Bool := match t with
  | none => true
  | some t => match args with
    | .inr (.inr (some (t', _))) :: _ => Nat.beq t' t
    | _ => false
def zfill (f : ZMp Int32) (t i n : Nat) (v : Int32) : ZMp Int32 := fun t' i' k' => if t' = t ∧ i' = i ∧ k' < n then v else f t' i' k'
def zcpy (f : ZMp Int32) (t i sp t2 i2 dp n : Nat) : ZMp Int32 := fun t' i' k' => if t' = t2 ∧ i' = i2 ∧ dp ≤ k' ∧ k' < dp + n then f t i (sp + (k' - dp)) else f t' i' k'
/-- the first place of a sign among the signs of text i, from k on, n of them left -/
def zidx (i : Nat) (ch : Int32) : Nat → Nat → Int32
  | 0, _ => -1
  | n + 1, k => if zscw i k = ch then Int32.ofNat k else zidx i ch n (k + 1)
/-- methods that are no code of the machine: the JDK's, a line's constructor, the law's own look -/
noncomputable def zprim (cl : Nat → List ZV → ZS → Option ZX) (mj : Nat) (args : List ZV) (S : ZS) : Option ZX :=
  bif Nat.beq mj 1000 then (match args with
    | [.inl x, .inl y] => some (some (.inl (if x < y then y else x)), S)
    | _ => none) else
  bif Nat.beq mj 1001 then (match args with
    | [.inl x, .inl y] => some (some (.inl (if y < x then y else x)), S)
    | _ => none) else
  bif Nat.beq mj 1002 then (match args with
    | [.inr (.inr (some (t, i))), .inl v] => bif Nat.beq (zaty t) 0 then some (none, (zfill S.1 t i (zaln t) v, S.2)) else none
    | _ => none) else
  bif Nat.beq mj 1003 then (match args with
    | [.inr (.inr (some (t, i))), .inl sp, .inr (.inr (some (t2, i2))), .inl dp, .inl n] =>
      bif Nat.beq (zaty t) 0 && Nat.beq (zaty t2) 0 then zg (decide (¬ (t = t2 ∧ i = i2) ∧ 0 ≤ sp ∧ 0 ≤ dp ∧ 0 ≤ n ∧ zx sp + zx n ≤ zaln t ∧ zx dp + zx n ≤ zaln t2)) (some (none, (zcpy S.1 t i (zx sp) t2 i2 (zx dp) (zx n), S.2))) else none
    | _ => none) else
  bif Nat.beq mj 1004 then (match args with
    | [.inr (.inr (some (13, i)))] => some (some (.inl (Int32.ofNat (zsl i))), S)
    | _ => none) else
  bif Nat.beq mj 1005 then (match args with
    | [.inr (.inr (some (13, i))), .inl k] => zg (zin k (zsl i)) (some (some (.inl (zscw i (zx k))), S))
    | _ => none) else
  bif Nat.beq mj 1006 then (match args with
    | [.inr (.inr (some (13, i))), .inl ch] => some (some (.inl (zidx i ch (zsl i) 0)), S)
    | _ => none) else
  bif Nat.beq mj 1008 then (match args with
    | [.inr (.inr (some (10, 0))), .inl a, .inl b, .inr (.inr (some (17, 0)))] =>
      if 0 ≤ a ∧ a < S.1 0 0 3 ∧ 0 ≤ b ∧ b ≤ 5 then (zci cl zlook [zr 10 0, zi a, zi b] S).bind (fun r => some (some (.inl 0), (r.2.1, zu r.2.2.1 17 0 0 r.1.toInt64, r.2.2.2)))
      else some (some (.inl 1), (S.1, S.2.1, S.2.2.1, S.2.2.2.1, S.2.2.2.2.1 + 1, S.2.2.2.2.2 + 8))
    | _ => none) else none
/-! a step again and again, as long as it comes to an end -/
def zlim {β γ : Type} (P : β → Option (β ⊕ γ)) : Nat → β → Option γ
  | 0, _ => none
  | n + 1, b => (P b).bind (fun r => match r with
    | .inl b' => zlim P n b'
    | .inr c => some c)
theorem zlim_succ {β γ : Type} (P : β → Option (β ⊕ γ)) : ∀ (n : Nat) (b : β) (c : γ), zlim P n b = some c → zlim P (n + 1) b = some c
  | 0, b, c, h => by simp [zlim] at h
  | n + 1, b, c, h => by
    rw [zlim] at h ⊢
    cases hP : P b with
    | none => rw [hP] at h; simp at h
    | some r =>
      rw [hP] at h
      cases r with
      | inl b' => exact zlim_succ P n b' c h
      | inr c' => exact h
theorem zlim_mono {β γ : Type} (P : β → Option (β ⊕ γ)) {n m : Nat} (hnm : n ≤ m) {b : β} {c : γ} (h : zlim P n b = some c) : zlim P m b = some c := by
  induction hnm with
  | refl => exact h
  | step _ ih => exact zlim_succ P _ b c ih
noncomputable def zfix {β γ : Type} (P : β → Option (β ⊕ γ)) (b : β) : Option γ :=
  Classical.epsilon (fun o : Option γ => (∀ c, o = some c ↔ ∃ n, zlim P n b = some c))
theorem zfix_spec {β γ : Type} (P : β → Option (β ⊕ γ)) (b : β) (c : γ) : zfix P b = some c ↔ ∃ n, zlim P n b = some c := by
  have hex : ∃ o : Option γ, ∀ c, o = some c ↔ ∃ n, zlim P n b = some c := by
    by_cases h : ∃ c n, zlim P n b = some c
    · obtain ⟨c0, n0, h0⟩ := h
      refine ⟨some c0, fun c => ⟨fun e => ?_, fun ⟨n, hn⟩ => ?_⟩⟩
      · cases e; exact ⟨n0, h0⟩
      · have h1 := zlim_mono P (Nat.le_max_left n n0) hn
        have h2 := zlim_mono P (Nat.le_max_right n n0) h0
        rw [h1] at h2; exact h2.symm
    · refine ⟨none, fun c => ⟨fun e => (by cases e), fun ⟨n, hn⟩ => absurd ⟨c, n, hn⟩ h⟩⟩
  exact Classical.epsilon_spec (p := fun o : Option γ => (∀ c, o = some c ↔ ∃ n, zlim P n b = some c)) hex c
theorem zfix_eq {β γ : Type} (P : β → Option (β ⊕ γ)) (b : β) : zfix P b = (P b).bind (fun r => match r with
    | .inl b' => zfix P b'
    | .inr c => some c) := by
  have key : ∀ c, zfix P b = some c ↔ (P b).bind (fun r => match r with
    | .inl b' => zfix P b'
    | .inr c => some c) = some c := by
    intro c
    rw [zfix_spec]
    constructor
    · rintro ⟨n, hn⟩
      cases n with
      | zero => simp [zlim] at hn
      | succ n =>
        rw [zlim] at hn
        cases hP : P b with
        | none => rw [hP] at hn; simp at hn
        | some r =>
          rw [hP] at hn
          cases r with
          | inl b' => exact (zfix_spec P b' c).mpr ⟨n, hn⟩
          | inr c' => exact hn
    · intro h
      cases hP : P b with
      | none => rw [hP] at h; simp at h
      | some r =>
        rw [hP] at h
        cases r with
        | inl b' =>
          obtain ⟨n, hn⟩ := (zfix_spec P b' c).mp h
          exact ⟨n + 1, by rw [zlim, hP]; exact hn⟩
        | inr c' => exact ⟨1, by rw [zlim, hP]; exact h⟩
  cases h1 : zfix P b with
  | some c => exact ((key c).mp h1).symm
  | none =>
    cases h2 : (P b).bind (fun r => match r with
    | .inl b' => zfix P b'
    | .inr c => some c) with
    | none => rfl
    | some c => rw [(key c).mpr h2] at h1; cases h1

/-! the run of a method: between cuts, again and again -/
noncomputable def zP (cl : Nat → List ZV → ZS → Option ZX) (mi oc : Nat) (f : ZF) : Option (ZF ⊕ ZX) := zgo cl mi oc (fun pc ls st S => some (.inl (pc, ls, st, S))) (fun v S => some (.inr (v, S))) 3000 false f.1 f.2.1 f.2.2.1 f.2.2.2
noncomputable def zrun (cl : Nat → List ZV → ZS → Option ZX) (mi oc pc : Nat) (ls : ZL) (st : List ZV) (S : ZS) : Option ZX := zfix (zP cl mi oc) (pc, ls, st, S)
noncomputable def zcall : Nat → Nat → List ZV → ZS → Option ZX
  | 0, _, _, _ => none
  | d + 1, mj, args, S => bif Nat.ble 1000 mj then zprim (zcall d) mj args S else bif zrcv (zsg mj) args then zrun (zcall d) mj (zoc mj) 0 (zpad (zmx mj) (zarg args)) [] S else none
noncomputable def zri (d mi oc pc : Nat) (ls : ZL) (st : List ZV) (S : ZS) : Option (Int32 × ZS) := (zrun (zcall d) mi oc pc ls st S).bind zoi
noncomputable def zrl (d mi oc pc : Nat) (ls : ZL) (st : List ZV) (S : ZS) : Option (Int64 × ZS) := (zrun (zcall d) mi oc pc ls st S).bind zol
noncomputable def zro (d mi oc pc : Nat) (ls : ZL) (st : List ZV) (S : ZS) : Option (Option ZR × ZS) := (zrun (zcall d) mi oc pc ls st S).bind zoo
noncomputable def zrv (d mi oc pc : Nat) (ls : ZL) (st : List ZV) (S : ZS) : Option ZS := (zrun (zcall d) mi oc pc ls st S).bind zov
section NAT
variable {α β : Type} (g : α → Option β)
theorem zpi_b (st : List ZV) (k : Int32 → List ZV → Option α) : (zpi st k).bind g = zpi st (fun x r => (k x r).bind g) := by unfold zpi; split <;> rfl
theorem zpl_b (st : List ZV) (k : Int64 → List ZV → Option α) : (zpl st k).bind g = zpl st (fun x r => (k x r).bind g) := by unfold zpl; split <;> rfl
theorem zpo_b (st : List ZV) (k : Option ZR → List ZV → Option α) : (zpo st k).bind g = zpo st (fun x r => (k x r).bind g) := by unfold zpo; split <;> rfl
theorem zpr_b (st : List ZV) (k : Nat → Nat → List ZV → Option α) : (zpr st k).bind g = zpr st (fun x i r => (k x i r).bind g) := by unfold zpr; split <;> rfl
theorem zli_b (n : Nat) (ls : ZL) (k : Int32 → Option α) : (zli n ls k).bind g = zli n ls (fun x => (k x).bind g) := by unfold zli; split <;> rfl
theorem zlo_b (n : Nat) (ls : ZL) (k : Option ZR → Option α) : (zlo n ls k).bind g = zlo n ls (fun x => (k x).bind g) := by unfold zlo; split <;> rfl
theorem zob_b {γ : Type} (o : Option γ) (k : γ → Option α) : (zob o k).bind g = zob o (fun x => (k x).bind g) := by unfold zob; split <;> rfl
theorem zel_b {γ : Type} (o : Option γ) (k : γ → Option α) (n : Option α) : (zel o k n).bind g = zel o (fun x => (k x).bind g) (n.bind g) := by unfold zel; split <;> rfl
theorem zder_b (o : Option ZR) (t : Nat) (k : Nat → Option α) : (zder o t k).bind g = zder o t (fun i => (k i).bind g) := by
  unfold zder
  split
  · rename_i t' i
    cases Nat.beq t' t <;> rfl
  · rfl
theorem zg_b (b : Bool) (k : Option α) : (zg b k).bind g = zg b (k.bind g) := by
  cases b
  · rw [zg_f rfl, zg_f rfl]; rfl
  · rw [zg_t rfl, zg_t rfl]
theorem zgb_b (x : Int32) (k : Option α) : (zgb x k).bind g = zgb x (k.bind g) := by
  unfold zgb
  cases zbl x <;> rfl
theorem zif_b (c : Prop) [Decidable c] (a b : Option α) : (if c then a else b).bind g = if c then a.bind g else b.bind g := by split <;> rfl
theorem zif_c (c : Prop) (a b : Option α) : (zif c a b).bind g = zif c (a.bind g) (b.bind g) := by
  by_cases h : c
  · rw [zif_pos h, zif_pos h]
  · rw [zif_neg h, zif_neg h]
theorem zcd_b (c : Bool) (a b : Option α) : (bif c then a else b).bind g = bif c then a.bind g else b.bind g := by cases c <;> rfl
theorem zsw_b (x : Int32) (k : Nat → Option α) (df : Nat) : ∀ (ts : List Nat) (lo : Int), (zsw x k df ts lo).bind g = zsw x (fun p => (k p).bind g) df ts lo
  | [], _ => rfl
  | t :: ts, lo => by
    simp only [zsw]
    rw [zif_c, zsw_b x k df ts]
theorem zbb {γ : Type} (o : Option γ) (k : γ → Option α) : (o.bind k).bind g = o.bind (fun x => (k x).bind g) := by cases o <;> rfl
theorem zcal_b (cl : Nat → List ZV → ZS → Option ZX) (oc n : Nat) (st : List ZV) (S : ZS) (k : List ZV → ZS → Option α) : (zcal cl oc n st S k).bind g = zcal cl oc n st S (fun st' S' => (k st' S').bind g) := by
  unfold zcal
  rw [zob_b]
  congr 1; funext q
  rw [zob_b]
  congr 1; funext w
  rw [zcd_b]
  congr 1
  split <;> rw [zbb]
end NAT
set_option maxRecDepth 100000 in
set_option maxHeartbeats 4000000 in
theorem zgo_b {α β : Type} (g : α → Option β) (cl : Nat → List ZV → ZS → Option ZX) (mi oc : Nat) (κ : Nat → ZL → List ZV → ZS → Option α) (ρ : Option ZV → ZS → Option α) : ∀ (j : Nat) (b : Bool) (pc : Nat) (ls : ZL) (st : List ZV) (S : ZS),
    (zgo cl mi oc κ ρ j b pc ls st S).bind g = zgo cl mi oc (fun pc ls st S => (κ pc ls st S).bind g) (fun v S => (ρ v S).bind g) j b pc ls st S
  | 0, _, _, _, _, _ => rfl
  | j + 1, b, pc, ls, st, S => by
    have ih := zgo_b g cl mi oc κ ρ j
    unfold zgo
    rw [zel_b, zob_b]
    congr 2; funext c
    obtain ⟨ins, len⟩ := c
    cases ins
    case ifCond c o => cases c <;> simp only [zpi_b, zif_c, ih]
    case if_icmp c o => cases c <;> simp only [zpi_b, zif_c, ih]
    case if_acmp c o => cases c <;> simp only [zpo_b, zif_c, ih]
    case getfield n =>
      simp only [zob_b, zpo_b, zder_b]
      congr 1; funext q; congr 1; funext o r; congr 1; funext i
      split <;> exact ih _ _ _ _ _
    case putfield n =>
      simp only [zob_b]
      congr 1; funext q
      split <;> simp only [zpi_b, zpl_b, zpo_b, zder_b, zg_b, ih, Option.bind_none]
    case new n => simp only [zcd_b, zli_b, zlo_b, zder_b, ih, Option.bind_none]
    all_goals simp only [zgb_b, zpi_b, zpl_b, zpo_b, zpr_b, zob_b, zder_b, zg_b, zif_c, zcd_b, zsw_b, zcal_b, ih, Option.bind_none]
theorem zrun_eq (cl : Nat → List ZV → ZS → Option ZX) (mi oc pc : Nat) (ls : ZL) (st : List ZV) (S : ZS) : zrun cl mi oc pc ls st S = zgo cl mi oc (zrun cl mi oc) (fun v S => some (v, S)) 3000 false pc ls st S := by
  unfold zrun
  rw [zfix_eq]
  unfold zP
  rw [zgo_b]
  rfl
theorem zeqi (d mi oc pc : Nat) (ls : ZL) (st : List ZV) (S : ZS) : zri d mi oc pc ls st S = zgo (zcall d) mi oc (zri d mi oc) (fun v S => zoi (v, S)) 3000 false pc ls st S := by
  unfold zri
  rw [zrun_eq, zgo_b]
  rfl
theorem zeql (d mi oc pc : Nat) (ls : ZL) (st : List ZV) (S : ZS) : zrl d mi oc pc ls st S = zgo (zcall d) mi oc (zrl d mi oc) (fun v S => zol (v, S)) 3000 false pc ls st S := by
  unfold zrl
  rw [zrun_eq, zgo_b]
  rfl
theorem zeqo (d mi oc pc : Nat) (ls : ZL) (st : List ZV) (S : ZS) : zro d mi oc pc ls st S = zgo (zcall d) mi oc (zro d mi oc) (fun v S => zoo (v, S)) 3000 false pc ls st S := by
  unfold zro
  rw [zrun_eq, zgo_b]
  rfl
theorem zeqv (d mi oc pc : Nat) (ls : ZL) (st : List ZV) (S : ZS) : zrv d mi oc pc ls st S = zgo (zcall d) mi oc (zrv d mi oc) (fun v S => zov (v, S)) 3000 false pc ls st S := by
  unfold zrv
  rw [zrun_eq, zgo_b]
  rfl
end
section
noncomputable def zC_addLine (d : Nat) (a1 : Int32) (a2 : Int32) (a3 : Int32) (S : ZS) : Option (Int32 × ZS) := zci (zcall d) 0 [zr 0 0, zi a1, zi a2, zi a3] S
noncomputable def zC_isLine (d : Nat) (a1 : Int32) (S : ZS) : Option (Int32 × ZS) := zci (zcall d) 1 [zr 0 0, zi a1] S
noncomputable def zC_isQuiet (d : Nat) (a1 : Int32) (S : ZS) : Option (Int32 × ZS) := zci (zcall d) 2 [zr 0 0, zi a1] S
noncomputable def zC_isCalling (d : Nat) (a1 : Int32) (S : ZS) : Option (Int32 × ZS) := zci (zcall d) 3 [zr 0 0, zi a1] S
noncomputable def zC_callingLines (d : Nat)  (S : ZS) : Option (Int32 × ZS) := zci (zcall d) 4 [zr 0 0] S
noncomputable def zC_callingLines_4 (d : Nat) (a1 : Int32) (a2 : Int32) (S : ZS) : Option (Int32 × ZS) := zri d 4 0 4 [some (zr 0 0), some (zi a1), some (zi a2)] [] S
noncomputable def zC_lineAt (d : Nat) (a1 : Int32) (a2 : Int32) (S : ZS) : Option (Int32 × ZS) := zci (zcall d) 5 [zr 0 0, zi a1, zi a2] S
noncomputable def zC_lineAt_25 (d : Nat) (a1 : Int32) (a2 : Int32) (s0 : Int32) (S : ZS) : Option (Int32 × ZS) := zri d 5 0 25 [some (zr 0 0), some (zi a1), some (zi a2), none] [zi s0] S
noncomputable def zC_take (d : Nat) (o1 : Nat) (S : ZS) : Option (Int32 × ZS) := zci (zcall d) 6 [zr 0 0, zr 2 o1] S
noncomputable def zC_take_10 (d : Nat) (a1 : Nat) (a2 : Int32) (a3 : Int32) (S : ZS) : Option (Int32 × ZS) := zri d 6 0 10 [some (zr 0 0), some (zr 2 a1), some (zi a2), some (zi a3)] [] S
noncomputable def zC_step (d : Nat) (o1 : Nat) (a2 : Int32) (S : ZS) : Option (Int32 × ZS) := zci (zcall d) 7 [zr 0 0, zr 2 o1, zi a2] S
noncomputable def zC_step_20 (d : Nat) (a1 : Nat) (a2 : Int32) (S : ZS) : Option (Int32 × ZS) := zri d 7 0 20 [some (zr 0 0), some (zr 2 a1), some (zi a2), none] [] S
noncomputable def zC_stepFinal (d : Nat) (o1 : Nat) (a2 : Int32) (S : ZS) : Option ZS := zcv (zcall d) 8 [zr 0 0, zr 2 o1, zi a2] S
noncomputable def zC_hunt (d : Nat) (o1 : Nat) (a2 : Int32) (a3 : Int32) (S : ZS) : Option ZS := zcv (zcall d) 9 [zr 0 0, zr 2 o1, zi a2, zi a3] S
noncomputable def zC_hunt_6 (d : Nat) (a1 : Nat) (a2 : Int32) (a3 : Int32) (a4 : Int32) (a5 : Int32) (S : ZS) : Option ZS := zrv d 9 0 6 [some (zr 0 0), some (zr 2 a1), some (zi a2), some (zi a3), some (zi a4), some (zi a5), none] [] S
noncomputable def zC_hold (d : Nat) (o1 : Nat) (a2 : Int32) (a3 : Int32) (S : ZS) : Option ZS := zcv (zcall d) 10 [zr 0 0, zr 2 o1, zi a2, zi a3] S
noncomputable def zC_make (d : Nat) (o1 : Nat) (a2 : Int32) (a3 : Int32) (S : ZS) : Option (Int32 × ZS) := zci (zcall d) 11 [zr 0 0, zr 2 o1, zi a2, zi a3] S
noncomputable def zC_make_10 (d : Nat) (a1 : Nat) (a2 : Int32) (a3 : Int32) (a4 : Int32) (a5 : Int32) (S : ZS) : Option (Int32 × ZS) := zri d 11 0 10 [some (zr 0 0), some (zr 2 a1), some (zi a2), some (zi a3), some (zi a4), some (zi a5)] [] S
noncomputable def zC_release (d : Nat) (o1 : Nat) (S : ZS) : Option ZS := zcv (zcall d) 12 [zr 0 0, zr 2 o1] S
noncomputable def zC_setHolder (d : Nat) (o1 : Nat) (a2 : Int32) (S : ZS) : Option ZS := zcv (zcall d) 13 [zr 0 0, zr 2 o1, zi a2] S
noncomputable def zC_setHolder_2 (d : Nat) (a1 : Nat) (a2 : Int32) (a3 : Int32) (S : ZS) : Option ZS := zrv d 13 0 2 [some (zr 0 0), some (zr 2 a1), some (zi a2), some (zi a3)] [] S
noncomputable def zG_write (d : Nat) (a1 : Int32) (a2 : Int32) (a3 : Int32) (a4 : Int32) (S : ZS) : Option ZS := zcv (zcall d) 14 [zr 1 0, zi a1, zi a2, zi a3, zi a4] S
noncomputable def zG_tell (d : Nat) (a1 : Int32) (a2 : Int32) (a3 : Int32) (S : ZS) : Option (Int32 × ZS) := zci (zcall d) 15 [zr 1 0, zi a1, zi a2, zi a3] S
noncomputable def zG_sum (d : Nat) (a1 : Int32) (a2 : Int32) (a3 : Int32) (a4 : Int32) (S : ZS) : Option (Int32 × ZS) := zci (zcall d) 16 [zr 1 0, zi a1, zi a2, zi a3, zi a4] S
noncomputable def zG_sum_6 (d : Nat) (a1 : Int32) (a2 : Int32) (a3 : Int32) (a4 : Int32) (a5 : Int32) (a6 : Int32) (S : ZS) : Option (Int32 × ZS) := zri d 16 1 6 [some (zr 1 0), some (zi a1), some (zi a2), some (zi a3), some (zi a4), some (zi a5), some (zi a6)] [] S
noncomputable def zG_unitsKnown (d : Nat) (a1 : Int32) (a2 : Int32) (S : ZS) : Option (Int32 × ZS) := zci (zcall d) 17 [zr 1 0, zi a1, zi a2] S
noncomputable def zG_unitsKnown_7 (d : Nat) (a1 : Int32) (a2 : Int32) (a3 : Int32) (S : ZS) : Option (Int32 × ZS) := zri d 17 1 7 [some (zr 1 0), some (zi a1), some (zi a2), some (zi a3)] [] S
noncomputable def zG_show (d : Nat) (a1 : Int32) (a2 : Int32) (S : ZS) : Option (Int32 × ZS) := zci (zcall d) 18 [zr 1 0, zi a1, zi a2] S
noncomputable def zL_head (d : Nat) (o0 : Nat) (S : ZS) : Option (Int32 × ZS) := zci (zcall d) 19 [zr 2 o0] S
noncomputable def zL_ofCall (d : Nat) (o0 : Nat) (a1 : Int32) (S : ZS) : Option (Int32 × ZS) := zci (zcall d) 20 [zr 2 o0, zi a1] S
noncomputable def zL_noteDigit (d : Nat) (o0 : Nat) (a1 : Int32) (S : ZS) : Option ZS := zcv (zcall d) 21 [zr 2 o0, zi a1] S
noncomputable def zL_noteDigit_18 (d : Nat) (a0 : Nat) (a1 : Int32) (S : ZS) : Option ZS := zrv d 21 2 18 [some (zr 2 a0), some (zi a1)] [] S
noncomputable def zL_addHeld (d : Nat) (o0 : Nat) (a1 : Int32) (S : ZS) : Option ZS := zcv (zcall d) 22 [zr 2 o0, zi a1] S
noncomputable def zL_clear (d : Nat) (o0 : Nat) (S : ZS) : Option ZS := zcv (zcall d) 23 [zr 2 o0] S
noncomputable def zO_measure (d : Nat) (a1 : Int32) (a2 : Int32) (a3 : Int32) (S : ZS) : Option (Int32 × ZS) := zci (zcall d) 24 [zr 3 0, zi a1, zi a2, zi a3] S
noncomputable def zO_measure_40 (d : Nat) (a1 : Int32) (a2 : Int32) (a4 : Int32) (S : ZS) : Option (Int32 × ZS) := zri d 24 3 40 [some (zr 3 0), some (zi a1), some (zi a2), none, some (zi a4), none] [] S
noncomputable def zO_measure_65 (d : Nat) (a1 : Int32) (a2 : Int32) (a4 : Int32) (a5 : Int32) (S : ZS) : Option (Int32 × ZS) := zri d 24 3 65 [some (zr 3 0), some (zi a1), some (zi a2), none, some (zi a4), some (zi a5)] [] S
noncomputable def zO_measure_96 (d : Nat) (a1 : Int32) (a4 : Int32) (S : ZS) : Option (Int32 × ZS) := zri d 24 3 96 [some (zr 3 0), some (zi a1), none, none, some (zi a4), none] [] S
noncomputable def zO_countEnd (d : Nat) (a1 : Int32) (a2 : Int32) (a3 : Int32) (a4 : Int32) (S : ZS) : Option ZS := zcv (zcall d) 25 [zr 3 0, zi a1, zi a2, zi a3, zi a4] S
noncomputable def zO_leadsWithin (d : Nat) (a1 : Int32) (a2 : Int32) (a3 : Int32) (a4 : Int32) (a5 : Int32) (S : ZS) : Option (Int32 × ZS) := zci (zcall d) 26 [zr 3 0, zi a1, zi a2, zi a3, zi a4, zi a5] S
noncomputable def zO_leadsWithin_3 (d : Nat) (a1 : Int32) (a2 : Int32) (a3 : Int32) (a4 : Int32) (a5 : Int32) (a6 : Int32) (S : ZS) : Option (Int32 × ZS) := zri d 26 3 3 [some (zr 3 0), some (zi a1), some (zi a2), some (zi a3), some (zi a4), some (zi a5), some (zi a6)] [] S
noncomputable def zO_waysLost (d : Nat) (a1 : Int32) (a2 : Int32) (S : ZS) : Option (Int32 × ZS) := zci (zcall d) 27 [zr 3 0, zi a1, zi a2] S
noncomputable def zO_waysLost_5 (d : Nat) (a1 : Int32) (a2 : Int32) (a3 : Int32) (a4 : Int32) (S : ZS) : Option (Int32 × ZS) := zri d 27 3 5 [some (zr 3 0), some (zi a1), some (zi a2), some (zi a3), some (zi a4), none, none] [] S
noncomputable def zO_sharedMore (d : Nat) (a1 : Int32) (a2 : Int32) (S : ZS) : Option (Int32 × ZS) := zci (zcall d) 28 [zr 3 0, zi a1, zi a2] S
noncomputable def zO_sharedMore_21 (d : Nat) (a1 : Int32) (a2 : Int32) (a3 : Int32) (a4 : Int32) (S : ZS) : Option (Int32 × ZS) := zri d 28 3 21 [some (zr 3 0), some (zi a1), some (zi a2), some (zi a3), some (zi a4)] [] S
noncomputable def zO_ways (d : Nat) (a0 : Int32) (a1 : Int32) (S : ZS) : Option (Int32 × ZS) := zci (zcall d) 29 [zi a0, zi a1] S
noncomputable def zO_ways_4 (d : Nat) (a0 : Int32) (a1 : Int32) (a2 : Int32) (a3 : Int32) (S : ZS) : Option (Int32 × ZS) := zri d 29 3 4 [some (zi a0), some (zi a1), some (zi a2), some (zi a3)] [] S
noncomputable def zP_addRack (d : Nat) (a1 : Int32) (a2 : Int32) (a3 : Int32) (S : ZS) : Option (Int32 × ZS) := zci (zcall d) 30 [zr 4 0, zi a1, zi a2, zi a3] S
noncomputable def zP_addRack_18 (d : Nat) (a1 : Int32) (a2 : Int32) (a3 : Int32) (s0 : Int32) (S : ZS) : Option (Int32 × ZS) := zri d 30 4 18 [some (zr 4 0), some (zi a1), some (zi a2), some (zi a3), none] [zi s0] S
noncomputable def zP_lead (d : Nat) (a1 : Int32) (a2 : Int32) (a3 : Int32) (a4 : Int32) (a5 : Int32) (S : ZS) : Option (Int32 × ZS) := zci (zcall d) 31 [zr 4 0, zi a1, zi a2, zi a3, zi a4, zi a5] S
noncomputable def zP_lead_59 (d : Nat) (a1 : Int32) (a2 : Int32) (a3 : Int32) (a4 : Int32) (a5 : Int32) (s0 : Int32) (S : ZS) : Option (Int32 × ZS) := zri d 31 4 59 [some (zr 4 0), some (zi a1), some (zi a2), some (zi a3), some (zi a4), some (zi a5), none] [zi s0] S
noncomputable def zP_tellZone (d : Nat) (a1 : Int32) (a2 : Int32) (S : ZS) : Option (Int32 × ZS) := zci (zcall d) 32 [zr 4 0, zi a1, zi a2] S
noncomputable def zP_isRackOf (d : Nat) (a1 : Int32) (a2 : Int32) (S : ZS) : Option (Int32 × ZS) := zci (zcall d) 33 [zr 4 0, zi a1, zi a2] S
noncomputable def zP_isLevel (d : Nat) (a1 : Int32) (a2 : Int32) (S : ZS) : Option (Int32 × ZS) := zci (zcall d) 34 [zr 4 0, zi a1, zi a2] S
noncomputable def zP_isSwitch (d : Nat) (a1 : Int32) (S : ZS) : Option (Int32 × ZS) := zci (zcall d) 35 [zr 4 0, zi a1] S
noncomputable def zP_isSwitch_20 (d : Nat) (a1 : Int32) (s0 : Int32) (S : ZS) : Option (Int32 × ZS) := zri d 35 4 20 [some (zr 4 0), some (zi a1), none] [zi s0] S
noncomputable def zP_isEnd (d : Nat) (a1 : Int32) (S : ZS) : Option (Int32 × ZS) := zci (zcall d) 36 [zr 4 0, zi a1] S
noncomputable def zP_isJunction (d : Nat) (a1 : Int32) (S : ZS) : Option (Int32 × ZS) := zci (zcall d) 37 [zr 4 0, zi a1] S
noncomputable def zP_isFinal (d : Nat) (a1 : Int32) (S : ZS) : Option (Int32 × ZS) := zci (zcall d) 38 [zr 4 0, zi a1] S
noncomputable def zP_zoneOf (d : Nat) (a1 : Int32) (S : ZS) : Option (Int32 × ZS) := zci (zcall d) 39 [zr 4 0, zi a1] S
noncomputable def zP_spot (d : Nat) (a0 : Int32) (a1 : Int32) (a2 : Int32) (S : ZS) : Option (Int32 × ZS) := zci (zcall d) 40 [zi a0, zi a1, zi a2] S
noncomputable def zP_leadsTo (d : Nat) (a1 : Int32) (a2 : Int32) (a3 : Int32) (a4 : Int32) (S : ZS) : Option (Int32 × ZS) := zci (zcall d) 41 [zr 4 0, zi a1, zi a2, zi a3, zi a4] S
noncomputable def zP_leadsFrom (d : Nat) (a1 : Int32) (a2 : Int32) (a3 : Int32) (S : ZS) : Option (Int32 × ZS) := zci (zcall d) 42 [zr 4 0, zi a1, zi a2, zi a3] S
noncomputable def zP_isOut (d : Nat) (a1 : Int32) (S : ZS) : Option (Int32 × ZS) := zci (zcall d) 43 [zr 4 0, zi a1] S
noncomputable def zP_isFaulty (d : Nat) (a1 : Int32) (S : ZS) : Option (Int32 × ZS) := zci (zcall d) 44 [zr 4 0, zi a1] S
noncomputable def zP_canTake (d : Nat) (a1 : Int32) (S : ZS) : Option (Int32 × ZS) := zci (zcall d) 45 [zr 4 0, zi a1] S
noncomputable def zP_heldWithin (d : Nat) (a1 : Int32) (a2 : Int32) (S : ZS) : Option (Int32 × ZS) := zci (zcall d) 46 [zr 4 0, zi a1, zi a2] S
noncomputable def zP_heldWithin_5 (d : Nat) (a2 : Int32) (a3 : Int32) (a4 : Int32) (S : ZS) : Option (Int32 × ZS) := zri d 46 4 5 [some (zr 4 0), none, some (zi a2), some (zi a3), some (zi a4)] [] S
noncomputable def zP_allSwitches (d : Nat)  (S : ZS) : Option (Int32 × ZS) := zci (zcall d) 47 [zr 4 0] S
noncomputable def zP_allSwitches_4 (d : Nat) (a1 : Int32) (a2 : Int32) (S : ZS) : Option (Int32 × ZS) := zri d 47 4 4 [some (zr 4 0), some (zi a1), some (zi a2)] [] S
noncomputable def zR_fewestMoved (d : Nat) (a1 : Int32) (a2 : Int32) (a3 : Int32) (S : ZS) : Option (Int32 × ZS) := zci (zcall d) 48 [zr 5 0, zi a1, zi a2, zi a3] S
noncomputable def zR_fewestMoved_44 (d : Nat) (a4 : Int32) (S : ZS) : Option (Int32 × ZS) := zri d 48 5 44 [some (zr 5 0), none, none, none, some (zi a4)] [] S
noncomputable def zR_canMove (d : Nat) (o0 : Nat) (S : ZS) : Option (Int32 × ZS) := zci (zcall d) 49 [zr 2 o0] S
noncomputable def zR_canMove_22 (d : Nat) (a0 : Nat) (s0 : Int32) (S : ZS) : Option (Int32 × ZS) := zri d 49 5 22 [some (zr 2 a0), none] [zi s0] S
noncomputable def zR_laysBoth (d : Nat) (o1 : Nat) (S : ZS) : Option (Int32 × ZS) := zci (zcall d) 50 [zr 5 0, zr 2 o1] S
noncomputable def zR_canLay (d : Nat) (o1 : Nat) (S : ZS) : Option (Int32 × ZS) := zci (zcall d) 51 [zr 5 0, zr 9 o1] S
noncomputable def zR_canLay_10 (d : Nat) (a1 : Nat) (a2 : Int32) (a3 : Int32) (S : ZS) : Option (Int32 × ZS) := zri d 51 5 10 [some (zr 5 0), some (zr 9 a1), some (zi a2), some (zi a3)] [] S
noncomputable def zR_layOver (d : Nat) (o1 : Nat) (a2 : Int32) (a3 : Int32) (S : ZS) : Option (Int32 × ZS) := zci (zcall d) 52 [zr 5 0, zr 9 o1, zi a2, zi a3] S
noncomputable def zR_goesOn (d : Nat) (o1 : Nat) (a2 : Int32) (a3 : Int32) (S : ZS) : Option (Int32 × ZS) := zci (zcall d) 53 [zr 5 0, zr 9 o1, zi a2, zi a3] S
noncomputable def zR_goesOn_84 (d : Nat) (a1 : Nat) (a2 : Int32) (a3 : Int32) (a4 : Int32) (S : ZS) : Option (Int32 × ZS) := zri d 53 5 84 [some (zr 5 0), some (zr 9 a1), some (zi a2), some (zi a3), some (zi a4)] [] S
noncomputable def zR_restIsLaid (d : Nat) (o1 : Nat) (S : ZS) : Option (Int32 × ZS) := zci (zcall d) 54 [zr 5 0, zr 9 o1] S
noncomputable def zT_addSigns (d : Nat) (w1 : Int64) (S : ZS) : Option ZS := zcv (zcall d) 55 [zr 6 0, zl w1] S
noncomputable def zT_addSigns_3 (d : Nat) (a1 : Int64) (a3 : Int32) (S : ZS) : Option ZS := zrv d 55 6 3 [some (zr 6 0), some (zl a1), none, some (zi a3), none, none] [] S
noncomputable def zT_addSigns_43 (d : Nat) (a1 : Int64) (a3 : Int32) (a4 : Int32) (s0 : Int32) (S : ZS) : Option ZS := zrv d 55 6 43 [some (zr 6 0), some (zl a1), none, some (zi a3), some (zi a4), none] [zi s0] S
noncomputable def zT_rewind (d : Nat)  (S : ZS) : Option ZS := zcv (zcall d) 56 [zr 6 0] S
noncomputable def zT_next (d : Nat)  (S : ZS) : Option ZS := zcv (zcall d) 57 [zr 6 0] S
noncomputable def zT_next_13 (d : Nat)  (S : ZS) : Option ZS := zrv d 57 6 13 [some (zr 6 0), none, none] [] S
noncomputable def zT_next_65 (d : Nat)  (S : ZS) : Option ZS := zrv d 57 6 65 [some (zr 6 0), none, none] [] S
noncomputable def zT_next_121 (d : Nat) (a1 : Int32) (a2 : Int32) (s0 : Option ZR) (S : ZS) : Option ZS := zrv d 57 6 121 [some (zr 6 0), some (zi a1), some (zi a2)] [zo s0, zr 6 0] S
noncomputable def zT_runFrom (d : Nat) (a1 : Int32) (a2 : Int32) (a3 : Int32) (S : ZS) : Option (Int32 × ZS) := zci (zcall d) 58 [zr 6 0, zi a1, zi a2, zi a3] S
noncomputable def zT_runFrom_3 (d : Nat) (a1 : Int32) (a2 : Int32) (a3 : Int32) (a4 : Int32) (S : ZS) : Option (Int32 × ZS) := zri d 58 6 3 [some (zr 6 0), some (zi a1), some (zi a2), some (zi a3), some (zi a4)] [] S
noncomputable def zT_isAtEnd (d : Nat)  (S : ZS) : Option (Int32 × ZS) := zci (zcall d) 59 [zr 6 0] S
noncomputable def zT_isNumber (d : Nat)  (S : ZS) : Option (Int32 × ZS) := zci (zcall d) 60 [zr 6 0] S
noncomputable def zT_isSign (d : Nat) (a1 : Int32) (S : ZS) : Option (Int32 × ZS) := zci (zcall d) 61 [zr 6 0, zi a1] S
noncomputable def zT_isWord (d : Nat) (o1 : Nat) (S : ZS) : Option (Int32 × ZS) := zci (zcall d) 62 [zr 6 0, zr 12 o1] S
noncomputable def zT_isName (d : Nat)  (S : ZS) : Option (Int32 × ZS) := zci (zcall d) 63 [zr 6 0] S
noncomputable def zT_value (d : Nat)  (S : ZS) : Option (Int32 × ZS) := zci (zcall d) 64 [zr 6 0] S
noncomputable def zT_wordRead (d : Nat)  (S : ZS) : Option (Option ZR × ZS) := zco (zcall d) 65 [zr 6 0] S
noncomputable def zT_wordRead_9 (d : Nat) (a2 : Int32) (a3 : Int32) (S : ZS) : Option (Option ZR × ZS) := zro d 65 6 9 [some (zr 6 0), some (zr 14 0), some (zi a2), some (zi a3), none, none, none] [] S
noncomputable def zT_wordRead_39 (d : Nat) (a2 : Int32) (a3 : Int32) (a4 : Option ZR) (a5 : Int32) (a6 : Int32) (S : ZS) : Option (Option ZR × ZS) := zro d 65 6 39 [some (zr 6 0), some (zr 14 0), some (zi a2), some (zi a3), some (zo a4), some (zi a5), some (zi a6)] [] S
noncomputable def zT_wordRead_77 (d : Nat) (a2 : Int32) (a3 : Int32) (a4 : Option ZR) (a5 : Int32) (S : ZS) : Option (Option ZR × ZS) := zro d 65 6 77 [some (zr 6 0), some (zr 14 0), some (zi a2), some (zi a3), some (zo a4), some (zi a5), none] [] S
noncomputable def zT_number (d : Nat)  (S : ZS) : Option (Int32 × ZS) := zci (zcall d) 66 [zr 6 0] S
noncomputable def zT_number_4 (d : Nat) (a1 : Int32) (a2 : Int32) (S : ZS) : Option (Int32 × ZS) := zri d 66 6 4 [some (zr 6 0), some (zi a1), some (zi a2)] [] S
noncomputable def zT_letters (d : Nat)  (S : ZS) : Option (Int64 × ZS) := zcl (zcall d) 67 [zr 6 0] S
noncomputable def zT_letters_4 (d : Nat) (a1 : Int64) (a3 : Int32) (S : ZS) : Option (Int64 × ZS) := zrl d 67 6 4 [some (zr 6 0), some (zl a1), none, some (zi a3)] [] S
noncomputable def zF_readTape (d : Nat) (o0 : Nat) (S : ZS) : Option (Int32 × ZS) := zci (zcall d) 68 [zr 7 o0] S
noncomputable def zF_readTape_31 (d : Nat) (a0 : Nat) (a1 : Int32) (a2 : Int32) (S : ZS) : Option (Int32 × ZS) := zri d 68 7 31 [some (zr 7 a0), some (zi a1), some (zi a2), none] [] S
noncomputable def zF_readTape_95 (d : Nat) (a0 : Nat) (a2 : Int32) (s0 : Int32) (S : ZS) : Option (Int32 × ZS) := zri d 68 7 95 [some (zr 7 a0), none, some (zi a2), none] [zi s0] S
noncomputable def zF_passFirst (d : Nat) (o0 : Nat) (S : ZS) : Option (Int32 × ZS) := zci (zcall d) 69 [zr 7 o0] S
noncomputable def zF_readLet (d : Nat) (o0 : Nat) (S : ZS) : Option (Int32 × ZS) := zci (zcall d) 70 [zr 7 o0] S
noncomputable def zF_readUnit (d : Nat) (o0 : Nat) (S : ZS) : Option (Int32 × ZS) := zci (zcall d) 71 [zr 7 o0] S
noncomputable def zF_fail (d : Nat) (o0 : Nat) (a1 : Int32) (S : ZS) : Option (Int32 × ZS) := zci (zcall d) 72 [zr 7 o0, zi a1] S
noncomputable def zF_passSign (d : Nat) (o0 : Nat) (a1 : Int32) (S : ZS) : Option (Int32 × ZS) := zci (zcall d) 73 [zr 7 o0, zi a1] S
noncomputable def zF_passWord (d : Nat) (o0 : Nat) (o1 : Nat) (S : ZS) : Option (Int32 × ZS) := zci (zcall d) 74 [zr 7 o0, zr 12 o1] S
noncomputable def zF_isNumberWithin (d : Nat) (o0 : Nat) (a1 : Int32) (a2 : Int32) (S : ZS) : Option (Int32 × ZS) := zci (zcall d) 75 [zr 7 o0, zi a1, zi a2] S
noncomputable def zF_slotOf (d : Nat) (o0 : Nat) (w1 : Int64) (S : ZS) : Option (Int32 × ZS) := zci (zcall d) 76 [zr 7 o0, zl w1] S
noncomputable def zF_slotOf_2 (d : Nat) (a0 : Nat) (a1 : Int64) (a3 : Int32) (S : ZS) : Option (Int32 × ZS) := zri d 76 7 2 [some (zr 7 a0), some (zl a1), none, some (zi a3)] [] S
noncomputable def zF_readOperations (d : Nat) (o0 : Nat) (a1 : Int32) (a2 : Int32) (S : ZS) : Option (Int32 × ZS) := zci (zcall d) 77 [zr 7 o0, zi a1, zi a2] S
noncomputable def zF_readOperations_47 (d : Nat) (a0 : Nat) (a1 : Int32) (a2 : Int32) (a3 : Int32) (a4 : Int32) (a5 : Int32) (S : ZS) : Option (Int32 × ZS) := zri d 77 7 47 [some (zr 7 a0), some (zi a1), some (zi a2), some (zi a3), some (zi a4), some (zi a5)] [] S
noncomputable def zF_operationAt (d : Nat) (o0 : Nat) (a1 : Int32) (S : ZS) : Option (Int32 × ZS) := zci (zcall d) 78 [zr 7 o0, zi a1] S
noncomputable def zF_readPart (d : Nat) (o0 : Nat) (a1 : Int32) (S : ZS) : Option (Int32 × ZS) := zci (zcall d) 79 [zr 7 o0, zi a1] S
noncomputable def zF_readPart_74 (d : Nat) (a0 : Nat) (a1 : Int32) (a2 : Int32) (a3 : Int32) (a4 : Int32) (a5 : Int32) (S : ZS) : Option (Int32 × ZS) := zri d 79 7 74 [some (zr 7 a0), some (zi a1), some (zi a2), some (zi a3), some (zi a4), some (zi a5), none] [] S
noncomputable def zF_readPart_111 (d : Nat) (a0 : Nat) (a1 : Int32) (a2 : Int32) (a3 : Int32) (a4 : Int32) (a5 : Int32) (a6 : Int32) (S : ZS) : Option (Int32 × ZS) := zri d 79 7 111 [some (zr 7 a0), some (zi a1), some (zi a2), some (zi a3), some (zi a4), some (zi a5), some (zi a6)] [] S
noncomputable def zF_readWithin (d : Nat) (o0 : Nat) (a1 : Int32) (a2 : Int32) (S : ZS) : Option (Int32 × ZS) := zci (zcall d) 80 [zr 7 o0, zi a1, zi a2] S
noncomputable def zF_put (d : Nat) (o0 : Nat) (a1 : Int32) (S : ZS) : Option ZS := zcv (zcall d) 81 [zr 7 o0, zi a1] S
noncomputable def zF_unitsOf (d : Nat) (o0 : Nat) (a1 : Int32) (a2 : Int32) (a3 : Int32) (a4 : Int32) (S : ZS) : Option (Int32 × ZS) := zci (zcall d) 82 [zr 7 o0, zi a1, zi a2, zi a3, zi a4] S
noncomputable def zF_unitsOf_34 (d : Nat) (a0 : Nat) (a1 : Int32) (a2 : Int32) (a5 : Int32) (a6 : Int32) (a7 : Int32) (S : ZS) : Option (Int32 × ZS) := zri d 82 7 34 [some (zr 7 a0), some (zi a1), some (zi a2), none, none, some (zi a5), some (zi a6), some (zi a7), none] [] S
noncomputable def zF_unitsOf_139 (d : Nat) (a0 : Nat) (a1 : Int32) (a2 : Int32) (a6 : Int32) (a7 : Int32) (a8 : Int32) (s0 : Int32) (s1 : Int32) (S : ZS) : Option (Int32 × ZS) := zri d 82 7 139 [some (zr 7 a0), some (zi a1), some (zi a2), none, none, none, some (zi a6), some (zi a7), some (zi a8)] [zi s0, zi s1] S
noncomputable def zF_firstMet (d : Nat) (o0 : Nat) (S : ZS) : Option (Int32 × ZS) := zci (zcall d) 83 [zr 7 o0] S
noncomputable def zF_firstMet_6 (d : Nat) (a0 : Nat) (a1 : Int32) (a2 : Int32) (a3 : Int32) (S : ZS) : Option (Int32 × ZS) := zri d 83 7 6 [some (zr 7 a0), some (zi a1), some (zi a2), some (zi a3), none] [] S
noncomputable def zF_firstMet_51 (d : Nat) (a0 : Nat) (a1 : Int32) (a2 : Int32) (a3 : Int32) (a4 : Int32) (S : ZS) : Option (Int32 × ZS) := zri d 83 7 51 [some (zr 7 a0), some (zi a1), some (zi a2), some (zi a3), some (zi a4)] [] S
noncomputable def zF_resultOf (d : Nat) (o0 : Nat) (a1 : Int32) (a2 : Int32) (S : ZS) : Option (Int32 × ZS) := zci (zcall d) 84 [zr 7 o0, zi a1, zi a2] S
noncomputable def zF_resultOf_5 (d : Nat) (a0 : Nat) (a2 : Int32) (a3 : Int32) (a4 : Int32) (S : ZS) : Option (Int32 × ZS) := zri d 84 7 5 [some (zr 7 a0), none, some (zi a2), some (zi a3), some (zi a4), none] [] S
noncomputable def zF_resultOf_55 (d : Nat) (a0 : Nat) (a2 : Int32) (a3 : Int32) (a4 : Int32) (a5 : Int32) (S : ZS) : Option (Int32 × ZS) := zri d 84 7 55 [some (zr 7 a0), none, some (zi a2), some (zi a3), some (zi a4), some (zi a5)] [] S
noncomputable def zF_resultOf_95 (d : Nat) (a0 : Nat) (a2 : Int32) (a3 : Int32) (a4 : Int32) (a5 : Int32) (S : ZS) : Option (Int32 × ZS) := zri d 84 7 95 [some (zr 7 a0), none, some (zi a2), some (zi a3), some (zi a4), some (zi a5)] [] S
noncomputable def zF_operand (d : Nat) (o0 : Nat) (a1 : Int32) (S : ZS) : Option (Int32 × ZS) := zci (zcall d) 85 [zr 7 o0, zi a1] S
noncomputable def zF_joined (d : Nat) (a0 : Int32) (a1 : Int32) (a2 : Int32) (S : ZS) : Option (Int32 × ZS) := zci (zcall d) 86 [zi a0, zi a1, zi a2] S
noncomputable def zB_note (d : Nat) (o1 : Nat) (a2 : Int32) (S : ZS) : Option ZS := zcv (zcall d) 87 [zr 8 0, zr 2 o1, zi a2] S
noncomputable def zB_note_15 (d : Nat) (a1 : Nat) (a2 : Int32) (a3 : Int32) (a4 : Int32) (S : ZS) : Option ZS := zrv d 87 8 15 [some (zr 8 0), some (zr 2 a1), some (zi a2), some (zi a3), some (zi a4)] [] S
noncomputable def zB_note_77 (d : Nat) (a2 : Int32) (a3 : Int32) (S : ZS) : Option ZS := zrv d 87 8 77 [some (zr 8 0), none, some (zi a2), some (zi a3), none] [] S
noncomputable def zB_fewest (d : Nat)  (S : ZS) : Option (Int32 × ZS) := zci (zcall d) 88 [zr 8 0] S
noncomputable def zB_fewest_19 (d : Nat) (a1 : Int32) (S : ZS) : Option (Int32 × ZS) := zri d 88 8 19 [some (zr 8 0), some (zi a1)] [] S
noncomputable def zB_isInAllSets (d : Nat) (a1 : Int32) (S : ZS) : Option (Int32 × ZS) := zci (zcall d) 89 [zr 8 0, zi a1] S
noncomputable def zB_markSound (d : Nat)  (S : ZS) : Option ZS := zcv (zcall d) 90 [zr 8 0] S
noncomputable def zB_markSound_2 (d : Nat) (a1 : Int32) (S : ZS) : Option ZS := zrv d 90 8 2 [some (zr 8 0), some (zi a1), none] [] S
noncomputable def zB_markSound_23 (d : Nat) (a1 : Int32) (S : ZS) : Option ZS := zrv d 90 8 23 [some (zr 8 0), some (zi a1), none] [] S
noncomputable def zB_markSound_33 (d : Nat) (a1 : Int32) (a2 : Int32) (S : ZS) : Option ZS := zrv d 90 8 33 [some (zr 8 0), some (zi a1), some (zi a2)] [] S
noncomputable def zB_choose (d : Nat) (a1 : Int32) (a2 : Int32) (S : ZS) : Option ZS := zcv (zcall d) 91 [zr 8 0, zi a1, zi a2] S
noncomputable def zB_choose_20 (d : Nat) (a1 : Int32) (a2 : Int32) (a3 : Int32) (a4 : Int32) (S : ZS) : Option ZS := zrv d 91 8 20 [some (zr 8 0), some (zi a1), some (zi a2), some (zi a3), some (zi a4), none] [] S
noncomputable def zB_firstUnexplained (d : Nat) (a1 : Int32) (S : ZS) : Option (Int32 × ZS) := zci (zcall d) 92 [zr 8 0, zi a1] S
noncomputable def zB_firstUnexplained_2 (d : Nat) (a1 : Int32) (a2 : Int32) (S : ZS) : Option (Int32 × ZS) := zri d 92 8 2 [some (zr 8 0), some (zi a1), some (zi a2)] [] S
noncomputable def zB_isExplained (d : Nat) (a1 : Int32) (a2 : Int32) (S : ZS) : Option (Int32 × ZS) := zci (zcall d) 93 [zr 8 0, zi a1, zi a2] S
noncomputable def zB_isExplained_2 (d : Nat) (a1 : Int32) (a2 : Int32) (a3 : Int32) (S : ZS) : Option (Int32 × ZS) := zri d 93 8 2 [some (zr 8 0), some (zi a1), some (zi a2), some (zi a3), none] [] S
noncomputable def zB_isExplained_15 (d : Nat) (a1 : Int32) (a2 : Int32) (a3 : Int32) (a4 : Int32) (S : ZS) : Option (Int32 × ZS) := zri d 93 8 15 [some (zr 8 0), some (zi a1), some (zi a2), some (zi a3), some (zi a4)] [] S
noncomputable def zB_addSet (d : Nat) (a1 : Int32) (S : ZS) : Option ZS := zcv (zcall d) 94 [zr 8 0, zi a1] S
noncomputable def zB_addSet_2 (d : Nat) (a1 : Int32) (a2 : Int32) (S : ZS) : Option ZS := zrv d 94 8 2 [some (zr 8 0), some (zi a1), some (zi a2), none] [] S
noncomputable def zB_addSet_24 (d : Nat) (a1 : Int32) (a2 : Int32) (a3 : Int32) (S : ZS) : Option ZS := zrv d 94 8 24 [some (zr 8 0), some (zi a1), some (zi a2), some (zi a3)] [] S
noncomputable def zB_addSet_98 (d : Nat) (a1 : Int32) (S : ZS) : Option ZS := zrv d 94 8 98 [some (zr 8 0), some (zi a1), none, none] [] S
noncomputable def zB_comesFirst (d : Nat) (a1 : Int32) (S : ZS) : Option (Int32 × ZS) := zci (zcall d) 95 [zr 8 0, zi a1] S
noncomputable def zB_comesFirst_2 (d : Nat) (a1 : Int32) (a2 : Int32) (S : ZS) : Option (Int32 × ZS) := zri d 95 8 2 [some (zr 8 0), some (zi a1), some (zi a2)] [] S
noncomputable def zW_toRing (d : Nat) (o0 : Nat) (o1 : Nat) (a2 : Int32) (a3 : Int32) (S : ZS) : Option ZS := zcv (zcall d) 96 [zr 9 o0, zr 2 o1, zi a2, zi a3] S
noncomputable def zW_toRing_34 (d : Nat) (a0 : Nat) (a2 : Int32) (a3 : Int32) (a4 : Int32) (S : ZS) : Option ZS := zrv d 96 9 34 [some (zr 9 a0), none, some (zi a2), some (zi a3), some (zi a4)] [] S
noncomputable def zW_again (d : Nat) (o0 : Nat) (o1 : Nat) (S : ZS) : Option ZS := zcv (zcall d) 97 [zr 9 o0, zr 2 o1] S
noncomputable def zW_again_33 (d : Nat) (a0 : Nat) (a1 : Nat) (s0 : Int32) (s1 : Nat) (S : ZS) : Option ZS := zrv d 97 9 33 [some (zr 9 a0), some (zr 2 a1)] [zi s0, zr 9 s1] S
noncomputable def zW_ringsOverJunction (d : Nat) (o0 : Nat) (a1 : Int32) (S : ZS) : Option (Int32 × ZS) := zci (zcall d) 98 [zr 9 o0, zi a1] S
noncomputable def zW_ringsAtFinal (d : Nat) (o0 : Nat) (a2 : Int32) (a3 : Int32) (S : ZS) : Option (Int32 × ZS) := zci (zcall d) 99 [zr 9 o0, zr 0 0, zi a2, zi a3] S
noncomputable def zX_seconds (d : Nat) (a1 : Int32) (S : ZS) : Option (Int32 × ZS) := zci (zcall d) 100 [zr 10 0, zi a1] S
noncomputable def zX_rack (d : Nat) (a1 : Int32) (a2 : Int32) (a3 : Int32) (S : ZS) : Option (Int32 × ZS) := zci (zcall d) 101 [zr 10 0, zi a1, zi a2, zi a3] S
noncomputable def zX_outlet (d : Nat) (a1 : Int32) (a2 : Int32) (a3 : Int32) (a4 : Int32) (a5 : Int32) (S : ZS) : Option (Int32 × ZS) := zci (zcall d) 102 [zr 10 0, zi a1, zi a2, zi a3, zi a4, zi a5] S
noncomputable def zX_zone (d : Nat) (a1 : Int32) (a2 : Int32) (S : ZS) : Option (Int32 × ZS) := zci (zcall d) 103 [zr 10 0, zi a1, zi a2] S
noncomputable def zX_line (d : Nat) (a1 : Int32) (a2 : Int32) (a3 : Int32) (S : ZS) : Option (Int32 × ZS) := zci (zcall d) 104 [zr 10 0, zi a1, zi a2, zi a3] S
noncomputable def zX_out (d : Nat) (a1 : Int32) (a2 : Int32) (S : ZS) : Option (Int32 × ZS) := zci (zcall d) 105 [zr 10 0, zi a1, zi a2] S
noncomputable def zX_faulty (d : Nat) (a1 : Int32) (a2 : Int32) (S : ZS) : Option (Int32 × ZS) := zci (zcall d) 106 [zr 10 0, zi a1, zi a2] S
noncomputable def zX_lift (d : Nat) (a1 : Int32) (S : ZS) : Option (Int32 × ZS) := zci (zcall d) 107 [zr 10 0, zi a1] S
noncomputable def zX_dial (d : Nat) (a1 : Int32) (a2 : Int32) (S : ZS) : Option (Int32 × ZS) := zci (zcall d) 108 [zr 10 0, zi a1, zi a2] S
noncomputable def zX_answer (d : Nat) (a1 : Int32) (S : ZS) : Option (Int32 × ZS) := zci (zcall d) 109 [zr 10 0, zi a1] S
noncomputable def zX_end (d : Nat) (a1 : Int32) (S : ZS) : Option (Int32 × ZS) := zci (zcall d) 110 [zr 10 0, zi a1] S
noncomputable def zX_feed (d : Nat) (w1 : Int64) (w3 : Int64) (w5 : Int64) (S : ZS) : Option (Int32 × ZS) := zci (zcall d) 111 [zr 10 0, zl w1, zl w3, zl w5] S
noncomputable def zX_tariff (d : Nat)  (S : ZS) : Option (Int32 × ZS) := zci (zcall d) 112 [zr 10 0] S
noncomputable def zX_word (d : Nat) (a1 : Int32) (a2 : Int32) (S : ZS) : Option (Int32 × ZS) := zci (zcall d) 113 [zr 10 0, zi a1, zi a2] S
noncomputable def zX_bill (d : Nat) (a1 : Int32) (a2 : Int32) (a3 : Int32) (a4 : Int32) (S : ZS) : Option (Int32 × ZS) := zci (zcall d) 114 [zr 10 0, zi a1, zi a2, zi a3, zi a4] S
noncomputable def zX_bill_34 (d : Nat) (a1 : Int32) (a2 : Int32) (a3 : Int32) (a4 : Int32) (s0 : Int32) (S : ZS) : Option (Int32 × ZS) := zri d 114 11 34 [some (zr 10 0), some (zi a1), some (zi a2), some (zi a3), some (zi a4), none] [zi s0] S
noncomputable def zX_would (d : Nat) (a1 : Int32) (a2 : Int32) (a3 : Int32) (S : ZS) : Option (Int32 × ZS) := zci (zcall d) 115 [zr 10 0, zi a1, zi a2, zi a3] S
noncomputable def zX_block (d : Nat) (a1 : Int32) (a2 : Int32) (a3 : Int32) (a4 : Int32) (a5 : Int32) (a6 : Int32) (S : ZS) : Option (Int32 × ZS) := zci (zcall d) 116 [zr 10 0, zi a1, zi a2, zi a3, zi a4, zi a5, zi a6] S
noncomputable def zX_block_79 (d : Nat) (a1 : Int32) (a2 : Int32) (a3 : Int32) (a4 : Int32) (a5 : Int32) (a6 : Int32) (s0 : Int32) (S : ZS) : Option (Int32 × ZS) := zri d 116 11 79 [some (zr 10 0), some (zi a1), some (zi a2), some (zi a3), some (zi a4), some (zi a5), some (zi a6)] [zi s0] S
noncomputable def zX_laid (d : Nat) (a1 : Int32) (a2 : Int32) (a3 : Int32) (a4 : Int32) (S : ZS) : Option (Int32 × ZS) := zci (zcall d) 117 [zr 10 0, zi a1, zi a2, zi a3, zi a4] S
noncomputable def zX_lost (d : Nat) (a1 : Int32) (a2 : Int32) (a3 : Int32) (S : ZS) : Option (Int32 × ZS) := zci (zcall d) 118 [zr 10 0, zi a1, zi a2, zi a3] S
noncomputable def zX_more (d : Nat) (a1 : Int32) (a2 : Int32) (a3 : Int32) (a4 : Int32) (S : ZS) : Option (Int32 × ZS) := zci (zcall d) 119 [zr 10 0, zi a1, zi a2, zi a3, zi a4] S
noncomputable def zX_test (d : Nat) (a1 : Int32) (a2 : Int32) (a3 : Int32) (S : ZS) : Option (Int32 × ZS) := zci (zcall d) 120 [zr 10 0, zi a1, zi a2, zi a3] S
noncomputable def zX_test_48 (d : Nat) (a4 : Option ZR) (a5 : Int32) (S : ZS) : Option (Int32 × ZS) := zri d 120 11 48 [some (zr 10 0), none, none, none, some (zo a4), some (zi a5)] [] S
noncomputable def zX_explain (d : Nat) (a1 : Int32) (S : ZS) : Option (Int32 × ZS) := zci (zcall d) 121 [zr 10 0, zi a1] S
noncomputable def zX_sure (d : Nat) (a1 : Int32) (S : ZS) : Option (Int32 × ZS) := zci (zcall d) 122 [zr 10 0, zi a1] S
noncomputable def zX_forget (d : Nat)  (S : ZS) : Option (Int32 × ZS) := zci (zcall d) 123 [zr 10 0] S
noncomputable def zX_look (d : Nat) (a1 : Int32) (a2 : Int32) (S : ZS) : Option (Int32 × ZS) := zci (zcall d) 124 [zr 10 0, zi a1, zi a2] S
noncomputable def zX_path (d : Nat) (a1 : Int32) (a2 : Int32) (S : ZS) : Option (Int32 × ZS) := zci (zcall d) 125 [zr 10 0, zi a1, zi a2] S
noncomputable def zX_held (d : Nat) (a1 : Int32) (S : ZS) : Option (Int32 × ZS) := zci (zcall d) 126 [zr 10 0, zi a1] S
noncomputable def zX_book (d : Nat) (a1 : Int32) (a2 : Int32) (S : ZS) : Option (Int32 × ZS) := zci (zcall d) 127 [zr 10 0, zi a1, zi a2] S
noncomputable def zX_count (d : Nat) (a1 : Int32) (S : ZS) : Option (Int32 × ZS) := zci (zcall d) 128 [zr 10 0, zi a1] S
noncomputable def zX_today (d : Nat)  (S : ZS) : Option (Int32 × ZS) := zci (zcall d) 129 [zr 10 0] S
noncomputable def zX_mayDial (d : Nat) (a1 : Int32) (a2 : Int32) (a3 : Int32) (S : ZS) : Option (Int32 × ZS) := zci (zcall d) 130 [zr 10 0, zi a1, zi a2, zi a3] S
noncomputable def zX_blocksNext (d : Nat) (a1 : Int32) (a2 : Int32) (a3 : Int32) (a4 : Int32) (a5 : Int32) (a6 : Int32) (S : ZS) : Option (Int32 × ZS) := zci (zcall d) 131 [zr 10 0, zi a1, zi a2, zi a3, zi a4, zi a5, zi a6] S
noncomputable def zX_blocksNext_50 (d : Nat) (a1 : Int32) (s0 : Int32) (S : ZS) : Option (Int32 × ZS) := zri d 131 11 50 [some (zr 10 0), some (zi a1), none, none, none, none, none, none] [zi s0] S
noncomputable def zX_digitAt (d : Nat) (a0 : Int32) (a1 : Int32) (a2 : Int32) (S : ZS) : Option (Int32 × ZS) := zci (zcall d) 132 [zi a0, zi a1, zi a2] S
noncomputable def zM_thrown (d : Nat)  (S : ZS) : Option (Int32 × ZS) := zci (zcall d) 133 [zr 11 0] S
noncomputable def zM_within (d : Nat) (a0 : Int32) (a1 : Int32) (a2 : Int32) (S : ZS) : Option (Int32 × ZS) := zci (zcall d) 134 [zi a0, zi a1, zi a2] S
noncomputable def zM_isSwitch (d : Nat) (a1 : Int32) (S : ZS) : Option (Int32 × ZS) := zci (zcall d) 135 [zr 11 0, zi a1] S
noncomputable def zM_isEnd (d : Nat) (a1 : Int32) (S : ZS) : Option (Int32 × ZS) := zci (zcall d) 136 [zr 11 0, zi a1] S
noncomputable def zM_isLine (d : Nat) (a1 : Int32) (S : ZS) : Option (Int32 × ZS) := zci (zcall d) 137 [zr 11 0, zi a1] S
noncomputable def zM_isSelectors (d : Nat) (a1 : Int32) (S : ZS) : Option (Int32 × ZS) := zci (zcall d) 138 [zr 11 0, zi a1] S
noncomputable def zM_seconds (d : Nat) (a1 : Int32) (S : ZS) : Option (Int32 × ZS) := zci (zcall d) 139 [zr 11 0, zi a1] S
noncomputable def zM_rack (d : Nat) (a1 : Int32) (a2 : Int32) (a3 : Int32) (S : ZS) : Option (Int32 × ZS) := zci (zcall d) 140 [zr 11 0, zi a1, zi a2, zi a3] S
noncomputable def zM_rack_35 (d : Nat) (a1 : Int32) (a2 : Int32) (a3 : Int32) (s0 : Int32) (s1 : Int32) (s2 : Int32) (S : ZS) : Option (Int32 × ZS) := zri d 140 12 35 [some (zr 11 0), some (zi a1), some (zi a2), some (zi a3)] [zi s0, zi s1, zi s2] S
noncomputable def zM_outletAt (d : Nat) (a0 : Int32) (a1 : Int32) (a2 : Int32) (a3 : Int32) (S : ZS) : Option (Int32 × ZS) := zci (zcall d) 141 [zi a0, zi a1, zi a2, zi a3] S
noncomputable def zM_outlet (d : Nat) (a1 : Int32) (a2 : Int32) (a3 : Int32) (a4 : Int32) (a5 : Int32) (S : ZS) : Option (Int32 × ZS) := zci (zcall d) 142 [zr 11 0, zi a1, zi a2, zi a3, zi a4, zi a5] S
noncomputable def zM_outlet_66 (d : Nat) (a1 : Int32) (a2 : Int32) (a3 : Int32) (a4 : Int32) (a5 : Int32) (S : ZS) : Option (Int32 × ZS) := zri d 142 12 66 [some (zr 11 0), some (zi a1), some (zi a2), some (zi a3), some (zi a4), some (zi a5)] [] S
noncomputable def zM_zone (d : Nat) (a1 : Int32) (a2 : Int32) (S : ZS) : Option (Int32 × ZS) := zci (zcall d) 143 [zr 11 0, zi a1, zi a2] S
noncomputable def zM_lineOf (d : Nat) (a1 : Int32) (a2 : Int32) (S : ZS) : Option (Int32 × ZS) := zci (zcall d) 144 [zr 11 0, zi a1, zi a2] S
noncomputable def zM_lineOf_2 (d : Nat) (a1 : Int32) (a2 : Int32) (a3 : Int32) (S : ZS) : Option (Int32 × ZS) := zri d 144 12 2 [some (zr 11 0), some (zi a1), some (zi a2), some (zi a3)] [] S
noncomputable def zM_line (d : Nat) (a1 : Int32) (a2 : Int32) (a3 : Int32) (S : ZS) : Option (Int32 × ZS) := zci (zcall d) 145 [zr 11 0, zi a1, zi a2, zi a3] S
noncomputable def zM_out (d : Nat) (a1 : Int32) (a2 : Int32) (S : ZS) : Option (Int32 × ZS) := zci (zcall d) 146 [zr 11 0, zi a1, zi a2] S
noncomputable def zM_faulty (d : Nat) (a1 : Int32) (a2 : Int32) (S : ZS) : Option (Int32 × ZS) := zci (zcall d) 147 [zr 11 0, zi a1, zi a2] S
noncomputable def zM_isFree (d : Nat) (a1 : Int32) (S : ZS) : Option (Int32 × ZS) := zci (zcall d) 148 [zr 11 0, zi a1] S
noncomputable def zM_isQuiet (d : Nat) (a1 : Int32) (S : ZS) : Option (Int32 × ZS) := zci (zcall d) 149 [zr 11 0, zi a1] S
noncomputable def zM_firstFree (d : Nat) (a1 : Int32) (S : ZS) : Option (Int32 × ZS) := zci (zcall d) 150 [zr 11 0, zi a1] S
noncomputable def zM_firstFree_2 (d : Nat) (a1 : Int32) (a2 : Int32) (S : ZS) : Option (Int32 × ZS) := zri d 150 12 2 [some (zr 11 0), some (zi a1), some (zi a2)] [] S
noncomputable def zM_goesTo (d : Nat) (a1 : Int32) (a2 : Int32) (S : ZS) : Option (Int32 × ZS) := zci (zcall d) 151 [zr 11 0, zi a1, zi a2] S
noncomputable def zM_goesTo_11 (d : Nat) (a1 : Int32) (a2 : Int32) (a3 : Int32) (a4 : Int32) (a5 : Int32) (S : ZS) : Option (Int32 × ZS) := zri d 151 12 11 [some (zr 11 0), some (zi a1), some (zi a2), some (zi a3), some (zi a4), some (zi a5), none] [] S
noncomputable def zM_hold (d : Nat) (a1 : Int32) (a2 : Int32) (S : ZS) : Option ZS := zcv (zcall d) 152 [zr 11 0, zi a1, zi a2] S
noncomputable def zM_lift (d : Nat) (a1 : Int32) (S : ZS) : Option (Int32 × ZS) := zci (zcall d) 153 [zr 11 0, zi a1] S
noncomputable def zM_head (d : Nat) (a1 : Int32) (S : ZS) : Option (Int32 × ZS) := zci (zcall d) 154 [zr 11 0, zi a1] S
noncomputable def zM_isEnding (d : Nat) (a1 : Int32) (S : ZS) : Option (Int32 × ZS) := zci (zcall d) 155 [zr 11 0, zi a1] S
noncomputable def zM_dial (d : Nat) (a1 : Int32) (a2 : Int32) (S : ZS) : Option (Int32 × ZS) := zci (zcall d) 156 [zr 11 0, zi a1, zi a2] S
noncomputable def zM_dial_78 (d : Nat) (a1 : Int32) (a2 : Int32) (S : ZS) : Option (Int32 × ZS) := zri d 156 12 78 [some (zr 11 0), some (zi a1), some (zi a2), none, none] [] S
noncomputable def zM_dial_122 (d : Nat) (a1 : Int32) (a4 : Int32) (S : ZS) : Option (Int32 × ZS) := zri d 156 12 122 [some (zr 11 0), some (zi a1), none, none, some (zi a4)] [] S
noncomputable def zM_dial_198 (d : Nat) (a1 : Int32) (a2 : Int32) (a3 : Int32) (S : ZS) : Option (Int32 × ZS) := zri d 156 12 198 [some (zr 11 0), some (zi a1), some (zi a2), some (zi a3), none] [] S
noncomputable def zM_dial_297 (d : Nat) (a1 : Int32) (a4 : Int32) (s0 : Int32) (s1 : Int32) (S : ZS) : Option (Int32 × ZS) := zri d 156 12 297 [some (zr 11 0), some (zi a1), none, none, some (zi a4)] [zi s0, zi s1, zr 71 0] S
noncomputable def zM_answer (d : Nat) (a1 : Int32) (S : ZS) : Option (Int32 × ZS) := zci (zcall d) 157 [zr 11 0, zi a1] S
noncomputable def zM_end (d : Nat) (a1 : Int32) (S : ZS) : Option (Int32 × ZS) := zci (zcall d) 158 [zr 11 0, zi a1] S
noncomputable def zM_end_122 (d : Nat) (a1 : Int32) (a2 : Int32) (a3 : Int32) (S : ZS) : Option (Int32 × ZS) := zri d 158 12 122 [some (zr 11 0), some (zi a1), some (zi a2), some (zi a3)] [] S
noncomputable def zM_word (d : Nat) (a1 : Int32) (a2 : Int32) (S : ZS) : Option (Int32 × ZS) := zci (zcall d) 159 [zr 11 0, zi a1, zi a2] S
noncomputable def zM_unitsBy (d : Nat) (a1 : Int32) (a2 : Int32) (S : ZS) : Option (Int32 × ZS) := zci (zcall d) 160 [zr 11 0, zi a1, zi a2] S
noncomputable def zM_unitsBy_10 (d : Nat) (a1 : Int32) (a2 : Int32) (a3 : Int32) (a4 : Int32) (S : ZS) : Option (Int32 × ZS) := zri d 160 12 10 [some (zr 11 0), some (zi a1), some (zi a2), some (zi a3), some (zi a4)] [] S
noncomputable def zM_bill (d : Nat) (a1 : Int32) (a2 : Int32) (a3 : Int32) (a4 : Int32) (S : ZS) : Option (Int32 × ZS) := zci (zcall d) 161 [zr 11 0, zi a1, zi a2, zi a3, zi a4] S
noncomputable def zM_bill_58 (d : Nat) (a1 : Int32) (a2 : Int32) (a3 : Int32) (a4 : Int32) (a5 : Int32) (a6 : Int32) (S : ZS) : Option (Int32 × ZS) := zri d 161 12 58 [some (zr 11 0), some (zi a1), some (zi a2), some (zi a3), some (zi a4), some (zi a5), some (zi a6)] [] S
noncomputable def zM_feed (d : Nat) (w1 : Int64) (w3 : Int64) (w5 : Int64) (S : ZS) : Option (Int32 × ZS) := zci (zcall d) 162 [zr 11 0, zl w1, zl w3, zl w5] S
noncomputable def zM_feed_8 (d : Nat) (a1 : Int64) (a3 : Int64) (a5 : Int64) (a7 : Int32) (S : ZS) : Option (Int32 × ZS) := zri d 162 12 8 [some (zr 11 0), some (zl a1), none, some (zl a3), none, some (zl a5), none, some (zi a7), none, none, none] [] S
noncomputable def zM_feed_39 (d : Nat) (a1 : Int64) (a3 : Int64) (a5 : Int64) (a7 : Int32) (s0 : Int64) (S : ZS) : Option (Int32 × ZS) := zri d 162 12 39 [some (zr 11 0), some (zl a1), none, some (zl a3), none, some (zl a5), none, some (zi a7), none, none, none] [zl s0] S
noncomputable def zM_signAt (d : Nat) (a1 : Int32) (S : ZS) : Option (Int32 × ZS) := zci (zcall d) 163 [zr 11 0, zi a1] S
noncomputable def zM_next (d : Nat)  (S : ZS) : Option ZS := zcv (zcall d) 164 [zr 11 0] S
noncomputable def zM_next_0 (d : Nat)  (S : ZS) : Option ZS := zrv d 164 12 0 [some (zr 11 0), none] [] S
noncomputable def zM_next_52 (d : Nat)  (S : ZS) : Option ZS := zrv d 164 12 52 [some (zr 11 0), none] [] S
noncomputable def zM_next_109 (d : Nat)  (S : ZS) : Option ZS := zrv d 164 12 109 [some (zr 11 0), none] [] S
noncomputable def zM_next_188 (d : Nat)  (S : ZS) : Option ZS := zrv d 164 12 188 [some (zr 11 0), none] [] S
noncomputable def zM_next_224 (d : Nat)  (S : ZS) : Option ZS := zrv d 164 12 224 [some (zr 11 0), none] [] S
noncomputable def zM_next_299 (d : Nat)  (S : ZS) : Option ZS := zrv d 164 12 299 [some (zr 11 0), none] [] S
noncomputable def zM_next_322 (d : Nat) (a1 : Int32) (S : ZS) : Option ZS := zrv d 164 12 322 [some (zr 11 0), some (zi a1)] [] S
noncomputable def zM_next_345 (d : Nat) (a1 : Int32) (S : ZS) : Option ZS := zrv d 164 12 345 [none, some (zi a1)] [zr 11 0] S
noncomputable def zM_isWord (d : Nat) (w1 : Int64) (S : ZS) : Option (Int32 × ZS) := zci (zcall d) 165 [zr 11 0, zl w1] S
noncomputable def zM_isSign (d : Nat) (a1 : Int32) (S : ZS) : Option (Int32 × ZS) := zci (zcall d) 166 [zr 11 0, zi a1] S
noncomputable def zM_fails (d : Nat) (a1 : Int32) (S : ZS) : Option (Int32 × ZS) := zci (zcall d) 167 [zr 11 0, zi a1] S
noncomputable def zM_puts (d : Nat) (a1 : Int32) (S : ZS) : Option ZS := zcv (zcall d) 168 [zr 11 0, zi a1] S
noncomputable def zM_fact (d : Nat)  (S : ZS) : Option (Int32 × ZS) := zci (zcall d) 169 [zr 11 0] S
noncomputable def zM_isOwn (d : Nat)  (S : ZS) : Option (Int32 × ZS) := zci (zcall d) 170 [zr 11 0] S
noncomputable def zM_nameAt (d : Nat)  (S : ZS) : Option (Int32 × ZS) := zci (zcall d) 171 [zr 11 0] S
noncomputable def zM_nameAt_2 (d : Nat) (a1 : Int32) (S : ZS) : Option (Int32 × ZS) := zri d 171 12 2 [some (zr 11 0), some (zi a1)] [] S
noncomputable def zM_reads (d : Nat) (a1 : Int32) (S : ZS) : Option (Int32 × ZS) := zci (zcall d) 172 [zr 11 0, zi a1] S
noncomputable def zM_reads_21 (d : Nat) (a1 : Int32) (a2 : Int32) (a3 : Int32) (S : ZS) : Option (Int32 × ZS) := zri d 172 12 21 [some (zr 11 0), some (zi a1), some (zi a2), some (zi a3), none, none, none, none] [] S
noncomputable def zM_reads_68 (d : Nat) (a1 : Int32) (a2 : Int32) (a3 : Int32) (a4 : Int32) (a5 : Int32) (a6 : Int32) (s0 : Int32) (S : ZS) : Option (Int32 × ZS) := zri d 172 12 68 [some (zr 11 0), some (zi a1), some (zi a2), some (zi a3), some (zi a4), some (zi a5), some (zi a6), none] [zi s0] S
noncomputable def zM_reads_122 (d : Nat) (a1 : Int32) (a2 : Int32) (a3 : Int32) (a4 : Int32) (a5 : Int32) (a6 : Int32) (a7 : Int32) (S : ZS) : Option (Int32 × ZS) := zri d 172 12 122 [some (zr 11 0), some (zi a1), some (zi a2), some (zi a3), some (zi a4), some (zi a5), some (zi a6), some (zi a7)] [] S
noncomputable def zM_reads_156 (d : Nat) (a1 : Int32) (a2 : Int32) (a3 : Int32) (a5 : Int32) (s0 : Int32) (S : ZS) : Option (Int32 × ZS) := zri d 172 12 156 [some (zr 11 0), some (zi a1), some (zi a2), some (zi a3), none, some (zi a5), none, none] [zi s0, zr 11 0] S
noncomputable def zM_reads_226 (d : Nat) (a1 : Int32) (a2 : Int32) (a3 : Int32) (S : ZS) : Option (Int32 × ZS) := zri d 172 12 226 [some (zr 11 0), some (zi a1), some (zi a2), some (zi a3), none, none, none, none] [] S
noncomputable def zM_reads_280 (d : Nat) (a1 : Int32) (a2 : Int32) (S : ZS) : Option (Int32 × ZS) := zri d 172 12 280 [some (zr 11 0), some (zi a1), some (zi a2), none, none, none, none, none] [] S
noncomputable def zM_reads_337 (d : Nat) (a1 : Int32) (a2 : Int32) (a3 : Int32) (S : ZS) : Option (Int32 × ZS) := zri d 172 12 337 [some (zr 11 0), some (zi a1), some (zi a2), some (zi a3), none, none, none, none] [] S
noncomputable def zM_reads_378 (d : Nat) (a1 : Int32) (a2 : Int32) (a3 : Int32) (S : ZS) : Option (Int32 × ZS) := zri d 172 12 378 [some (zr 11 0), some (zi a1), some (zi a2), some (zi a3), none, none, none, none] [] S
noncomputable def zM_reads_398 (d : Nat) (a1 : Int32) (a2 : Int32) (S : ZS) : Option (Int32 × ZS) := zri d 172 12 398 [some (zr 11 0), some (zi a1), some (zi a2), none, none, none, none, none] [] S
noncomputable def zM_reads_453 (d : Nat) (a1 : Int32) (a2 : Int32) (a3 : Int32) (S : ZS) : Option (Int32 × ZS) := zri d 172 12 453 [some (zr 11 0), some (zi a1), some (zi a2), some (zi a3), none, none, none, none] [] S
noncomputable def zM_reads_473 (d : Nat) (a1 : Int32) (a2 : Int32) (S : ZS) : Option (Int32 × ZS) := zri d 172 12 473 [some (zr 11 0), some (zi a1), some (zi a2), none, none, none, none, none] [] S
noncomputable def zM_readsLine (d : Nat)  (S : ZS) : Option (Int32 × ZS) := zci (zcall d) 173 [zr 11 0] S
noncomputable def zM_readsLine_28 (d : Nat) (a1 : Int32) (S : ZS) : Option (Int32 × ZS) := zri d 173 12 28 [some (zr 11 0), some (zi a1), none, none, none] [] S
noncomputable def zM_tariff (d : Nat)  (S : ZS) : Option (Int32 × ZS) := zci (zcall d) 174 [zr 11 0] S
noncomputable def zM_tariff_48 (d : Nat)  (S : ZS) : Option (Int32 × ZS) := zri d 174 12 48 [some (zr 11 0), none] [] S
noncomputable def zM_tariff_93 (d : Nat) (a1 : Int32) (S : ZS) : Option (Int32 × ZS) := zri d 174 12 93 [some (zr 11 0), some (zi a1)] [] S
noncomputable def zM_tariff_190 (d : Nat) (a1 : Int32) (S : ZS) : Option (Int32 × ZS) := zri d 174 12 190 [some (zr 11 0), some (zi a1)] [] S
noncomputable def zM_opens (d : Nat) (a1 : Int32) (S : ZS) : Option ZS := zcv (zcall d) 175 [zr 11 0, zi a1] S
noncomputable def zM_sums (d : Nat) (a1 : Int32) (S : ZS) : Option ZS := zcv (zcall d) 176 [zr 11 0, zi a1] S
noncomputable def zM_tests (d : Nat) (a1 : Int32) (S : ZS) : Option ZS := zcv (zcall d) 177 [zr 11 0, zi a1] S
noncomputable def zM_tests_44 (d : Nat) (a1 : Int32) (a2 : Int32) (S : ZS) : Option ZS := zrv d 177 12 44 [some (zr 11 0), some (zi a1), some (zi a2)] [] S
noncomputable def zM_tests_76 (d : Nat) (a1 : Int32) (a2 : Int32) (S : ZS) : Option ZS := zrv d 177 12 76 [some (zr 11 0), some (zi a1), some (zi a2)] [] S
noncomputable def zM_tests_106 (d : Nat) (a1 : Int32) (a2 : Int32) (S : ZS) : Option ZS := zrv d 177 12 106 [some (zr 11 0), some (zi a1), some (zi a2)] [] S
noncomputable def zM_tests_136 (d : Nat) (a1 : Int32) (a2 : Int32) (S : ZS) : Option ZS := zrv d 177 12 136 [some (zr 11 0), some (zi a1), some (zi a2)] [] S
noncomputable def zM_worth (d : Nat) (a1 : Int32) (S : ZS) : Option (Int32 × ZS) := zci (zcall d) 178 [zr 11 0, zi a1] S
noncomputable def zM_worth_14 (d : Nat) (a1 : Int32) (a2 : Int32) (a3 : Int32) (S : ZS) : Option (Int32 × ZS) := zri d 178 12 14 [some (zr 11 0), some (zi a1), some (zi a2), some (zi a3), none, none] [] S
noncomputable def zM_worth_46 (d : Nat) (a1 : Int32) (a2 : Int32) (a3 : Int32) (a4 : Int32) (S : ZS) : Option (Int32 × ZS) := zri d 178 12 46 [some (zr 11 0), some (zi a1), some (zi a2), some (zi a3), some (zi a4), none] [] S
noncomputable def zM_worth_136 (d : Nat) (a1 : Int32) (a2 : Int32) (a3 : Int32) (a4 : Int32) (S : ZS) : Option (Int32 × ZS) := zri d 178 12 136 [some (zr 11 0), some (zi a1), some (zi a2), some (zi a3), some (zi a4), none] [] S
noncomputable def zM_worth_287 (d : Nat) (a1 : Int32) (a2 : Int32) (a3 : Int32) (a5 : Int32) (S : ZS) : Option (Int32 × ZS) := zri d 178 12 287 [some (zr 11 0), some (zi a1), some (zi a2), some (zi a3), none, some (zi a5)] [] S
noncomputable def zM_worth_319 (d : Nat) (a1 : Int32) (a2 : Int32) (a3 : Int32) (a5 : Int32) (S : ZS) : Option (Int32 × ZS) := zri d 178 12 319 [some (zr 11 0), some (zi a1), some (zi a2), some (zi a3), none, some (zi a5)] [] S
noncomputable def zM_unitsOf (d : Nat) (a1 : Int32) (S : ZS) : Option (Int32 × ZS) := zci (zcall d) 179 [zr 11 0, zi a1] S
noncomputable def zM_unitsOf_16 (d : Nat) (a1 : Int32) (a2 : Int32) (a3 : Int32) (a4 : Int32) (S : ZS) : Option (Int32 × ZS) := zri d 179 12 16 [some (zr 11 0), some (zi a1), some (zi a2), some (zi a3), some (zi a4), none, none, none, none] [] S
noncomputable def zM_unitsOf_49 (d : Nat) (a1 : Int32) (a2 : Int32) (a3 : Int32) (a4 : Int32) (s0 : Int32) (s1 : Int32) (S : ZS) : Option (Int32 × ZS) := zri d 179 12 49 [some (zr 11 0), some (zi a1), some (zi a2), some (zi a3), some (zi a4), none, none, none, none] [zi s0, zi s1, zr 110 0] S
noncomputable def zM_unitsOf_120 (d : Nat) (a1 : Int32) (a2 : Int32) (a3 : Int32) (a4 : Int32) (a5 : Int32) (a6 : Int32) (a7 : Int32) (S : ZS) : Option (Int32 × ZS) := zri d 179 12 120 [some (zr 11 0), some (zi a1), some (zi a2), some (zi a3), some (zi a4), some (zi a5), some (zi a6), some (zi a7), none] [] S
noncomputable def zM_clears (d : Nat)  (S : ZS) : Option ZS := zcv (zcall d) 180 [zr 11 0] S
noncomputable def zM_clears_2 (d : Nat) (a1 : Int32) (S : ZS) : Option ZS := zrv d 180 12 2 [some (zr 11 0), some (zi a1)] [] S
noncomputable def zM_clears_23 (d : Nat) (a1 : Int32) (S : ZS) : Option ZS := zrv d 180 12 23 [some (zr 11 0), some (zi a1)] [] S
noncomputable def zM_digitOf (d : Nat) (a0 : Int32) (a1 : Int32) (a2 : Int32) (S : ZS) : Option (Int32 × ZS) := zci (zcall d) 181 [zi a0, zi a1, zi a2] S
noncomputable def zM_digitOf_7 (d : Nat) (a1 : Int32) (a3 : Int32) (a4 : Int32) (S : ZS) : Option (Int32 × ZS) := zri d 181 12 7 [none, some (zi a1), none, some (zi a3), some (zi a4)] [] S
noncomputable def zM_tries (d : Nat) (a1 : Int32) (S : ZS) : Option ZS := zcv (zcall d) 182 [zr 11 0, zi a1] S
noncomputable def zM_meets (d : Nat) (a1 : Int32) (a2 : Int32) (a3 : Int32) (S : ZS) : Option (Int32 × ZS) := zci (zcall d) 183 [zr 11 0, zi a1, zi a2, zi a3] S
noncomputable def zM_meets_74 (d : Nat) (a2 : Int32) (a3 : Int32) (a5 : Int32) (a6 : Int32) (a7 : Int32) (a8 : Int32) (S : ZS) : Option (Int32 × ZS) := zri d 183 12 74 [some (zr 11 0), none, some (zi a2), some (zi a3), none, some (zi a5), some (zi a6), some (zi a7), some (zi a8), none, none, none] [] S
noncomputable def zM_meets_138 (d : Nat) (a2 : Int32) (a3 : Int32) (a6 : Int32) (a7 : Int32) (a8 : Int32) (a11 : Int32) (S : ZS) : Option (Int32 × ZS) := zri d 183 12 138 [some (zr 11 0), none, some (zi a2), some (zi a3), none, none, some (zi a6), some (zi a7), some (zi a8), none, none, some (zi a11)] [] S
noncomputable def zM_meets_195 (d : Nat) (a2 : Int32) (a3 : Int32) (a5 : Int32) (a6 : Int32) (a7 : Int32) (a8 : Int32) (a9 : Int32) (a10 : Int32) (S : ZS) : Option (Int32 × ZS) := zri d 183 12 195 [some (zr 11 0), none, some (zi a2), some (zi a3), none, some (zi a5), some (zi a6), some (zi a7), some (zi a8), some (zi a9), some (zi a10), none] [] S
noncomputable def zM_canTry (d : Nat) (a1 : Int32) (a2 : Int32) (a3 : Int32) (S : ZS) : Option (Int32 × ZS) := zci (zcall d) 184 [zr 11 0, zi a1, zi a2, zi a3] S
noncomputable def zM_would (d : Nat) (a1 : Int32) (a2 : Int32) (a3 : Int32) (S : ZS) : Option (Int32 × ZS) := zci (zcall d) 185 [zr 11 0, zi a1, zi a2, zi a3] S
noncomputable def zM_block (d : Nat) (a1 : Int32) (a2 : Int32) (a3 : Int32) (a4 : Int32) (a5 : Int32) (a6 : Int32) (S : ZS) : Option (Int32 × ZS) := zci (zcall d) 186 [zr 11 0, zi a1, zi a2, zi a3, zi a4, zi a5, zi a6] S
noncomputable def zM_block_56 (d : Nat) (a1 : Int32) (a2 : Int32) (a3 : Int32) (a4 : Int32) (a5 : Int32) (a6 : Int32) (s0 : Int32) (S : ZS) : Option (Int32 × ZS) := zri d 186 12 56 [some (zr 11 0), some (zi a1), some (zi a2), some (zi a3), some (zi a4), some (zi a5), some (zi a6), none, none, none] [zi s0] S
noncomputable def zM_block_98 (d : Nat) (a1 : Int32) (a2 : Int32) (a3 : Int32) (a8 : Int32) (s0 : Int32) (S : ZS) : Option (Int32 × ZS) := zri d 186 12 98 [some (zr 11 0), some (zi a1), some (zi a2), some (zi a3), none, none, none, none, some (zi a8), none] [zi s0] S
noncomputable def zM_mayUse (d : Nat) (a1 : Int32) (a2 : Int32) (S : ZS) : Option (Int32 × ZS) := zci (zcall d) 187 [zr 11 0, zi a1, zi a2] S
noncomputable def zM_mayUse_23 (d : Nat) (a1 : Int32) (S : ZS) : Option (Int32 × ZS) := zri d 187 12 23 [some (zr 11 0), some (zi a1), none] [] S
noncomputable def zM_lays (d : Nat) (a1 : Int32) (a2 : Int32) (a3 : Int32) (a4 : Int32) (a5 : Int32) (a6 : Int32) (S : ZS) : Option (Int32 × ZS) := zci (zcall d) 188 [zr 11 0, zi a1, zi a2, zi a3, zi a4, zi a5, zi a6] S
noncomputable def zM_lays_55 (d : Nat) (a1 : Int32) (a2 : Int32) (a3 : Int32) (a4 : Int32) (a5 : Int32) (a6 : Int32) (a7 : Int32) (a8 : Int32) (a9 : Int32) (a10 : Int32) (a11 : Int32) (S : ZS) : Option (Int32 × ZS) := zri d 188 12 55 [some (zr 11 0), some (zi a1), some (zi a2), some (zi a3), some (zi a4), some (zi a5), some (zi a6), some (zi a7), some (zi a8), some (zi a9), some (zi a10), some (zi a11), none, none, none] [] S
noncomputable def zM_lays_170 (d : Nat) (a1 : Int32) (a2 : Int32) (a3 : Int32) (a4 : Int32) (a5 : Int32) (a6 : Int32) (a7 : Int32) (a8 : Int32) (a9 : Int32) (a10 : Int32) (a11 : Int32) (a12 : Int32) (S : ZS) : Option (Int32 × ZS) := zri d 188 12 170 [some (zr 11 0), some (zi a1), some (zi a2), some (zi a3), some (zi a4), some (zi a5), some (zi a6), some (zi a7), some (zi a8), some (zi a9), some (zi a10), some (zi a11), some (zi a12), none, none] [] S
noncomputable def zM_lays_206 (d : Nat) (a1 : Int32) (a2 : Int32) (a3 : Int32) (a4 : Int32) (a5 : Int32) (a6 : Int32) (a7 : Int32) (a8 : Int32) (a9 : Int32) (a10 : Int32) (a11 : Int32) (a12 : Int32) (S : ZS) : Option (Int32 × ZS) := zri d 188 12 206 [some (zr 11 0), some (zi a1), some (zi a2), some (zi a3), some (zi a4), some (zi a5), some (zi a6), some (zi a7), some (zi a8), some (zi a9), some (zi a10), some (zi a11), some (zi a12), none, none] [] S
noncomputable def zM_takes (d : Nat) (a1 : Int32) (S : ZS) : Option ZS := zcv (zcall d) 189 [zr 11 0, zi a1] S
noncomputable def zM_gives (d : Nat)  (S : ZS) : Option ZS := zcv (zcall d) 190 [zr 11 0] S
noncomputable def zM_gives_2 (d : Nat) (a1 : Int32) (S : ZS) : Option ZS := zrv d 190 12 2 [some (zr 11 0), some (zi a1)] [] S
noncomputable def zM_counts (d : Nat) (a1 : Int32) (a2 : Int32) (a3 : Int32) (S : ZS) : Option (Int32 × ZS) := zci (zcall d) 191 [zr 11 0, zi a1, zi a2, zi a3] S
noncomputable def zM_counts_5 (d : Nat) (a1 : Int32) (a2 : Int32) (a3 : Int32) (a4 : Int32) (S : ZS) : Option (Int32 × ZS) := zri d 191 12 5 [some (zr 11 0), some (zi a1), some (zi a2), some (zi a3), some (zi a4)] [] S
noncomputable def zM_counts_31 (d : Nat) (a1 : Int32) (a2 : Int32) (a4 : Int32) (S : ZS) : Option (Int32 × ZS) := zri d 191 12 31 [some (zr 11 0), some (zi a1), some (zi a2), none, some (zi a4)] [] S
noncomputable def zM_canLay (d : Nat) (a1 : Int32) (a2 : Int32) (a3 : Int32) (a4 : Int32) (S : ZS) : Option (Int32 × ZS) := zci (zcall d) 192 [zr 11 0, zi a1, zi a2, zi a3, zi a4] S
noncomputable def zM_canLay_3 (d : Nat) (a1 : Int32) (a2 : Int32) (a3 : Int32) (a4 : Int32) (a5 : Int32) (S : ZS) : Option (Int32 × ZS) := zri d 192 12 3 [some (zr 11 0), some (zi a1), some (zi a2), some (zi a3), some (zi a4), some (zi a5), none] [] S
noncomputable def zM_canLay_27 (d : Nat) (a1 : Int32) (a2 : Int32) (a3 : Int32) (a4 : Int32) (a5 : Int32) (S : ZS) : Option (Int32 × ZS) := zri d 192 12 27 [some (zr 11 0), some (zi a1), some (zi a2), some (zi a3), some (zi a4), some (zi a5), none] [] S
noncomputable def zM_canMove (d : Nat) (a1 : Int32) (a2 : Int32) (a3 : Int32) (a4 : Int32) (S : ZS) : Option (Int32 × ZS) := zci (zcall d) 193 [zr 11 0, zi a1, zi a2, zi a3, zi a4] S
noncomputable def zM_canMove_6 (d : Nat) (a1 : Int32) (a2 : Int32) (a3 : Int32) (a4 : Int32) (a5 : Int32) (a6 : Int32) (S : ZS) : Option (Int32 × ZS) := zri d 193 12 6 [some (zr 11 0), some (zi a1), some (zi a2), some (zi a3), some (zi a4), some (zi a5), some (zi a6), none, none, none, none] [] S
noncomputable def zM_canMove_45 (d : Nat) (a1 : Int32) (a2 : Int32) (a3 : Int32) (a4 : Int32) (a5 : Int32) (a6 : Int32) (S : ZS) : Option (Int32 × ZS) := zri d 193 12 45 [some (zr 11 0), some (zi a1), some (zi a2), some (zi a3), some (zi a4), some (zi a5), some (zi a6), none, none, none, none] [] S
noncomputable def zM_canMove_72 (d : Nat) (a1 : Int32) (a2 : Int32) (a3 : Int32) (a4 : Int32) (a5 : Int32) (a6 : Int32) (S : ZS) : Option (Int32 × ZS) := zri d 193 12 72 [some (zr 11 0), some (zi a1), some (zi a2), some (zi a3), some (zi a4), some (zi a5), some (zi a6), none, none, none, none] [] S
noncomputable def zM_canMove_124 (d : Nat) (a1 : Int32) (a2 : Int32) (a3 : Int32) (a4 : Int32) (a5 : Int32) (a7 : Int32) (a8 : Int32) (a9 : Int32) (S : ZS) : Option (Int32 × ZS) := zri d 193 12 124 [some (zr 11 0), some (zi a1), some (zi a2), some (zi a3), some (zi a4), some (zi a5), none, some (zi a7), some (zi a8), some (zi a9), none] [] S
noncomputable def zM_canMove_178 (d : Nat) (a1 : Int32) (a2 : Int32) (a3 : Int32) (a4 : Int32) (a5 : Int32) (a7 : Int32) (a8 : Int32) (a9 : Int32) (a10 : Int32) (S : ZS) : Option (Int32 × ZS) := zri d 193 12 178 [some (zr 11 0), some (zi a1), some (zi a2), some (zi a3), some (zi a4), some (zi a5), none, some (zi a7), some (zi a8), some (zi a9), some (zi a10)] [] S
noncomputable def zM_laid (d : Nat) (a1 : Int32) (a2 : Int32) (a3 : Int32) (a4 : Int32) (S : ZS) : Option (Int32 × ZS) := zci (zcall d) 194 [zr 11 0, zi a1, zi a2, zi a3, zi a4] S
noncomputable def zM_laid_56 (d : Nat) (a1 : Int32) (a2 : Int32) (a3 : Int32) (a4 : Int32) (a5 : Int32) (S : ZS) : Option (Int32 × ZS) := zri d 194 12 56 [some (zr 11 0), some (zi a1), some (zi a2), some (zi a3), some (zi a4), some (zi a5)] [] S
noncomputable def zM_ways (d : Nat) (a0 : Int32) (a1 : Int32) (S : ZS) : Option (Int32 × ZS) := zci (zcall d) 195 [zi a0, zi a1] S
noncomputable def zM_ways_15 (d : Nat) (a0 : Int32) (a1 : Int32) (a2 : Int32) (a3 : Int32) (S : ZS) : Option (Int32 × ZS) := zri d 195 12 15 [some (zi a0), some (zi a1), some (zi a2), some (zi a3)] [] S
noncomputable def zM_losing (d : Nat) (a1 : Int32) (a2 : Int32) (a3 : Int32) (a4 : Int32) (S : ZS) : Option (Int32 × ZS) := zci (zcall d) 196 [zr 11 0, zi a1, zi a2, zi a3, zi a4] S
noncomputable def zM_losing_13 (d : Nat) (a1 : Int32) (a2 : Int32) (a3 : Int32) (a5 : Int32) (a6 : Int32) (a7 : Int32) (a8 : Int32) (S : ZS) : Option (Int32 × ZS) := zri d 196 12 13 [some (zr 11 0), some (zi a1), some (zi a2), some (zi a3), none, some (zi a5), some (zi a6), some (zi a7), some (zi a8), none, none, none, none, none] [] S
noncomputable def zM_losing_38 (d : Nat) (a1 : Int32) (a2 : Int32) (a3 : Int32) (a5 : Int32) (a6 : Int32) (a7 : Int32) (a8 : Int32) (S : ZS) : Option (Int32 × ZS) := zri d 196 12 38 [some (zr 11 0), some (zi a1), some (zi a2), some (zi a3), none, some (zi a5), some (zi a6), some (zi a7), some (zi a8), none, none, none, none, none] [] S
noncomputable def zM_losing_52 (d : Nat) (a1 : Int32) (a2 : Int32) (a3 : Int32) (a5 : Int32) (a6 : Int32) (a7 : Int32) (a8 : Int32) (a9 : Int32) (S : ZS) : Option (Int32 × ZS) := zri d 196 12 52 [some (zr 11 0), some (zi a1), some (zi a2), some (zi a3), none, some (zi a5), some (zi a6), some (zi a7), some (zi a8), some (zi a9), none, none, none, none] [] S
noncomputable def zM_losing_118 (d : Nat) (a1 : Int32) (a3 : Int32) (a5 : Int32) (a6 : Int32) (a7 : Int32) (a8 : Int32) (S : ZS) : Option (Int32 × ZS) := zri d 196 12 118 [some (zr 11 0), some (zi a1), none, some (zi a3), none, some (zi a5), some (zi a6), some (zi a7), some (zi a8), none, none, none, none, none] [] S
noncomputable def zM_losing_154 (d : Nat) (a1 : Int32) (a3 : Int32) (a5 : Int32) (a6 : Int32) (a7 : Int32) (a8 : Int32) (S : ZS) : Option (Int32 × ZS) := zri d 196 12 154 [some (zr 11 0), some (zi a1), none, some (zi a3), none, some (zi a5), some (zi a6), some (zi a7), some (zi a8), none, none, none, none, none] [] S
noncomputable def zM_losing_233 (d : Nat) (a3 : Int32) (a5 : Int32) (a6 : Int32) (a7 : Int32) (a8 : Int32) (a9 : Int32) (a10 : Int32) (a11 : Int32) (S : ZS) : Option (Int32 × ZS) := zri d 196 12 233 [none, none, none, some (zi a3), none, some (zi a5), some (zi a6), some (zi a7), some (zi a8), some (zi a9), some (zi a10), some (zi a11), none, none] [] S
noncomputable def zM_canLose (d : Nat) (a1 : Int32) (a2 : Int32) (a3 : Int32) (S : ZS) : Option (Int32 × ZS) := zci (zcall d) 197 [zr 11 0, zi a1, zi a2, zi a3] S
noncomputable def zM_lost (d : Nat) (a1 : Int32) (a2 : Int32) (a3 : Int32) (S : ZS) : Option (Int32 × ZS) := zci (zcall d) 198 [zr 11 0, zi a1, zi a2, zi a3] S
noncomputable def zM_more (d : Nat) (a1 : Int32) (a2 : Int32) (a3 : Int32) (a4 : Int32) (S : ZS) : Option (Int32 × ZS) := zci (zcall d) 199 [zr 11 0, zi a1, zi a2, zi a3, zi a4] S
noncomputable def zM_more_32 (d : Nat) (a1 : Int32) (a2 : Int32) (a3 : Int32) (a4 : Int32) (a5 : Int32) (S : ZS) : Option (Int32 × ZS) := zri d 199 12 32 [some (zr 11 0), some (zi a1), some (zi a2), some (zi a3), some (zi a4), some (zi a5)] [] S
noncomputable def zM_test (d : Nat) (a1 : Int32) (a2 : Int32) (a3 : Int32) (S : ZS) : Option (Int32 × ZS) := zci (zcall d) 200 [zr 11 0, zi a1, zi a2, zi a3] S
noncomputable def zM_test_46 (d : Nat) (a4 : Int32) (S : ZS) : Option (Int32 × ZS) := zri d 200 12 46 [some (zr 11 0), none, none, none, some (zi a4), none] [] S
noncomputable def zM_test_81 (d : Nat) (a4 : Int32) (a5 : Int32) (S : ZS) : Option (Int32 × ZS) := zri d 200 12 81 [some (zr 11 0), none, none, none, some (zi a4), some (zi a5)] [] S
noncomputable def zM_test_113 (d : Nat) (a4 : Int32) (a5 : Int32) (S : ZS) : Option (Int32 × ZS) := zri d 200 12 113 [some (zr 11 0), none, none, none, some (zi a4), some (zi a5)] [] S
noncomputable def zM_explains (d : Nat) (a1 : Int32) (S : ZS) : Option (Int32 × ZS) := zci (zcall d) 201 [zr 11 0, zi a1] S
noncomputable def zM_explains_2 (d : Nat) (a1 : Int32) (a2 : Int32) (S : ZS) : Option (Int32 × ZS) := zri d 201 12 2 [some (zr 11 0), some (zi a1), some (zi a2), none, none] [] S
noncomputable def zM_explains_15 (d : Nat) (a1 : Int32) (a2 : Int32) (a3 : Int32) (a4 : Int32) (S : ZS) : Option (Int32 × ZS) := zri d 201 12 15 [some (zr 11 0), some (zi a1), some (zi a2), some (zi a3), some (zi a4)] [] S
noncomputable def zM_found (d : Nat) (a1 : Int32) (S : ZS) : Option ZS := zcv (zcall d) 202 [zr 11 0, zi a1] S
noncomputable def zM_found_18 (d : Nat) (a1 : Int32) (a2 : Int32) (S : ZS) : Option ZS := zrv d 202 12 18 [some (zr 11 0), some (zi a1), some (zi a2)] [] S
noncomputable def zM_found_53 (d : Nat) (a1 : Int32) (a2 : Int32) (S : ZS) : Option ZS := zrv d 202 12 53 [some (zr 11 0), some (zi a1), some (zi a2)] [] S
noncomputable def zM_fewest (d : Nat)  (S : ZS) : Option (Int32 × ZS) := zci (zcall d) 203 [zr 11 0] S
noncomputable def zM_fewest_7 (d : Nat) (a1 : Int32) (S : ZS) : Option (Int32 × ZS) := zri d 203 12 7 [some (zr 11 0), some (zi a1), none, none] [] S
noncomputable def zM_fewest_42 (d : Nat) (a1 : Int32) (S : ZS) : Option (Int32 × ZS) := zri d 203 12 42 [some (zr 11 0), some (zi a1), none, none] [] S
noncomputable def zM_fewest_88 (d : Nat) (a1 : Int32) (S : ZS) : Option (Int32 × ZS) := zri d 203 12 88 [some (zr 11 0), some (zi a1), none, none] [] S
noncomputable def zM_fewest_98 (d : Nat) (a1 : Int32) (a2 : Int32) (S : ZS) : Option (Int32 × ZS) := zri d 203 12 98 [some (zr 11 0), some (zi a1), some (zi a2), none] [] S
noncomputable def zM_fewest_165 (d : Nat) (a1 : Int32) (S : ZS) : Option (Int32 × ZS) := zri d 203 12 165 [some (zr 11 0), some (zi a1), none, none] [] S
noncomputable def zM_fewest_175 (d : Nat) (a1 : Int32) (a2 : Int32) (S : ZS) : Option (Int32 × ZS) := zri d 203 12 175 [some (zr 11 0), some (zi a1), some (zi a2), none] [] S
noncomputable def zM_fewest_193 (d : Nat) (a1 : Int32) (a2 : Int32) (a3 : Int32) (S : ZS) : Option (Int32 × ZS) := zri d 203 12 193 [some (zr 11 0), some (zi a1), some (zi a2), some (zi a3)] [] S
noncomputable def zM_explain (d : Nat) (a1 : Int32) (S : ZS) : Option (Int32 × ZS) := zci (zcall d) 204 [zr 11 0, zi a1] S
noncomputable def zM_sure (d : Nat) (a1 : Int32) (S : ZS) : Option (Int32 × ZS) := zci (zcall d) 205 [zr 11 0, zi a1] S
noncomputable def zM_forget (d : Nat)  (S : ZS) : Option (Int32 × ZS) := zci (zcall d) 206 [zr 11 0] S
noncomputable def zM_look (d : Nat) (a1 : Int32) (a2 : Int32) (S : ZS) : Option (Int32 × ZS) := zci (zcall d) 207 [zr 11 0, zi a1, zi a2] S
noncomputable def zM_path (d : Nat) (a1 : Int32) (a2 : Int32) (S : ZS) : Option (Int32 × ZS) := zci (zcall d) 208 [zr 11 0, zi a1, zi a2] S
noncomputable def zM_held (d : Nat) (a1 : Int32) (S : ZS) : Option (Int32 × ZS) := zci (zcall d) 209 [zr 11 0, zi a1] S
noncomputable def zM_book (d : Nat) (a1 : Int32) (a2 : Int32) (S : ZS) : Option (Int32 × ZS) := zci (zcall d) 210 [zr 11 0, zi a1, zi a2] S
noncomputable def zM_count (d : Nat) (a1 : Int32) (S : ZS) : Option (Int32 × ZS) := zci (zcall d) 211 [zr 11 0, zi a1] S
noncomputable def zM_count_93 (d : Nat) (a2 : Int32) (a3 : Int32) (S : ZS) : Option (Int32 × ZS) := zri d 211 12 93 [some (zr 11 0), none, some (zi a2), some (zi a3)] [] S
noncomputable def zM_count_124 (d : Nat) (a2 : Int32) (a3 : Int32) (S : ZS) : Option (Int32 × ZS) := zri d 211 12 124 [some (zr 11 0), none, some (zi a2), some (zi a3)] [] S
noncomputable def zM_count_186 (d : Nat) (a2 : Int32) (a3 : Int32) (S : ZS) : Option (Int32 × ZS) := zri d 211 12 186 [some (zr 11 0), none, some (zi a2), some (zi a3)] [] S
noncomputable def zM_count_214 (d : Nat) (a2 : Int32) (a3 : Int32) (S : ZS) : Option (Int32 × ZS) := zri d 211 12 214 [some (zr 11 0), none, some (zi a2), some (zi a3)] [] S
noncomputable def zY_law_23 (d : Nat) (a4 : Int32) (S : ZS) : Option (Int32 × ZS) := zri d 212 13 23 [some (zr 16 0), some (zr 10 0), some (zr 11 0), some (zr 17 0), some (zi a4), none, none] [] S
noncomputable def zY_law_426 (d : Nat) (a4 : Int32) (s0 : Int32) (s1 : Int32) (S : ZS) : Option (Int32 × ZS) := zri d 212 13 426 [some (zr 16 0), some (zr 10 0), some (zr 11 0), some (zr 17 0), some (zi a4), none, none] [zi s0, zi s1, zr 10 0] S
noncomputable def zY_law_479 (d : Nat) (a4 : Int32) (s0 : Int32) (s1 : Int32) (S : ZS) : Option (Int32 × ZS) := zri d 212 13 479 [some (zr 16 0), some (zr 10 0), some (zr 11 0), some (zr 17 0), some (zi a4), none, none] [zi s0, zi s1, zr 10 0] S
end
section
set_option maxRecDepth 100000 in
theorem eC_addLine (d : Nat) (a1 : Int32) (a2 : Int32) (a3 : Int32) (S : ZS) : zC_addLine (d + 1) a1 a2 a3 S =
  (zP_isRackOf d (0 : Int32) a1 S).bind (fun r1 =>
  zif (r1.1 = 0) (
    some ((-1 : Int32), r1.2)) (
    (zP_isRackOf d (1 : Int32) a2 r1.2).bind (fun r2 =>
    zif (r2.1 = 0) (
      some ((-1 : Int32), r2.2)) (
      zif ((r2.2.1 0 0 3) = (40 : Int32)) (
        some ((-1 : Int32), r2.2)) (
        zif (a3 < 0) (
          some ((-1 : Int32), r2.2)) (
          zif ((100 : Int32) ≤ a3) (
            some ((-1 : Int32), r2.2)) (
            zg (zin ((a2 * (100 : Int32)) + a3) 1200) (
            zif ((r2.2.1 21 0 (zx ((a2 * (100 : Int32)) + a3))) = (-1 : Int32)) (
              (fun S3 : ZS =>
              zg (zin (r2.2.1 0 0 3) 40) (
              zg (zin ((a2 * (100 : Int32)) + a3) 1200) (
              some ((((zu (zu S3.1 21 0 (zx ((a2 * (100 : Int32)) + a3)) (S3.1 0 0 3)) 0 0 3 (((zu S3.1 21 0 (zx ((a2 * (100 : Int32)) + a3)) (S3.1 0 0 3)) 0 0 3) + (1 : Int32))) 0 0 3) - (1 : Int32)), ((zu (zu S3.1 21 0 (zx ((a2 * (100 : Int32)) + a3)) (S3.1 0 0 3)) 0 0 3 (((zu S3.1 21 0 (zx ((a2 * (100 : Int32)) + a3)) (S3.1 0 0 3)) 0 0 3) + (1 : Int32))), S3.2.1, (zu S3.2.2.1 20 0 (zx (r2.2.1 0 0 3)) (some (2, r2.2.2.2.2.1))), S3.2.2.2))))) (zline r2.2.1 r2.2.2.2.2.1 (r2.2.1 0 0 3) a1, r2.2.2.1, r2.2.2.2.1, r2.2.2.2.2.1 + 1, r2.2.2.2.2.2.1 + 3, r2.2.2.2.2.2.2 + 114)) (
              some ((-1 : Int32), r2.2)))))))))) := zeqi d 0 0 0 [some (zr 0 0), some (zi a1), some (zi a2), some (zi a3)] [] S
set_option maxRecDepth 100000 in
theorem eC_isLine (d : Nat) (a1 : Int32) (S : ZS) : zC_isLine (d + 1) a1 S =
  zif (a1 < 0) (
    some ((0 : Int32), S)) (
    zif ((S.1 0 0 3) ≤ a1) (
      some ((0 : Int32), S)) (
      some ((1 : Int32), S))) := zeqi d 1 0 0 [some (zr 0 0), some (zi a1)] [] S
set_option maxRecDepth 100000 in
theorem eC_isQuiet (d : Nat) (a1 : Int32) (S : ZS) : zC_isQuiet (d + 1) a1 S =
  zif (a1 < 0) (
    some ((0 : Int32), S)) (
    zif ((S.1 0 0 3) ≤ a1) (
      some ((0 : Int32), S)) (
      zg (zin a1 40) (
      zder (S.2.2.1 20 0 (zx a1)) 2 (fun i1 =>
      zif ((S.1 2 i1 2) = 0) (
        some ((1 : Int32), S)) (
        some ((0 : Int32), S)))))) := zeqi d 2 0 0 [some (zr 0 0), some (zi a1)] [] S
set_option maxRecDepth 100000 in
theorem eC_isCalling (d : Nat) (a1 : Int32) (S : ZS) : zC_isCalling (d + 1) a1 S =
  zif (a1 < 0) (
    some ((0 : Int32), S)) (
    zif ((S.1 0 0 3) ≤ a1) (
      some ((0 : Int32), S)) (
      zg (zin a1 40) (
      zder (S.2.2.1 20 0 (zx a1)) 2 (fun i1 =>
      zif ((S.1 2 i1 2) = (1 : Int32)) (
        some ((1 : Int32), S)) (
        some ((0 : Int32), S)))))) := zeqi d 3 0 0 [some (zr 0 0), some (zi a1)] [] S
set_option maxRecDepth 100000 in
theorem eC_callingLines (d : Nat)  (S : ZS) : zC_callingLines (d + 1)  S =
  zC_callingLines_4 d (0 : Int32) (0 : Int32) S := zeqi d 4 0 0 [some (zr 0 0), none, none] [] S
set_option maxRecDepth 100000 in
theorem eC_callingLines_4 (d : Nat) (a1 : Int32) (a2 : Int32) (S : ZS) : zC_callingLines_4 d a1 a2 S =
  zif ((S.1 0 0 3) ≤ a2) (
    some (a1, S)) (
    (zC_isCalling d a2 S).bind (fun r1 =>
    zif (r1.1 = 0) (
      zC_callingLines_4 d (a1 + (0 : Int32)) (a2 + (1 : Int32)) r1.2) (
      zC_callingLines_4 d (a1 + (1 : Int32)) (a2 + (1 : Int32)) r1.2))) := zeqi d 4 0 4 [some (zr 0 0), some (zi a1), some (zi a2)] [] S
set_option maxRecDepth 100000 in
theorem eC_lineAt (d : Nat) (a1 : Int32) (a2 : Int32) (S : ZS) : zC_lineAt (d + 1) a1 a2 S =
  zif (a1 < 0) (
    zC_lineAt_25 d a1 a2 (0 : Int32) S) (
    zif ((96 : Int32) ≤ a1) (
      zC_lineAt_25 d a1 a2 (0 : Int32) S) (
      zif (a2 < 0) (
        zC_lineAt_25 d a1 a2 (0 : Int32) S) (
        zif ((100 : Int32) ≤ a2) (
          zC_lineAt_25 d a1 a2 (0 : Int32) S) (
          zC_lineAt_25 d a1 a2 (1 : Int32) S)))) := zeqi d 5 0 0 [some (zr 0 0), some (zi a1), some (zi a2), none] [] S
set_option maxRecDepth 100000 in
theorem eC_lineAt_25 (d : Nat) (a1 : Int32) (a2 : Int32) (s0 : Int32) (S : ZS) : zC_lineAt_25 d a1 a2 s0 S =
  zif (s0 = 0) (
    some ((-1 : Int32), S)) (
    zg (zin (((a1 / (8 : Int32)) * (100 : Int32)) + a2) 1200) (
    some ((S.1 21 0 (zx (((a1 / (8 : Int32)) * (100 : Int32)) + a2))), S))) := zeqi d 5 0 25 [some (zr 0 0), some (zi a1), some (zi a2), none] [zi s0] S
set_option maxRecDepth 100000 in
theorem eC_take (d : Nat) (o1 : Nat) (S : ZS) : zC_take (d + 1) o1 S =
  zC_take_10 d o1 ((S.1 2 o1 1) * (8 : Int32)) ((S.1 2 o1 1) * (8 : Int32)) S := zeqi d 6 0 0 [some (zr 0 0), some (zr 2 o1), none, none] [] S
set_option maxRecDepth 100000 in
theorem eC_take_10 (d : Nat) (a1 : Nat) (a2 : Int32) (a3 : Int32) (S : ZS) : zC_take_10 d a1 a2 a3 S =
  zg (zin (S.1 2 a1 1) 12) (
  zif ((a2 + (S.1 34 0 (zx (S.1 2 a1 1)))) ≤ a3) (
    some ((7 : Int32), S)) (
    (zP_canTake d a3 S).bind (fun r1 =>
    zif (r1.1 = 0) (
      zC_take_10 d a1 a2 (a3 + (1 : Int32)) r1.2) (
      (zC_hold d a1 a3 (0 : Int32) ((zu r1.2.1 2 a1 2 (1 : Int32)), r1.2.2)).bind (fun r2 =>
      some ((r2.1 2 a1 3), r2)))))) := zeqi d 6 0 10 [some (zr 0 0), some (zr 2 a1), some (zi a2), some (zi a3)] [] S
set_option maxRecDepth 100000 in
theorem eC_step (d : Nat) (o1 : Nat) (a2 : Int32) (S : ZS) : zC_step (d + 1) o1 a2 S =
  zif ((S.1 2 o1 3) = 0) (
    zC_step_20 d o1 a2 S) (
    zif ((S.1 2 o1 3) = (1 : Int32)) (
      zC_step_20 d o1 a2 S) (
      some ((S.1 2 o1 3), S))) := zeqi d 7 0 0 [some (zr 0 0), some (zr 2 o1), some (zi a2), none] [] S
set_option maxRecDepth 100000 in
theorem eC_step_20 (d : Nat) (a1 : Nat) (a2 : Int32) (S : ZS) : zC_step_20 d a1 a2 S =
  (zL_noteDigit d a1 a2 S).bind (fun r1 =>
  (zL_head d a1 r1).bind (fun r2 =>
  (zP_isJunction d r2.1 r2.2).bind (fun r3 =>
  zif (r3.1 = 0) (
    (zP_isFinal d r2.1 r3.2).bind (fun r4 =>
    zif (r4.1 = 0) (
      (zC_hunt d a1 r2.1 a2 r4.2).bind (fun r5 =>
      some ((r5.1 2 a1 3), r5))) (
      (zC_stepFinal d a1 r2.1 r4.2).bind (fun r6 =>
      some ((r6.1 2 a1 3), r6))))) (
    zif ((3 : Int32) ≤ (r3.2.1 2 a1 8)) (
      some (((zu r3.2.1 2 a1 3 (5 : Int32)) 2 a1 3), ((zu r3.2.1 2 a1 3 (5 : Int32)), r3.2.2))) (
      some (((zu r3.2.1 2 a1 3 (1 : Int32)) 2 a1 3), ((zu r3.2.1 2 a1 3 (1 : Int32)), r3.2.2))))))) := zeqi d 7 0 20 [some (zr 0 0), some (zr 2 a1), some (zi a2), none] [] S
set_option maxRecDepth 100000 in
theorem eC_stepFinal (d : Nat) (o1 : Nat) (a2 : Int32) (S : ZS) : zC_stepFinal (d + 1) o1 a2 S =
  zif ((2 : Int32) ≤ (S.1 2 o1 8)) (
    (zC_lineAt d a2 (S.1 2 o1 9) S).bind (fun r1 =>
    (zC_isQuiet d r1.1 r1.2).bind (fun r2 =>
    zif (r2.1 = 0) (
      zif (r1.1 = (-1 : Int32)) (
        some ((zu r2.2.1 2 o1 3 (4 : Int32)), r2.2.2)) (
        some ((zu r2.2.1 2 o1 3 (3 : Int32)), r2.2.2))) (
      zg (zin r1.1 40) (
      zder (r2.2.2.2.1 20 0 (zx r1.1)) 2 (fun i3 =>
      some ((zu (zu (zu r2.2.1 2 o1 3 (5 : Int32)) 2 o1 10 r1.1) 2 i3 2 (2 : Int32)), r2.2.2))))))) (
    some ((zu S.1 2 o1 3 (1 : Int32)), S.2)) := zeqv d 8 0 0 [some (zr 0 0), some (zr 2 o1), some (zi a2), none] [] S
set_option maxRecDepth 100000 in
theorem eC_hunt (d : Nat) (o1 : Nat) (a2 : Int32) (a3 : Int32) (S : ZS) : zC_hunt (d + 1) o1 a2 a3 S =
  zC_hunt_6 d o1 a2 a3 (0 : Int32) (0 : Int32) S := zeqv d 9 0 0 [some (zr 0 0), some (zr 2 o1), some (zi a2), some (zi a3), none, none, none] [] S
set_option maxRecDepth 100000 in
theorem eC_hunt_6 (d : Nat) (a1 : Nat) (a2 : Int32) (a3 : Int32) (a4 : Int32) (a5 : Int32) (S : ZS) : zC_hunt_6 d a1 a2 a3 a4 a5 S =
  zif ((4 : Int32) ≤ a5) (
    zif (a4 = 0) (
      some ((zu S.1 2 a1 3 (4 : Int32)), S.2)) (
      some ((zu S.1 2 a1 3 (3 : Int32)), S.2))) (
    (zP_leadsFrom d a2 a3 a5 S).bind (fun r1 =>
    (zP_canTake d r1.1 r1.2).bind (fun r2 =>
    zif (r2.1 = 0) (
      zif (a4 = 0) (
        zif (r1.1 = (-1 : Int32)) (
          zC_hunt_6 d a1 a2 a3 (0 : Int32) (a5 + (1 : Int32)) r2.2) (
          zC_hunt_6 d a1 a2 a3 (1 : Int32) (a5 + (1 : Int32)) r2.2)) (
        zC_hunt_6 d a1 a2 a3 (1 : Int32) (a5 + (1 : Int32)) r2.2)) (
      (zC_hold d a1 r1.1 (1 : Int32) r2.2).bind (fun r3 =>
      some r3))))) := zeqv d 9 0 6 [some (zr 0 0), some (zr 2 a1), some (zi a2), some (zi a3), some (zi a4), some (zi a5), none] [] S
set_option maxRecDepth 100000 in
theorem eC_hold (d : Nat) (o1 : Nat) (a2 : Int32) (a3 : Int32) (S : ZS) : zC_hold (d + 1) o1 a2 a3 S =
  zg (zin a2 116) (
  (zL_addHeld d o1 a2 ((zu S.1 39 0 (zx a2) (S.1 2 o1 0)), S.2)).bind (fun r1 =>
  (zP_isFaulty d a2 r1).bind (fun r2 =>
  zif (r2.1 = 0) (
    some ((zu r2.2.1 2 o1 3 a3), r2.2.2)) (
    some ((zu r2.2.1 2 o1 3 (2 : Int32)), r2.2.2))))) := zeqv d 10 0 0 [some (zr 0 0), some (zr 2 o1), some (zi a2), some (zi a3)] [] S
set_option maxRecDepth 100000 in
theorem eC_make (d : Nat) (o1 : Nat) (a2 : Int32) (a3 : Int32) (S : ZS) : zC_make (d + 1) o1 a2 a3 S =
  (zC_take d o1 S).bind (fun r1 =>
  zC_make_10 d o1 a2 a3 r1.1 (0 : Int32) r1.2) := zeqi d 11 0 0 [some (zr 0 0), some (zr 2 o1), some (zi a2), some (zi a3), none, none] [] S
set_option maxRecDepth 100000 in
theorem eC_make_10 (d : Nat) (a1 : Nat) (a2 : Int32) (a3 : Int32) (a4 : Int32) (a5 : Int32) (S : ZS) : zC_make_10 d a1 a2 a3 a4 a5 S =
  zif (a3 ≤ a5) (
    some (a4, S)) (
    zif (a4 = (7 : Int32)) (
      some (a4, S)) (
      (zX_digitAt d a2 a3 a5 S).bind (fun r1 =>
      (zC_step d a1 r1.1 r1.2).bind (fun r2 =>
      zC_make_10 d a1 a2 a3 r2.1 (a5 + (1 : Int32)) r2.2)))) := zeqi d 11 0 10 [some (zr 0 0), some (zr 2 a1), some (zi a2), some (zi a3), some (zi a4), some (zi a5)] [] S
set_option maxRecDepth 100000 in
theorem eC_release (d : Nat) (o1 : Nat) (S : ZS) : zC_release (d + 1) o1 S =
  zif ((S.1 2 o1 2) = (1 : Int32)) (
    (zC_setHolder d o1 (-1 : Int32) S).bind (fun r1 =>
    (zC_isLine d (r1.1 2 o1 10) r1).bind (fun r2 =>
    zif (r2.1 = 0) (
      (zL_clear d o1 r2.2).bind (fun r3 =>
      some r3)) (
      zg (zin (r2.2.1 2 o1 10) 40) (
      zder (r2.2.2.2.1 20 0 (zx (r2.2.1 2 o1 10))) 2 (fun i4 =>
      (zL_clear d o1 ((zu r2.2.1 2 i4 2 (0 : Int32)), r2.2.2)).bind (fun r5 =>
      some r5))))))) (
    some S) := zeqv d 12 0 0 [some (zr 0 0), some (zr 2 o1)] [] S
set_option maxRecDepth 100000 in
theorem eC_setHolder (d : Nat) (o1 : Nat) (a2 : Int32) (S : ZS) : zC_setHolder (d + 1) o1 a2 S =
  zC_setHolder_2 d o1 a2 (0 : Int32) S := zeqv d 13 0 0 [some (zr 0 0), some (zr 2 o1), some (zi a2), none] [] S
set_option maxRecDepth 100000 in
theorem eC_setHolder_2 (d : Nat) (a1 : Nat) (a2 : Int32) (a3 : Int32) (S : ZS) : zC_setHolder_2 d a1 a2 a3 S =
  zif ((S.1 2 a1 5) ≤ a3) (
    some S) (
    zg (zin a3 97) (
    zg (zin (S.1 29 a1 (zx a3)) 116) (
    zC_setHolder_2 d a1 a2 (a3 + (1 : Int32)) ((zu S.1 39 0 (zx (S.1 29 a1 (zx a3))) a2), S.2)))) := zeqv d 13 0 2 [some (zr 0 0), some (zr 2 a1), some (zi a2), some (zi a3)] [] S
set_option maxRecDepth 100000 in
theorem eG_write (d : Nat) (a1 : Int32) (a2 : Int32) (a3 : Int32) (a4 : Int32) (S : ZS) : zG_write (d + 1) a1 a2 a3 a4 S =
  zif ((S.1 1 0 0) = (200 : Int32)) (
    some S) (
    zg (zin (S.1 1 0 0) 200) (
    zg (zin ((zu S.1 22 0 (zx (S.1 1 0 0)) a1) 1 0 0) 200) (
    zg (zin ((zu (zu S.1 22 0 (zx (S.1 1 0 0)) a1) 23 0 (zx ((zu S.1 22 0 (zx (S.1 1 0 0)) a1) 1 0 0)) a2) 1 0 0) 200) (
    zg (zin ((zu (zu (zu S.1 22 0 (zx (S.1 1 0 0)) a1) 23 0 (zx ((zu S.1 22 0 (zx (S.1 1 0 0)) a1) 1 0 0)) a2) 24 0 (zx ((zu (zu S.1 22 0 (zx (S.1 1 0 0)) a1) 23 0 (zx ((zu S.1 22 0 (zx (S.1 1 0 0)) a1) 1 0 0)) a2) 1 0 0)) a3) 1 0 0) 200) (
    some ((zu (zu (zu (zu (zu S.1 22 0 (zx (S.1 1 0 0)) a1) 23 0 (zx ((zu S.1 22 0 (zx (S.1 1 0 0)) a1) 1 0 0)) a2) 24 0 (zx ((zu (zu S.1 22 0 (zx (S.1 1 0 0)) a1) 23 0 (zx ((zu S.1 22 0 (zx (S.1 1 0 0)) a1) 1 0 0)) a2) 1 0 0)) a3) 25 0 (zx ((zu (zu (zu S.1 22 0 (zx (S.1 1 0 0)) a1) 23 0 (zx ((zu S.1 22 0 (zx (S.1 1 0 0)) a1) 1 0 0)) a2) 24 0 (zx ((zu (zu S.1 22 0 (zx (S.1 1 0 0)) a1) 23 0 (zx ((zu S.1 22 0 (zx (S.1 1 0 0)) a1) 1 0 0)) a2) 1 0 0)) a3) 1 0 0)) a4) 1 0 0 (((zu (zu (zu (zu S.1 22 0 (zx (S.1 1 0 0)) a1) 23 0 (zx ((zu S.1 22 0 (zx (S.1 1 0 0)) a1) 1 0 0)) a2) 24 0 (zx ((zu (zu S.1 22 0 (zx (S.1 1 0 0)) a1) 23 0 (zx ((zu S.1 22 0 (zx (S.1 1 0 0)) a1) 1 0 0)) a2) 1 0 0)) a3) 25 0 (zx ((zu (zu (zu S.1 22 0 (zx (S.1 1 0 0)) a1) 23 0 (zx ((zu S.1 22 0 (zx (S.1 1 0 0)) a1) 1 0 0)) a2) 24 0 (zx ((zu (zu S.1 22 0 (zx (S.1 1 0 0)) a1) 23 0 (zx ((zu S.1 22 0 (zx (S.1 1 0 0)) a1) 1 0 0)) a2) 1 0 0)) a3) 1 0 0)) a4) 1 0 0) + (1 : Int32))), S.2)))))) := zeqv d 14 1 0 [some (zr 1 0), some (zi a1), some (zi a2), some (zi a3), some (zi a4)] [] S
set_option maxRecDepth 100000 in
theorem eG_tell (d : Nat) (a1 : Int32) (a2 : Int32) (a3 : Int32) (S : ZS) : zG_tell (d + 1) a1 a2 a3 S =
  zif (a1 < 0) (
    some ((0 : Int32), S)) (
    zif ((S.1 1 0 0) ≤ a1) (
      some ((0 : Int32), S)) (
      zif (a2 < 0) (
        some ((0 : Int32), S)) (
        zif ((9999 : Int32) < a2) (
          some ((0 : Int32), S)) (
          zif ((S.1 1 0 5) = (200 : Int32)) (
            some ((0 : Int32), S)) (
            zg (zin (S.1 1 0 5) 200) (
            zg (zin ((zu S.1 26 0 (zx (S.1 1 0 5)) a1) 1 0 5) 200) (
            zg (zin ((zu (zu S.1 26 0 (zx (S.1 1 0 5)) a1) 27 0 (zx ((zu S.1 26 0 (zx (S.1 1 0 5)) a1) 1 0 5)) a2) 1 0 5) 200) (
            some ((1 : Int32), ((zu (zu (zu (zu S.1 26 0 (zx (S.1 1 0 5)) a1) 27 0 (zx ((zu S.1 26 0 (zx (S.1 1 0 5)) a1) 1 0 5)) a2) 28 0 (zx ((zu (zu S.1 26 0 (zx (S.1 1 0 5)) a1) 27 0 (zx ((zu S.1 26 0 (zx (S.1 1 0 5)) a1) 1 0 5)) a2) 1 0 5)) a3) 1 0 5 (((zu (zu (zu S.1 26 0 (zx (S.1 1 0 5)) a1) 27 0 (zx ((zu S.1 26 0 (zx (S.1 1 0 5)) a1) 1 0 5)) a2) 28 0 (zx ((zu (zu S.1 26 0 (zx (S.1 1 0 5)) a1) 27 0 (zx ((zu S.1 26 0 (zx (S.1 1 0 5)) a1) 1 0 5)) a2) 1 0 5)) a3) 1 0 5) + (1 : Int32))), S.2)))))))))) := zeqi d 15 1 0 [some (zr 1 0), some (zi a1), some (zi a2), some (zi a3)] [] S
set_option maxRecDepth 100000 in
theorem eG_sum (d : Nat) (a1 : Int32) (a2 : Int32) (a3 : Int32) (a4 : Int32) (S : ZS) : zG_sum (d + 1) a1 a2 a3 a4 S =
  zG_sum_6 d a1 a2 a3 a4 (0 : Int32) (0 : Int32) S := zeqi d 16 1 0 [some (zr 1 0), some (zi a1), some (zi a2), some (zi a3), some (zi a4), none, none] [] S
set_option maxRecDepth 100000 in
theorem eG_sum_6 (d : Nat) (a1 : Int32) (a2 : Int32) (a3 : Int32) (a4 : Int32) (a5 : Int32) (a6 : Int32) (S : ZS) : zG_sum_6 d a1 a2 a3 a4 a5 a6 S =
  zif ((S.1 1 0 0) ≤ a6) (
    some (a5, S)) (
    zg (zin a6 200) (
    zif ((S.1 22 0 (zx a6)) = a1) (
      zg (zin a6 200) (
      zif ((S.1 24 0 (zx a6)) < a2) (
        zG_sum_6 d a1 a2 a3 a4 a5 (a6 + (1 : Int32)) S) (
        zg (zin a6 200) (
        zif (a3 < (S.1 24 0 (zx a6))) (
          zG_sum_6 d a1 a2 a3 a4 a5 (a6 + (1 : Int32)) S) (
          zg (zin a6 200) (
          zif (a4 < (S.1 25 0 (zx a6))) (
            zG_sum_6 d a1 a2 a3 a4 a5 (a6 + (1 : Int32)) S) (
            (zG_unitsKnown d a6 a4 S).bind (fun r1 =>
            zG_sum_6 d a1 a2 a3 a4 (a5 + r1.1) (a6 + (1 : Int32)) r1.2)))))))) (
      zG_sum_6 d a1 a2 a3 a4 a5 (a6 + (1 : Int32)) S))) := zeqi d 16 1 6 [some (zr 1 0), some (zi a1), some (zi a2), some (zi a3), some (zi a4), some (zi a5), some (zi a6)] [] S
set_option maxRecDepth 100000 in
theorem eG_unitsKnown (d : Nat) (a1 : Int32) (a2 : Int32) (S : ZS) : zG_unitsKnown (d + 1) a1 a2 S =
  zG_unitsKnown_7 d a1 a2 ((S.1 1 0 5) - (1 : Int32)) S := zeqi d 17 1 0 [some (zr 1 0), some (zi a1), some (zi a2), none] [] S
set_option maxRecDepth 100000 in
theorem eG_unitsKnown_7 (d : Nat) (a1 : Int32) (a2 : Int32) (a3 : Int32) (S : ZS) : zG_unitsKnown_7 d a1 a2 a3 S =
  zif (a3 < 0) (
    zg (zin a1 200) (
    some ((S.1 23 0 (zx a1)), S))) (
    zg (zin a3 200) (
    zif ((S.1 26 0 (zx a3)) = a1) (
      zg (zin a3 200) (
      zif (a2 < (S.1 28 0 (zx a3))) (
        zG_unitsKnown_7 d a1 a2 (a3 + (-1 : Int32)) S) (
        zg (zin a3 200) (
        some ((S.1 27 0 (zx a3)), S))))) (
      zG_unitsKnown_7 d a1 a2 (a3 + (-1 : Int32)) S))) := zeqi d 17 1 7 [some (zr 1 0), some (zi a1), some (zi a2), some (zi a3)] [] S
set_option maxRecDepth 100000 in
theorem eG_show (d : Nat) (a1 : Int32) (a2 : Int32) (S : ZS) : zG_show (d + 1) a1 a2 S =
  zif (a1 < 0) (
    some ((-1 : Int32), S)) (
    zif (a1 < (S.1 1 0 0)) (
      zif (a2 = (0 : Int32)) (
        zg (zin a1 200) (
        some ((S.1 22 0 (zx a1)), S))) (
      zif (a2 = (1 : Int32)) (
        (zG_unitsKnown d a1 (11 : Int32) S).bind (fun r1 =>
        some (r1.1, r1.2))) (
      zif (a2 = (2 : Int32)) (
        zg (zin a1 200) (
        some ((S.1 24 0 (zx a1)), S))) (
      zif (a2 = (3 : Int32)) (
        zg (zin a1 200) (
        some ((S.1 25 0 (zx a1)), S))) (
      some ((-1 : Int32), S)))))) (
      some ((-1 : Int32), S))) := zeqi d 18 1 0 [some (zr 1 0), some (zi a1), some (zi a2)] [] S
set_option maxRecDepth 100000 in
theorem eL_head (d : Nat) (o0 : Nat) (S : ZS) : zL_head (d + 1) o0 S =
  zif ((S.1 2 o0 5) ≤ 0) (
    some ((-1 : Int32), S)) (
    zg (zin ((S.1 2 o0 5) - (1 : Int32)) 97) (
    some ((S.1 29 o0 (zx ((S.1 2 o0 5) - (1 : Int32)))), S))) := zeqi d 19 2 0 [some (zr 2 o0)] [] S
set_option maxRecDepth 100000 in
theorem eL_ofCall (d : Nat) (o0 : Nat) (a1 : Int32) (S : ZS) : zL_ofCall (d + 1) o0 a1 S =
  zif (a1 = (1 : Int32)) (
    some ((S.1 2 o0 3), S)) (
  zif (a1 = (2 : Int32)) (
    (zL_head d o0 S).bind (fun r1 =>
    some (r1.1, r1.2))) (
  zif (a1 = (3 : Int32)) (
    some ((S.1 2 o0 10), S)) (
  zif (a1 = (4 : Int32)) (
    some ((S.1 2 o0 6), S)) (
  zif (a1 = (5 : Int32)) (
    some ((S.1 2 o0 11), S)) (
  some ((-1 : Int32), S)))))) := zeqi d 20 2 0 [some (zr 2 o0), some (zi a1)] [] S
set_option maxRecDepth 100000 in
theorem eL_noteDigit (d : Nat) (o0 : Nat) (a1 : Int32) (S : ZS) : zL_noteDigit (d + 1) o0 a1 S =
  zif ((5 : Int32) ≤ (S.1 2 o0 6)) (
    zL_noteDigit_18 d o0 a1 S) (
    zg (zin (S.1 2 o0 6) 5) (
    zL_noteDigit_18 d o0 a1 ((zu S.1 30 o0 (zx (S.1 2 o0 6)) a1), S.2))) := zeqv d 21 2 0 [some (zr 2 o0), some (zi a1)] [] S
set_option maxRecDepth 100000 in
theorem eL_noteDigit_18 (d : Nat) (a0 : Nat) (a1 : Int32) (S : ZS) : zL_noteDigit_18 d a0 a1 S =
  some ((zu (zu (zu S.1 2 a0 6 ((S.1 2 a0 6) + (1 : Int32))) 2 a0 8 (((zu S.1 2 a0 6 ((S.1 2 a0 6) + (1 : Int32))) 2 a0 8) + (1 : Int32))) 2 a0 9 ((((zu (zu S.1 2 a0 6 ((S.1 2 a0 6) + (1 : Int32))) 2 a0 8 (((zu S.1 2 a0 6 ((S.1 2 a0 6) + (1 : Int32))) 2 a0 8) + (1 : Int32))) 2 a0 9) * (10 : Int32)) + a1)), S.2) := zeqv d 21 2 18 [some (zr 2 a0), some (zi a1)] [] S
set_option maxRecDepth 100000 in
theorem eL_addHeld (d : Nat) (o0 : Nat) (a1 : Int32) (S : ZS) : zL_addHeld (d + 1) o0 a1 S =
  zif ((Int32.ofNat 97) ≤ (S.1 2 o0 5)) (
    some ((zu (zu S.1 2 o0 8 (0 : Int32)) 2 o0 9 (0 : Int32)), S.2)) (
    zg (zin (S.1 2 o0 5) 97) (
    some ((zu (zu (zu (zu S.1 29 o0 (zx (S.1 2 o0 5)) a1) 2 o0 5 (((zu S.1 29 o0 (zx (S.1 2 o0 5)) a1) 2 o0 5) + (1 : Int32))) 2 o0 8 (0 : Int32)) 2 o0 9 (0 : Int32)), S.2))) := zeqv d 22 2 0 [some (zr 2 o0), some (zi a1)] [] S
set_option maxRecDepth 100000 in
theorem eL_clear (d : Nat) (o0 : Nat) (S : ZS) : zL_clear (d + 1) o0 S =
  some ((zu (zu (zu (zu (zu S.1 2 o0 2 (0 : Int32)) 2 o0 5 (0 : Int32)) 2 o0 6 (0 : Int32)) 2 o0 10 (-1 : Int32)) 2 o0 11 (-1 : Int32)), S.2) := zeqv d 23 2 0 [some (zr 2 o0)] [] S
set_option maxRecDepth 100000 in
theorem eO_measure (d : Nat) (a1 : Int32) (a2 : Int32) (a3 : Int32) (S : ZS) : zO_measure (d + 1) a1 a2 a3 S =
  (zP_isLevel d a1 a2 S).bind (fun r1 =>
  zif (r1.1 = 0) (
    some ((0 : Int32), r1.2)) (
    zif (a3 < (1 : Int32)) (
      some ((0 : Int32), r1.2)) (
      zg (zin a1 12) (
      zif (a3 ≤ (r1.2.1 34 0 (zx a1))) (
        zO_measure_40 d a1 a2 (0 : Int32) ((zu r1.2.1 3 0 3 (0 : Int32)), r1.2.2)) (
        some ((0 : Int32), r1.2)))))) := zeqi d 24 3 0 [some (zr 3 0), some (zi a1), some (zi a2), some (zi a3), none, none] [] S
set_option maxRecDepth 100000 in
theorem eO_measure_40 (d : Nat) (a1 : Int32) (a2 : Int32) (a4 : Int32) (S : ZS) : zO_measure_40 d a1 a2 a4 S =
  zif ((2 : Int32) ≤ a4) (
    zO_measure_96 d a1 (0 : Int32) S) (
    zg (zin a4 2) (
    zg (zin a4 2) (
    zO_measure_65 d a1 a2 a4 (0 : Int32) ((zu (zu S.1 31 0 (zx a4) (0 : Int32)) 32 0 (zx a4) (0 : Int32)), S.2)))) := zeqi d 24 3 40 [some (zr 3 0), some (zi a1), some (zi a2), none, some (zi a4), none] [] S
set_option maxRecDepth 100000 in
theorem eO_measure_65 (d : Nat) (a1 : Int32) (a2 : Int32) (a4 : Int32) (a5 : Int32) (S : ZS) : zO_measure_65 d a1 a2 a4 a5 S =
  zif ((4 : Int32) ≤ a5) (
    zO_measure_40 d a1 a2 (a4 + (1 : Int32)) S) (
    (zO_countEnd d a1 a4 a2 a5 S).bind (fun r1 =>
    zO_measure_65 d a1 a2 a4 (a5 + (1 : Int32)) r1)) := zeqi d 24 3 65 [some (zr 3 0), some (zi a1), some (zi a2), none, some (zi a4), some (zi a5)] [] S
set_option maxRecDepth 100000 in
theorem eO_measure_96 (d : Nat) (a1 : Int32) (a4 : Int32) (S : ZS) : zO_measure_96 d a1 a4 S =
  zg (zin a1 12) (
  zif ((S.1 34 0 (zx a1)) ≤ a4) (
    some ((1 : Int32), S)) (
    zg (zin a1 12) (
    bif zz (S.1 35 0 (zx a1)) then none else
    zg (zin (a4 - a4 / (S.1 35 0 (zx a1)) * (S.1 35 0 (zx a1))) 2) (
    zg (zin (a4 - a4 / (S.1 35 0 (zx a1)) * (S.1 35 0 (zx a1))) 2) (
    zO_measure_96 d a1 (a4 + (1 : Int32)) ((zu S.1 32 0 (zx (a4 - a4 / (S.1 35 0 (zx a1)) * (S.1 35 0 (zx a1)))) ((S.1 32 0 (zx (a4 - a4 / (S.1 35 0 (zx a1)) * (S.1 35 0 (zx a1))))) + (1 : Int32))), S.2)))))) := zeqi d 24 3 96 [some (zr 3 0), some (zi a1), none, none, some (zi a4), none] [] S
set_option maxRecDepth 100000 in
theorem eO_countEnd (d : Nat) (a1 : Int32) (a2 : Int32) (a3 : Int32) (a4 : Int32) (S : ZS) : zO_countEnd (d + 1) a1 a2 a3 a4 S =
  (zP_leadsTo d a1 a2 a3 a4 S).bind (fun r1 =>
  zif (r1.1 = (-1 : Int32)) (
    some r1.2) (
    (zP_isOut d r1.1 r1.2).bind (fun r2 =>
    zif (r2.1 = 0) (
      (zO_leadsWithin d a1 a2 a3 a4 r1.1 r2.2).bind (fun r3 =>
      zif (r3.1 = 0) (
        (zO_leadsWithin d a1 ((1 : Int32) - a2) a3 (4 : Int32) r1.1 r3.2).bind (fun r4 =>
        zif (r4.1 = 0) (
          zg (zin a2 2) (
          zg (zin a2 2) (
          some ((zu r4.2.1 31 0 (zx a2) ((r4.2.1 31 0 (zx a2)) + (1 : Int32))), r4.2.2)))) (
          zif (a2 = 0) (
            some ((zu r4.2.1 3 0 3 ((r4.2.1 3 0 3) + (1 : Int32))), r4.2.2)) (
            some r4.2)))) (
        some r3.2))) (
      some r2.2)))) := zeqv d 25 3 0 [some (zr 3 0), some (zi a1), some (zi a2), some (zi a3), some (zi a4), none] [] S
set_option maxRecDepth 100000 in
theorem eO_leadsWithin (d : Nat) (a1 : Int32) (a2 : Int32) (a3 : Int32) (a4 : Int32) (a5 : Int32) (S : ZS) : zO_leadsWithin (d + 1) a1 a2 a3 a4 a5 S =
  zO_leadsWithin_3 d a1 a2 a3 a4 a5 (0 : Int32) S := zeqi d 26 3 0 [some (zr 3 0), some (zi a1), some (zi a2), some (zi a3), some (zi a4), some (zi a5), none] [] S
set_option maxRecDepth 100000 in
theorem eO_leadsWithin_3 (d : Nat) (a1 : Int32) (a2 : Int32) (a3 : Int32) (a4 : Int32) (a5 : Int32) (a6 : Int32) (S : ZS) : zO_leadsWithin_3 d a1 a2 a3 a4 a5 a6 S =
  zif (a4 ≤ a6) (
    some ((0 : Int32), S)) (
    (zP_leadsTo d a1 a2 a3 a6 S).bind (fun r1 =>
    zif (r1.1 = a5) (
      some ((1 : Int32), r1.2)) (
      zO_leadsWithin_3 d a1 a2 a3 a4 a5 (a6 + (1 : Int32)) r1.2))) := zeqi d 26 3 3 [some (zr 3 0), some (zi a1), some (zi a2), some (zi a3), some (zi a4), some (zi a5), some (zi a6)] [] S
set_option maxRecDepth 100000 in
theorem eO_waysLost (d : Nat) (a1 : Int32) (a2 : Int32) (S : ZS) : zO_waysLost (d + 1) a1 a2 S =
  zO_waysLost_5 d a1 a2 (0 : Int32) (0 : Int32) S := zeqi d 27 3 0 [some (zr 3 0), some (zi a1), some (zi a2), none, none, none, none] [] S
set_option maxRecDepth 100000 in
theorem eO_waysLost_5 (d : Nat) (a1 : Int32) (a2 : Int32) (a3 : Int32) (a4 : Int32) (S : ZS) : zO_waysLost_5 d a1 a2 a3 a4 S =
  zif (a1 < a4) (
    some (a3, S)) (
    zg (zin (0 : Int32) 2) (
    (zci (zcall d) 1000 [zi (0 : Int32), zi (a4 - (S.1 31 0 (zx (0 : Int32))))] S).bind (fun r1 =>
    zg (zin (1 : Int32) 2) (
    (zci (zcall d) 1000 [zi (0 : Int32), zi ((a1 - a4) - (r1.2.1 31 0 (zx (1 : Int32))))] r1.2).bind (fun r2 =>
    zif ((r1.1 + r2.1) ≤ ((r2.2.1 3 0 3) + a2)) (
      zO_waysLost_5 d a1 a2 a3 (a4 + (1 : Int32)) r2.2) (
      zg (zin (0 : Int32) 2) (
      (zO_ways d (r2.2.1 32 0 (zx (0 : Int32))) a4 r2.2).bind (fun r3 =>
      zg (zin (1 : Int32) 2) (
      (zO_ways d (r3.2.1 32 0 (zx (1 : Int32))) (a1 - a4) r3.2).bind (fun r4 =>
      zO_waysLost_5 d a1 a2 (a3 + (r3.1 * r4.1)) (a4 + (1 : Int32)) r4.2)))))))))) := zeqi d 27 3 5 [some (zr 3 0), some (zi a1), some (zi a2), some (zi a3), some (zi a4), none, none] [] S
set_option maxRecDepth 100000 in
theorem eO_sharedMore (d : Nat) (a1 : Int32) (a2 : Int32) (S : ZS) : zO_sharedMore (d + 1) a1 a2 S =
  zg (zin (0 : Int32) 2) (
  zg (zin (1 : Int32) 2) (
  (zO_ways d ((S.1 32 0 (zx (0 : Int32))) + (S.1 32 0 (zx (1 : Int32)))) a1 S).bind (fun r1 =>
  zO_sharedMore_21 d a1 a2 r1.1 (0 : Int32) r1.2))) := zeqi d 28 3 0 [some (zr 3 0), some (zi a1), some (zi a2), none, none] [] S
set_option maxRecDepth 100000 in
theorem eO_sharedMore_21 (d : Nat) (a1 : Int32) (a2 : Int32) (a3 : Int32) (a4 : Int32) (S : ZS) : zO_sharedMore_21 d a1 a2 a3 a4 S =
  zif (a1 ≤ a4) (
    some (a4, S)) (
    (zO_waysLost d a1 a4 S).bind (fun r1 =>
    zif ((r1.1 * (1000 : Int32)) ≤ (a2 * a3)) (
      some (a4, r1.2)) (
      zO_sharedMore_21 d a1 a2 a3 (a4 + (1 : Int32)) r1.2))) := zeqi d 28 3 21 [some (zr 3 0), some (zi a1), some (zi a2), some (zi a3), some (zi a4)] [] S
set_option maxRecDepth 100000 in
theorem eO_ways (d : Nat) (a0 : Int32) (a1 : Int32) (S : ZS) : zO_ways (d + 1) a0 a1 S =
  zO_ways_4 d a0 a1 (1 : Int32) (0 : Int32) S := zeqi d 29 3 0 [some (zi a0), some (zi a1), none, none] [] S
set_option maxRecDepth 100000 in
theorem eO_ways_4 (d : Nat) (a0 : Int32) (a1 : Int32) (a2 : Int32) (a3 : Int32) (S : ZS) : zO_ways_4 d a0 a1 a2 a3 S =
  zif (a1 ≤ a3) (
    some (a2, S)) (
    bif zz (a3 + (1 : Int32)) then none else
    zO_ways_4 d a0 a1 ((a2 * (a0 - a3)) / (a3 + (1 : Int32))) (a3 + (1 : Int32)) S) := zeqi d 29 3 4 [some (zi a0), some (zi a1), some (zi a2), some (zi a3)] [] S
set_option maxRecDepth 100000 in
theorem eP_addRack (d : Nat) (a1 : Int32) (a2 : Int32) (a3 : Int32) (S : ZS) : zP_addRack (d + 1) a1 a2 a3 S =
  zif (a1 = 0) (
    zP_addRack_18 d a1 a2 a3 (2 : Int32) S) (
    zif (a1 = (1 : Int32)) (
      zP_addRack_18 d a1 a2 a3 (1 : Int32) S) (
      zP_addRack_18 d a1 a2 a3 (0 : Int32) S)) := zeqi d 30 4 0 [some (zr 4 0), some (zi a1), some (zi a2), some (zi a3), none] [] S
set_option maxRecDepth 100000 in
theorem eP_addRack_18 (d : Nat) (a1 : Int32) (a2 : Int32) (a3 : Int32) (s0 : Int32) (S : ZS) : zP_addRack_18 d a1 a2 a3 s0 S =
  zif (a3 < (1 : Int32)) (
    some ((-1 : Int32), S)) (
    zif (s0 < a3) (
      some ((-1 : Int32), S)) (
      zif (a2 < (1 : Int32)) (
        some ((-1 : Int32), S)) (
        zif ((8 : Int32) < a2) (
          some ((-1 : Int32), S)) (
          zif ((S.1 4 0 0) = (12 : Int32)) (
            some ((-1 : Int32), S)) (
            zg (zin (S.1 4 0 0) 12) (
            zg (zin ((zu S.1 33 0 (zx (S.1 4 0 0)) a1) 4 0 0) 12) (
            zg (zin ((zu (zu S.1 33 0 (zx (S.1 4 0 0)) a1) 34 0 (zx ((zu S.1 33 0 (zx (S.1 4 0 0)) a1) 4 0 0)) a2) 4 0 0) 12) (
            some ((((zu (zu (zu (zu S.1 33 0 (zx (S.1 4 0 0)) a1) 34 0 (zx ((zu S.1 33 0 (zx (S.1 4 0 0)) a1) 4 0 0)) a2) 35 0 (zx ((zu (zu S.1 33 0 (zx (S.1 4 0 0)) a1) 34 0 (zx ((zu S.1 33 0 (zx (S.1 4 0 0)) a1) 4 0 0)) a2) 4 0 0)) a3) 4 0 0 (((zu (zu (zu S.1 33 0 (zx (S.1 4 0 0)) a1) 34 0 (zx ((zu S.1 33 0 (zx (S.1 4 0 0)) a1) 4 0 0)) a2) 35 0 (zx ((zu (zu S.1 33 0 (zx (S.1 4 0 0)) a1) 34 0 (zx ((zu S.1 33 0 (zx (S.1 4 0 0)) a1) 4 0 0)) a2) 4 0 0)) a3) 4 0 0) + (1 : Int32))) 4 0 0) - (1 : Int32)), ((zu (zu (zu (zu S.1 33 0 (zx (S.1 4 0 0)) a1) 34 0 (zx ((zu S.1 33 0 (zx (S.1 4 0 0)) a1) 4 0 0)) a2) 35 0 (zx ((zu (zu S.1 33 0 (zx (S.1 4 0 0)) a1) 34 0 (zx ((zu S.1 33 0 (zx (S.1 4 0 0)) a1) 4 0 0)) a2) 4 0 0)) a3) 4 0 0 (((zu (zu (zu S.1 33 0 (zx (S.1 4 0 0)) a1) 34 0 (zx ((zu S.1 33 0 (zx (S.1 4 0 0)) a1) 4 0 0)) a2) 35 0 (zx ((zu (zu S.1 33 0 (zx (S.1 4 0 0)) a1) 34 0 (zx ((zu S.1 33 0 (zx (S.1 4 0 0)) a1) 4 0 0)) a2) 4 0 0)) a3) 4 0 0) + (1 : Int32))), S.2)))))))))) := zeqi d 30 4 18 [some (zr 4 0), some (zi a1), some (zi a2), some (zi a3), none] [zi s0] S
set_option maxRecDepth 100000 in
theorem eP_lead (d : Nat) (a1 : Int32) (a2 : Int32) (a3 : Int32) (a4 : Int32) (a5 : Int32) (S : ZS) : zP_lead (d + 1) a1 a2 a3 a4 a5 S =
  (zP_isLevel d a1 a3 S).bind (fun r1 =>
  zif (r1.1 = 0) (
    some ((0 : Int32), r1.2)) (
    zif (a2 < 0) (
      some ((0 : Int32), r1.2)) (
      zg (zin a1 12) (
      zif ((r1.2.1 35 0 (zx a1)) ≤ a2) (
        some ((0 : Int32), r1.2)) (
        zif (a4 < 0) (
          some ((0 : Int32), r1.2)) (
          zif (a4 < (4 : Int32)) (
            (zP_isEnd d a5 r1.2).bind (fun r2 =>
            zif (r2.1 = 0) (
              zP_lead_59 d a1 a2 a3 a4 a5 (0 : Int32) r2.2) (
              zif ((a5 / (8 : Int32)) = a1) (
                zP_lead_59 d a1 a2 a3 a4 a5 (0 : Int32) r2.2) (
                zP_lead_59 d a1 a2 a3 a4 a5 (1 : Int32) r2.2)))) (
            some ((0 : Int32), r1.2)))))))) := zeqi d 31 4 0 [some (zr 4 0), some (zi a1), some (zi a2), some (zi a3), some (zi a4), some (zi a5), none] [] S
set_option maxRecDepth 100000 in
theorem eP_lead_59 (d : Nat) (a1 : Int32) (a2 : Int32) (a3 : Int32) (a4 : Int32) (a5 : Int32) (s0 : Int32) (S : ZS) : zP_lead_59 d a1 a2 a3 a4 a5 s0 S =
  zif (a5 = (-1 : Int32)) (
    (zP_spot d a1 a2 a3 S).bind (fun r1 =>
    zg (zin (r1.1 + a4) 960) (
    some ((1 : Int32), ((zu r1.2.1 36 0 (zx (r1.1 + a4)) a5), r1.2.2))))) (
    zif (s0 = 0) (
      some ((0 : Int32), S)) (
      (zP_spot d a1 a2 a3 S).bind (fun r2 =>
      zg (zin (r2.1 + a4) 960) (
      some ((1 : Int32), ((zu r2.2.1 36 0 (zx (r2.1 + a4)) a5), r2.2.2)))))) := zeqi d 31 4 59 [some (zr 4 0), some (zi a1), some (zi a2), some (zi a3), some (zi a4), some (zi a5), none] [zi s0] S
set_option maxRecDepth 100000 in
theorem eP_tellZone (d : Nat) (a1 : Int32) (a2 : Int32) (S : ZS) : zP_tellZone (d + 1) a1 a2 S =
  zif (a1 < 0) (
    some ((0 : Int32), S)) (
    zif ((16 : Int32) ≤ a1) (
      some ((0 : Int32), S)) (
      zif (a2 < (1 : Int32)) (
        some ((0 : Int32), S)) (
        zif (a2 ≤ (9 : Int32)) (
          zg (zin a1 16) (
          some ((1 : Int32), ((zu S.1 40 0 (zx a1) a2), S.2)))) (
          some ((0 : Int32), S))))) := zeqi d 32 4 0 [some (zr 4 0), some (zi a1), some (zi a2)] [] S
set_option maxRecDepth 100000 in
theorem eP_isRackOf (d : Nat) (a1 : Int32) (a2 : Int32) (S : ZS) : zP_isRackOf (d + 1) a1 a2 S =
  zif (a2 < 0) (
    some ((0 : Int32), S)) (
    zif ((S.1 4 0 0) ≤ a2) (
      some ((0 : Int32), S)) (
      zg (zin a2 12) (
      zif ((S.1 33 0 (zx a2)) = a1) (
        some ((1 : Int32), S)) (
        some ((0 : Int32), S))))) := zeqi d 33 4 0 [some (zr 4 0), some (zi a1), some (zi a2)] [] S
set_option maxRecDepth 100000 in
theorem eP_isLevel (d : Nat) (a1 : Int32) (a2 : Int32) (S : ZS) : zP_isLevel (d + 1) a1 a2 S =
  (zP_isRackOf d (0 : Int32) a1 S).bind (fun r1 =>
  zif (r1.1 = 0) (
    some ((0 : Int32), r1.2)) (
    zif (a2 < 0) (
      some ((0 : Int32), r1.2)) (
      zif ((10 : Int32) ≤ a2) (
        some ((0 : Int32), r1.2)) (
        some ((1 : Int32), r1.2))))) := zeqi d 34 4 0 [some (zr 4 0), some (zi a1), some (zi a2)] [] S
set_option maxRecDepth 100000 in
theorem eP_isSwitch (d : Nat) (a1 : Int32) (S : ZS) : zP_isSwitch (d + 1) a1 S =
  zif (a1 < 0) (
    zP_isSwitch_20 d a1 (0 : Int32) S) (
    zif (((S.1 4 0 0) * (8 : Int32)) ≤ a1) (
      zP_isSwitch_20 d a1 (0 : Int32) S) (
      zP_isSwitch_20 d a1 (1 : Int32) S)) := zeqi d 35 4 0 [some (zr 4 0), some (zi a1), none] [] S
set_option maxRecDepth 100000 in
theorem eP_isSwitch_20 (d : Nat) (a1 : Int32) (s0 : Int32) (S : ZS) : zP_isSwitch_20 d a1 s0 S =
  zif (s0 = 0) (
    some ((0 : Int32), S)) (
    zg (zin (a1 / (8 : Int32)) 12) (
    zif ((S.1 34 0 (zx (a1 / (8 : Int32)))) ≤ (a1 - a1 / (8 : Int32) * (8 : Int32))) (
      some ((0 : Int32), S)) (
      some ((1 : Int32), S)))) := zeqi d 35 4 20 [some (zr 4 0), some (zi a1), none] [zi s0] S
set_option maxRecDepth 100000 in
theorem eP_isEnd (d : Nat) (a1 : Int32) (S : ZS) : zP_isEnd (d + 1) a1 S =
  (zP_isSwitch d a1 S).bind (fun r1 =>
  zif (r1.1 = 0) (
    (zP_isJunction d a1 r1.2).bind (fun r2 =>
    zif (r2.1 = 0) (
      some ((0 : Int32), r2.2)) (
      some ((1 : Int32), r2.2)))) (
    some ((1 : Int32), r1.2))) := zeqi d 36 4 0 [some (zr 4 0), some (zi a1)] [] S
set_option maxRecDepth 100000 in
theorem eP_isJunction (d : Nat) (a1 : Int32) (S : ZS) : zP_isJunction (d + 1) a1 S =
  zif (a1 < (100 : Int32)) (
    some ((0 : Int32), S)) (
    zif ((116 : Int32) ≤ a1) (
      some ((0 : Int32), S)) (
      some ((1 : Int32), S))) := zeqi d 37 4 0 [some (zr 4 0), some (zi a1)] [] S
set_option maxRecDepth 100000 in
theorem eP_isFinal (d : Nat) (a1 : Int32) (S : ZS) : zP_isFinal (d + 1) a1 S =
  zif (a1 < 0) (
    some ((0 : Int32), S)) (
    zif ((96 : Int32) ≤ a1) (
      some ((0 : Int32), S)) (
      zg (zin (a1 / (8 : Int32)) 12) (
      zif ((S.1 33 0 (zx (a1 / (8 : Int32)))) = (1 : Int32)) (
        some ((1 : Int32), S)) (
        some ((0 : Int32), S))))) := zeqi d 38 4 0 [some (zr 4 0), some (zi a1)] [] S
set_option maxRecDepth 100000 in
theorem eP_zoneOf (d : Nat) (a1 : Int32) (S : ZS) : zP_zoneOf (d + 1) a1 S =
  (zP_isJunction d a1 S).bind (fun r1 =>
  zif (r1.1 = 0) (
    some ((0 : Int32), r1.2)) (
    zg (zin (a1 - (100 : Int32)) 16) (
    some ((r1.2.1 40 0 (zx (a1 - (100 : Int32)))), r1.2)))) := zeqi d 39 4 0 [some (zr 4 0), some (zi a1)] [] S
set_option maxRecDepth 100000 in
theorem eP_spot (d : Nat) (a0 : Int32) (a1 : Int32) (a2 : Int32) (S : ZS) : zP_spot (d + 1) a0 a1 a2 S =
  some ((((((a0 * (2 : Int32)) + a1) * (10 : Int32)) + a2) * (4 : Int32)), S) := zeqi d 40 4 0 [some (zi a0), some (zi a1), some (zi a2)] [] S
set_option maxRecDepth 100000 in
theorem eP_leadsTo (d : Nat) (a1 : Int32) (a2 : Int32) (a3 : Int32) (a4 : Int32) (S : ZS) : zP_leadsTo (d + 1) a1 a2 a3 a4 S =
  (zP_spot d a1 a2 a3 S).bind (fun r1 =>
  zg (zin (r1.1 + a4) 960) (
  some ((r1.2.1 36 0 (zx (r1.1 + a4))), r1.2))) := zeqi d 41 4 0 [some (zr 4 0), some (zi a1), some (zi a2), some (zi a3), some (zi a4)] [] S
set_option maxRecDepth 100000 in
theorem eP_leadsFrom (d : Nat) (a1 : Int32) (a2 : Int32) (a3 : Int32) (S : ZS) : zP_leadsFrom (d + 1) a1 a2 a3 S =
  zg (zin (a1 / (8 : Int32)) 12) (
  bif zz (S.1 35 0 (zx (a1 / (8 : Int32)))) then none else
  (zP_spot d (a1 / (8 : Int32)) ((a1 - a1 / (8 : Int32) * (8 : Int32)) - (a1 - a1 / (8 : Int32) * (8 : Int32)) / (S.1 35 0 (zx (a1 / (8 : Int32)))) * (S.1 35 0 (zx (a1 / (8 : Int32))))) a2 S).bind (fun r1 =>
  zg (zin (r1.1 + a3) 960) (
  some ((r1.2.1 36 0 (zx (r1.1 + a3))), r1.2)))) := zeqi d 42 4 0 [some (zr 4 0), some (zi a1), some (zi a2), some (zi a3), none, none] [] S
set_option maxRecDepth 100000 in
theorem eP_isOut (d : Nat) (a1 : Int32) (S : ZS) : zP_isOut (d + 1) a1 S =
  zif (a1 < 0) (
    some ((0 : Int32), S)) (
    zif ((96 : Int32) ≤ a1) (
      some ((0 : Int32), S)) (
      zg (zin a1 96) (
      zif ((S.1 37 0 (zx a1)) = 0) (
        some ((0 : Int32), S)) (
        some ((1 : Int32), S))))) := zeqi d 43 4 0 [some (zr 4 0), some (zi a1)] [] S
set_option maxRecDepth 100000 in
theorem eP_isFaulty (d : Nat) (a1 : Int32) (S : ZS) : zP_isFaulty (d + 1) a1 S =
  zif (a1 < 0) (
    some ((0 : Int32), S)) (
    zif ((96 : Int32) ≤ a1) (
      some ((0 : Int32), S)) (
      zg (zin a1 96) (
      zif ((S.1 38 0 (zx a1)) = 0) (
        some ((0 : Int32), S)) (
        some ((1 : Int32), S))))) := zeqi d 44 4 0 [some (zr 4 0), some (zi a1)] [] S
set_option maxRecDepth 100000 in
theorem eP_canTake (d : Nat) (a1 : Int32) (S : ZS) : zP_canTake (d + 1) a1 S =
  zif (a1 < 0) (
    some ((0 : Int32), S)) (
    zif ((116 : Int32) ≤ a1) (
      some ((0 : Int32), S)) (
      zg (zin a1 116) (
      zif ((S.1 39 0 (zx a1)) = (-1 : Int32)) (
        (zP_isOut d a1 S).bind (fun r1 =>
        zif (r1.1 = 0) (
          some ((1 : Int32), r1.2)) (
          some ((0 : Int32), r1.2)))) (
        some ((0 : Int32), S))))) := zeqi d 45 4 0 [some (zr 4 0), some (zi a1)] [] S
set_option maxRecDepth 100000 in
theorem eP_heldWithin (d : Nat) (a1 : Int32) (a2 : Int32) (S : ZS) : zP_heldWithin (d + 1) a1 a2 S =
  zP_heldWithin_5 d a2 (0 : Int32) a1 S := zeqi d 46 4 0 [some (zr 4 0), some (zi a1), some (zi a2), none, none] [] S
set_option maxRecDepth 100000 in
theorem eP_heldWithin_5 (d : Nat) (a2 : Int32) (a3 : Int32) (a4 : Int32) (S : ZS) : zP_heldWithin_5 d a2 a3 a4 S =
  zif (a2 ≤ a4) (
    some (a3, S)) (
    zg (zin a4 116) (
    zif ((S.1 39 0 (zx a4)) = (-1 : Int32)) (
      zP_heldWithin_5 d a2 (a3 + (0 : Int32)) (a4 + (1 : Int32)) S) (
      zP_heldWithin_5 d a2 (a3 + (1 : Int32)) (a4 + (1 : Int32)) S))) := zeqi d 46 4 5 [some (zr 4 0), none, some (zi a2), some (zi a3), some (zi a4)] [] S
set_option maxRecDepth 100000 in
theorem eP_allSwitches (d : Nat)  (S : ZS) : zP_allSwitches (d + 1)  S =
  zP_allSwitches_4 d (0 : Int32) (0 : Int32) S := zeqi d 47 4 0 [some (zr 4 0), none, none] [] S
set_option maxRecDepth 100000 in
theorem eP_allSwitches_4 (d : Nat) (a1 : Int32) (a2 : Int32) (S : ZS) : zP_allSwitches_4 d a1 a2 S =
  zif ((S.1 4 0 0) ≤ a2) (
    some (a1, S)) (
    zg (zin a2 12) (
    zP_allSwitches_4 d (a1 + (S.1 34 0 (zx a2))) (a2 + (1 : Int32)) S)) := zeqi d 47 4 4 [some (zr 4 0), some (zi a1), some (zi a2)] [] S
set_option maxRecDepth 100000 in
theorem eR_fewestMoved (d : Nat) (a1 : Int32) (a2 : Int32) (a3 : Int32) (S : ZS) : zR_fewestMoved (d + 1) a1 a2 a3 S =
  zg (zin a1 40) (
  (zcv (zcall d) 96 [zr 9 0, zo (S.2.2.1 20 0 (zx a1)), zi a2, zi a3] S).bind (fun r1 =>
  zg (zbl (0 : Int32)) (
  (zR_canLay d 0 ((zu (zu r1.1 5 0 5 (-1 : Int32)) 5 0 4 (0 : Int32)), r1.2)).bind (fun r2 =>
  zif (r2.1 = 0) (
    zR_fewestMoved_44 d (0 : Int32) r2.2) (
    some ((0 : Int32), r2.2)))))) := zeqi d 48 5 0 [some (zr 5 0), some (zi a1), some (zi a2), some (zi a3), none] [] S
set_option maxRecDepth 100000 in
theorem eR_fewestMoved_44 (d : Nat) (a4 : Int32) (S : ZS) : zR_fewestMoved_44 d a4 S =
  zif ((S.1 0 0 3) ≤ a4) (
    zif ((S.1 5 0 5) = (-1 : Int32)) (
      some ((-1 : Int32), S)) (
      some ((1 : Int32), S))) (
    zif ((S.1 5 0 5) = (-1 : Int32)) (
      zg (zin a4 40) (
      (zci (zcall d) 49 [zo (S.2.2.1 20 0 (zx a4))] S).bind (fun r1 =>
      zif (r1.1 = 0) (
        zR_fewestMoved_44 d (a4 + (1 : Int32)) r1.2) (
        zg (zin a4 40) (
        (zci (zcall d) 50 [zr 5 0, zo (r1.2.2.2.1 20 0 (zx a4))] r1.2).bind (fun r2 =>
        zif (r2.1 = 0) (
          zR_fewestMoved_44 d (a4 + (1 : Int32)) r2.2) (
          zR_fewestMoved_44 d (a4 + (1 : Int32)) ((zu r2.2.1 5 0 5 a4), r2.2.2)))))))) (
      zif ((S.1 5 0 5) = (-1 : Int32)) (
        some ((-1 : Int32), S)) (
        some ((1 : Int32), S)))) := zeqi d 48 5 44 [some (zr 5 0), none, none, none, some (zi a4)] [] S
set_option maxRecDepth 100000 in
theorem eR_canMove (d : Nat) (o0 : Nat) (S : ZS) : zR_canMove (d + 1) o0 S =
  zif ((S.1 2 o0 3) = (5 : Int32)) (
    zR_canMove_22 d o0 (1 : Int32) S) (
    zif ((S.1 2 o0 3) = (6 : Int32)) (
      zR_canMove_22 d o0 (1 : Int32) S) (
      zR_canMove_22 d o0 (0 : Int32) S)) := zeqi d 49 5 0 [some (zr 2 o0), none] [] S
set_option maxRecDepth 100000 in
theorem eR_canMove_22 (d : Nat) (a0 : Nat) (s0 : Int32) (S : ZS) : zR_canMove_22 d a0 s0 S =
  zif ((S.1 2 a0 2) = (1 : Int32)) (
    zif (s0 = 0) (
      some ((0 : Int32), S)) (
      zif ((5 : Int32) < (S.1 2 a0 6)) (
        some ((0 : Int32), S)) (
        some ((1 : Int32), S)))) (
    some ((0 : Int32), S)) := zeqi d 49 5 22 [some (zr 2 a0), none] [zi s0] S
set_option maxRecDepth 100000 in
theorem eR_laysBoth (d : Nat) (o1 : Nat) (S : ZS) : zR_laysBoth (d + 1) o1 S =
  (zW_again d 1 o1 S).bind (fun r1 =>
  (zC_setHolder d o1 (-1 : Int32) r1).bind (fun r2 =>
  zg (zbl (0 : Int32)) (
  (zR_canLay d 0 ((zu r2.1 5 0 4 (0 : Int32)), r2.2)).bind (fun r3 =>
  zif (r3.1 = 0) (
    (zC_setHolder d o1 (r3.2.1 2 o1 0) r3.2).bind (fun r4 =>
    zgb r3.1 (some (r3.1, r4)))) (
    zg (zbl (1 : Int32)) (
    (zR_canLay d 0 ((zu r3.2.1 5 0 4 (1 : Int32)), r3.2.2)).bind (fun r5 =>
    (zC_setHolder d o1 (r5.2.1 2 o1 0) r5.2).bind (fun r6 =>
    zgb r5.1 (some (r5.1, r6)))))))))) := zeqi d 50 5 0 [some (zr 5 0), some (zr 2 o1), none] [] S
set_option maxRecDepth 100000 in
theorem eR_canLay (d : Nat) (o1 : Nat) (S : ZS) : zR_canLay (d + 1) o1 S =
  zR_canLay_10 d o1 ((S.1 9 o1 1) * (8 : Int32)) ((S.1 9 o1 1) * (8 : Int32)) S := zeqi d 51 5 0 [some (zr 5 0), some (zr 9 o1), none, none] [] S
set_option maxRecDepth 100000 in
theorem eR_canLay_10 (d : Nat) (a1 : Nat) (a2 : Int32) (a3 : Int32) (S : ZS) : zR_canLay_10 d a1 a2 a3 S =
  zg (zin (S.1 9 a1 1) 12) (
  zif ((a2 + (S.1 34 0 (zx (S.1 9 a1 1)))) ≤ a3) (
    some ((0 : Int32), S)) (
    (zR_layOver d a1 a3 (0 : Int32) S).bind (fun r1 =>
    zif (r1.1 = 0) (
      zR_canLay_10 d a1 a2 (a3 + (1 : Int32)) r1.2) (
      some ((1 : Int32), r1.2))))) := zeqi d 51 5 10 [some (zr 5 0), some (zr 9 a1), some (zi a2), some (zi a3)] [] S
set_option maxRecDepth 100000 in
theorem eR_layOver (d : Nat) (o1 : Nat) (a2 : Int32) (a3 : Int32) (S : ZS) : zR_layOver (d + 1) o1 a2 a3 S =
  (zP_canTake d a2 S).bind (fun r1 =>
  zif (r1.1 = 0) (
    some ((0 : Int32), r1.2)) (
    (zP_isFaulty d a2 r1.2).bind (fun r2 =>
    zif (r2.1 = 0) (
      zg (zin a2 116) (
      (zR_goesOn d o1 a2 a3 ((zu r2.2.1 39 0 (zx a2) (r2.2.1 9 o1 0)), r2.2.2)).bind (fun r3 =>
      zg (zin a2 116) (
      zgb r3.1 (some (r3.1, ((zu r3.2.1 39 0 (zx a2) (-1 : Int32)), r3.2.2))))))) (
      some ((0 : Int32), r2.2))))) := zeqi d 52 5 0 [some (zr 5 0), some (zr 9 o1), some (zi a2), some (zi a3), none] [] S
set_option maxRecDepth 100000 in
theorem eR_goesOn (d : Nat) (o1 : Nat) (a2 : Int32) (a3 : Int32) (S : ZS) : zR_goesOn (d + 1) o1 a2 a3 S =
  (zP_isJunction d a2 S).bind (fun r1 =>
  zif (r1.1 = 0) (
    (zP_isFinal d a2 r1.2).bind (fun r2 =>
    zif (r2.1 = 0) (
      zif (a3 < (r2.2.1 9 o1 3)) (
        zR_goesOn_84 d o1 a2 a3 (0 : Int32) r2.2) (
        some ((0 : Int32), r2.2))) (
      (zW_ringsAtFinal d o1 a2 a3 r2.2).bind (fun r3 =>
      zif (r3.1 = 0) (
        some ((0 : Int32), r3.2)) (
        (zR_restIsLaid d o1 r3.2).bind (fun r4 =>
        zif (r4.1 = 0) (
          some ((0 : Int32), r4.2)) (
          some ((1 : Int32), r4.2)))))))) (
    (zW_ringsOverJunction d o1 a3 r1.2).bind (fun r5 =>
    zif (r5.1 = 0) (
      some ((0 : Int32), r5.2)) (
      (zR_restIsLaid d o1 r5.2).bind (fun r6 =>
      zif (r6.1 = 0) (
        some ((0 : Int32), r6.2)) (
        some ((1 : Int32), r6.2))))))) := zeqi d 53 5 0 [some (zr 5 0), some (zr 9 o1), some (zi a2), some (zi a3), none] [] S
set_option maxRecDepth 100000 in
theorem eR_goesOn_84 (d : Nat) (a1 : Nat) (a2 : Int32) (a3 : Int32) (a4 : Int32) (S : ZS) : zR_goesOn_84 d a1 a2 a3 a4 S =
  zif ((4 : Int32) ≤ a4) (
    some ((0 : Int32), S)) (
    zg (zin a3 5) (
    (zP_leadsFrom d a2 (S.1 58 a1 (zx a3)) a4 S).bind (fun r1 =>
    (zR_layOver d a1 r1.1 (a3 + (1 : Int32)) r1.2).bind (fun r2 =>
    zif (r2.1 = 0) (
      zR_goesOn_84 d a1 a2 a3 (a4 + (1 : Int32)) r2.2) (
      some ((1 : Int32), r2.2)))))) := zeqi d 53 5 84 [some (zr 5 0), some (zr 9 a1), some (zi a2), some (zi a3), some (zi a4)] [] S
set_option maxRecDepth 100000 in
theorem eR_restIsLaid (d : Nat) (o1 : Nat) (S : ZS) : zR_restIsLaid (d + 1) o1 S =
  zif ((S.1 5 0 4) = 0) (
    some ((1 : Int32), S)) (
    zif ((some (9, o1)) = (some (9, 1))) (
      some ((1 : Int32), S)) (
      (zR_canLay d 1 S).bind (fun r1 =>
      zif (r1.1 = 0) (
        some ((0 : Int32), r1.2)) (
        some ((1 : Int32), r1.2))))) := zeqi d 54 5 0 [some (zr 5 0), some (zr 9 o1)] [] S
set_option maxRecDepth 100000 in
theorem eT_addSigns (d : Nat) (w1 : Int64) (S : ZS) : zT_addSigns (d + 1) w1 S =
  zT_addSigns_3 d w1 (56 : Int32) S := zeqv d 55 6 0 [some (zr 6 0), some (zl w1), none, none, none, none] [] S
set_option maxRecDepth 100000 in
theorem eT_addSigns_3 (d : Nat) (a1 : Int64) (a3 : Int32) (S : ZS) : zT_addSigns_3 d a1 a3 S =
  zif (a3 < 0) (
    some S) (
    zif (((a1.toUInt64 >>> (a3.toInt64.toUInt64 &&& Int64.toUInt64 63)).toInt64 &&& (255 : Int64)).toInt32 = (10 : Int32)) (
      zT_addSigns_43 d a1 a3 ((a1.toUInt64 >>> (a3.toInt64.toUInt64 &&& Int64.toUInt64 63)).toInt64 &&& (255 : Int64)).toInt32 (1 : Int32) S) (
      zif (((a1.toUInt64 >>> (a3.toInt64.toUInt64 &&& Int64.toUInt64 63)).toInt64 &&& (255 : Int64)).toInt32 < (32 : Int32)) (
        zT_addSigns_43 d a1 a3 ((a1.toUInt64 >>> (a3.toInt64.toUInt64 &&& Int64.toUInt64 63)).toInt64 &&& (255 : Int64)).toInt32 (0 : Int32) S) (
        zif ((126 : Int32) < ((a1.toUInt64 >>> (a3.toInt64.toUInt64 &&& Int64.toUInt64 63)).toInt64 &&& (255 : Int64)).toInt32) (
          zT_addSigns_43 d a1 a3 ((a1.toUInt64 >>> (a3.toInt64.toUInt64 &&& Int64.toUInt64 63)).toInt64 &&& (255 : Int64)).toInt32 (0 : Int32) S) (
          zT_addSigns_43 d a1 a3 ((a1.toUInt64 >>> (a3.toInt64.toUInt64 &&& Int64.toUInt64 63)).toInt64 &&& (255 : Int64)).toInt32 (1 : Int32) S)))) := zeqv d 55 6 3 [some (zr 6 0), some (zl a1), none, some (zi a3), none, none] [] S
set_option maxRecDepth 100000 in
theorem eT_addSigns_43 (d : Nat) (a1 : Int64) (a3 : Int32) (a4 : Int32) (s0 : Int32) (S : ZS) : zT_addSigns_43 d a1 a3 a4 s0 S =
  zif (s0 = 0) (
    zT_addSigns_3 d a1 (a3 + (-8 : Int32)) S) (
    zif ((1000 : Int32) ≤ (S.1 6 0 1)) (
      zT_addSigns_3 d a1 (a3 + (-8 : Int32)) S) (
      zg (zin (S.1 6 0 1) 1000) (
      zT_addSigns_3 d a1 (a3 + (-8 : Int32)) ((zu (zu S.1 41 0 (zx (S.1 6 0 1)) ((a4.toUInt32 % 65536).toInt32.toUInt32 % 65536).toInt32) 6 0 1 (((zu S.1 41 0 (zx (S.1 6 0 1)) ((a4.toUInt32 % 65536).toInt32.toUInt32 % 65536).toInt32) 6 0 1) + (1 : Int32))), S.2)))) := zeqv d 55 6 43 [some (zr 6 0), some (zl a1), none, some (zi a3), some (zi a4), none] [zi s0] S
set_option maxRecDepth 100000 in
theorem eT_rewind (d : Nat)  (S : ZS) : zT_rewind (d + 1)  S =
  (zT_next d ((zu (zu S.1 6 0 3 (0 : Int32)) 6 0 4 (0 : Int32)), S.2)).bind (fun r1 =>
  some r1) := zeqv d 56 6 0 [some (zr 6 0)] [] S
set_option maxRecDepth 100000 in
theorem eT_next (d : Nat)  (S : ZS) : zT_next (d + 1)  S =
  zT_next_13 d ((zu S.1 6 0 3 ((S.1 6 0 3) + (S.1 6 0 4))), S.2) := zeqv d 57 6 0 [some (zr 6 0), none, none] [] S
set_option maxRecDepth 100000 in
theorem eT_next_13 (d : Nat)  (S : ZS) : zT_next_13 d  S =
  zif ((S.1 6 0 1) ≤ (S.1 6 0 3)) (
    zT_next_65 d S) (
    zg (zin (S.1 6 0 3) 1000) (
    zif ((S.1 41 0 (zx (S.1 6 0 3))) = (32 : Int32)) (
      zT_next_13 d ((zu S.1 6 0 3 ((S.1 6 0 3) + (1 : Int32))), S.2)) (
      zg (zin (S.1 6 0 3) 1000) (
      zif ((S.1 41 0 (zx (S.1 6 0 3))) = (10 : Int32)) (
        zT_next_13 d ((zu S.1 6 0 3 ((S.1 6 0 3) + (1 : Int32))), S.2)) (
        zT_next_65 d S))))) := zeqv d 57 6 13 [some (zr 6 0), none, none] [] S
set_option maxRecDepth 100000 in
theorem eT_next_65 (d : Nat)  (S : ZS) : zT_next_65 d  S =
  (zT_runFrom d (S.1 6 0 3) (97 : Int32) (122 : Int32) S).bind (fun r1 =>
  (zT_runFrom d (r1.2.1 6 0 3) (48 : Int32) (57 : Int32) r1.2).bind (fun r2 =>
  (zci (zcall d) 1000 [zi (1 : Int32), zi (r1.1 + r2.1)] r2.2).bind (fun r3 =>
  zif (r1.1 ≤ 0) (
    zT_next_121 d r1.1 r2.1 none ((zu r3.2.1 6 0 4 r3.1), r3.2.2)) (
    zif ((8 : Int32) < r1.1) (
      zT_next_121 d r1.1 r2.1 none ((zu r3.2.1 6 0 4 r3.1), r3.2.2)) (
      (zT_wordRead d ((zu r3.2.1 6 0 4 r3.1), r3.2.2)).bind (fun r4 =>
      zT_next_121 d r1.1 r2.1 r4.1 r4.2)))))) := zeqv d 57 6 65 [some (zr 6 0), none, none] [] S
set_option maxRecDepth 100000 in
theorem eT_next_121 (d : Nat) (a1 : Int32) (a2 : Int32) (s0 : Option ZR) (S : ZS) : zT_next_121 d a1 a2 s0 S =
  zif ((S.1 6 0 3) < (S.1 6 0 1)) (
    zif (a1 ≤ 0) (
      zif (a2 ≤ 0) (
        zg (zin (S.1 6 0 3) 1000) (
        (zci (zcall d) 1006 [zr 13 13, zi (S.1 41 0 (zx (S.1 6 0 3)))] (S.1, S.2.1, (zu S.2.2.1 6 0 5 s0), S.2.2.2)).bind (fun r1 =>
        zif (r1.1 < 0) (
          some ((zu r1.2.1 6 0 2 (4 : Int32)), r1.2.2)) (
          some ((zu r1.2.1 6 0 2 (3 : Int32)), r1.2.2))))) (
        zif ((4 : Int32) < a2) (
          some ((zu S.1 6 0 2 (4 : Int32)), S.2.1, (zu S.2.2.1 6 0 5 s0), S.2.2.2)) (
          some ((zu S.1 6 0 2 (2 : Int32)), S.2.1, (zu S.2.2.1 6 0 5 s0), S.2.2.2)))) (
      zif ((8 : Int32) < a1) (
        some ((zu S.1 6 0 2 (4 : Int32)), S.2.1, (zu S.2.2.1 6 0 5 s0), S.2.2.2)) (
        some ((zu S.1 6 0 2 (1 : Int32)), S.2.1, (zu S.2.2.1 6 0 5 s0), S.2.2.2)))) (
    some ((zu (zu S.1 6 0 2 (0 : Int32)) 6 0 4 (0 : Int32)), S.2.1, (zu S.2.2.1 6 0 5 s0), S.2.2.2)) := zeqv d 57 6 121 [some (zr 6 0), some (zi a1), some (zi a2)] [zo s0, zr 6 0] S
set_option maxRecDepth 100000 in
theorem eT_runFrom (d : Nat) (a1 : Int32) (a2 : Int32) (a3 : Int32) (S : ZS) : zT_runFrom (d + 1) a1 a2 a3 S =
  zT_runFrom_3 d a1 a2 a3 a1 S := zeqi d 58 6 0 [some (zr 6 0), some (zi a1), some (zi a2), some (zi a3), none] [] S
set_option maxRecDepth 100000 in
theorem eT_runFrom_3 (d : Nat) (a1 : Int32) (a2 : Int32) (a3 : Int32) (a4 : Int32) (S : ZS) : zT_runFrom_3 d a1 a2 a3 a4 S =
  zif ((S.1 6 0 1) ≤ a4) (
    some ((a4 - a1), S)) (
    zg (zin a4 1000) (
    zif ((S.1 41 0 (zx a4)) < a2) (
      some ((a4 - a1), S)) (
      zg (zin a4 1000) (
      zif (a3 < (S.1 41 0 (zx a4))) (
        some ((a4 - a1), S)) (
        zT_runFrom_3 d a1 a2 a3 (a4 + (1 : Int32)) S))))) := zeqi d 58 6 3 [some (zr 6 0), some (zi a1), some (zi a2), some (zi a3), some (zi a4)] [] S
set_option maxRecDepth 100000 in
theorem eT_isAtEnd (d : Nat)  (S : ZS) : zT_isAtEnd (d + 1)  S =
  zif ((S.1 6 0 2) = 0) (
    some ((1 : Int32), S)) (
    some ((0 : Int32), S)) := zeqi d 59 6 0 [some (zr 6 0)] [] S
set_option maxRecDepth 100000 in
theorem eT_isNumber (d : Nat)  (S : ZS) : zT_isNumber (d + 1)  S =
  zif ((S.1 6 0 2) = (2 : Int32)) (
    some ((1 : Int32), S)) (
    some ((0 : Int32), S)) := zeqi d 60 6 0 [some (zr 6 0)] [] S
set_option maxRecDepth 100000 in
theorem eT_isSign (d : Nat) (a1 : Int32) (S : ZS) : zT_isSign (d + 1) a1 S =
  zif ((S.1 6 0 2) = (3 : Int32)) (
    zg (zin (S.1 6 0 3) 1000) (
    zif ((S.1 41 0 (zx (S.1 6 0 3))) = a1) (
      some ((1 : Int32), S)) (
      some ((0 : Int32), S)))) (
    some ((0 : Int32), S)) := zeqi d 61 6 0 [some (zr 6 0), some (zi a1)] [] S
set_option maxRecDepth 100000 in
theorem eT_isWord (d : Nat) (o1 : Nat) (S : ZS) : zT_isWord (d + 1) o1 S =
  zif ((S.2.2.1 6 0 5) = (some (12, o1))) (
    some ((1 : Int32), S)) (
    some ((0 : Int32), S)) := zeqi d 62 6 0 [some (zr 6 0), some (zr 12 o1)] [] S
set_option maxRecDepth 100000 in
theorem eT_isName (d : Nat)  (S : ZS) : zT_isName (d + 1)  S =
  zif ((S.1 6 0 2) = (1 : Int32)) (
    zif ((S.2.2.1 6 0 5) = none) (
      some ((1 : Int32), S)) (
      some ((0 : Int32), S))) (
    some ((0 : Int32), S)) := zeqi d 63 6 0 [some (zr 6 0)] [] S
set_option maxRecDepth 100000 in
theorem eT_value (d : Nat)  (S : ZS) : zT_value (d + 1)  S =
  zif ((S.2.2.1 6 0 5) = none) (
    some ((-1 : Int32), S)) (
    zder (S.2.2.1 6 0 5) 12 (fun i1 =>
    some ((zwv i1), S))) := zeqi d 64 6 0 [some (zr 6 0)] [] S
set_option maxRecDepth 100000 in
theorem eT_wordRead (d : Nat)  (S : ZS) : zT_wordRead (d + 1)  S =
  zT_wordRead_9 d (Int32.ofNat 13) (0 : Int32) S := zeqo d 65 6 0 [some (zr 6 0), none, none, none, none, none, none] [] S
set_option maxRecDepth 100000 in
theorem eT_wordRead_9 (d : Nat) (a2 : Int32) (a3 : Int32) (S : ZS) : zT_wordRead_9 d a2 a3 S =
  zif (a2 ≤ a3) (
    some (none, S)) (
    zg (zin a3 13) (
    zder (some (12, zx a3)) 12 (fun i1 =>
    (zci (zcall d) 1004 [zr 13 i1] S).bind (fun r2 =>
    (zci (zcall d) 1001 [zi (S.1 6 0 4), zi r2.1] r2.2).bind (fun r3 =>
    zT_wordRead_39 d a2 a3 (some (12, zx a3)) (0 : Int32) r3.1 r3.2))))) := zeqo d 65 6 9 [some (zr 6 0), some (zr 14 0), some (zi a2), some (zi a3), none, none, none] [] S
set_option maxRecDepth 100000 in
theorem eT_wordRead_39 (d : Nat) (a2 : Int32) (a3 : Int32) (a4 : Option ZR) (a5 : Int32) (a6 : Int32) (S : ZS) : zT_wordRead_39 d a2 a3 a4 a5 a6 S =
  zif (a6 ≤ a5) (
    zT_wordRead_77 d a2 a3 a4 a5 S) (
    zg (zin ((S.1 6 0 3) + a5) 1000) (
    zder a4 12 (fun i1 =>
    (zci (zcall d) 1005 [zr 13 i1, zi a5] S).bind (fun r2 =>
    zif ((S.1 41 0 (zx ((S.1 6 0 3) + a5))) = r2.1) (
      zT_wordRead_39 d a2 a3 a4 (a5 + (1 : Int32)) a6 r2.2) (
      zT_wordRead_77 d a2 a3 a4 a5 r2.2))))) := zeqo d 65 6 39 [some (zr 6 0), some (zr 14 0), some (zi a2), some (zi a3), some (zo a4), some (zi a5), some (zi a6)] [] S
set_option maxRecDepth 100000 in
theorem eT_wordRead_77 (d : Nat) (a2 : Int32) (a3 : Int32) (a4 : Option ZR) (a5 : Int32) (S : ZS) : zT_wordRead_77 d a2 a3 a4 a5 S =
  zif (a5 = (S.1 6 0 4)) (
    zder a4 12 (fun i1 =>
    (zci (zcall d) 1004 [zr 13 i1] S).bind (fun r2 =>
    zif (a5 = r2.1) (
      some (a4, r2.2)) (
      zT_wordRead_9 d a2 (a3 + (1 : Int32)) r2.2)))) (
    zT_wordRead_9 d a2 (a3 + (1 : Int32)) S) := zeqo d 65 6 77 [some (zr 6 0), some (zr 14 0), some (zi a2), some (zi a3), some (zo a4), some (zi a5), none] [] S
set_option maxRecDepth 100000 in
theorem eT_number (d : Nat)  (S : ZS) : zT_number (d + 1)  S =
  zT_number_4 d (0 : Int32) (0 : Int32) S := zeqi d 66 6 0 [some (zr 6 0), none, none] [] S
set_option maxRecDepth 100000 in
theorem eT_number_4 (d : Nat) (a1 : Int32) (a2 : Int32) (S : ZS) : zT_number_4 d a1 a2 S =
  zif ((S.1 6 0 4) ≤ a2) (
    some (a1, S)) (
    zg (zin ((S.1 6 0 3) + a2) 1000) (
    zT_number_4 d ((a1 * (10 : Int32)) + ((S.1 41 0 (zx ((S.1 6 0 3) + a2))) - (48 : Int32))) (a2 + (1 : Int32)) S)) := zeqi d 66 6 4 [some (zr 6 0), some (zi a1), some (zi a2)] [] S
set_option maxRecDepth 100000 in
theorem eT_letters (d : Nat)  (S : ZS) : zT_letters (d + 1)  S =
  zT_letters_4 d (0 : Int64) (0 : Int32) S := zeql d 67 6 0 [some (zr 6 0), none, none, none] [] S
set_option maxRecDepth 100000 in
theorem eT_letters_4 (d : Nat) (a1 : Int64) (a3 : Int32) (S : ZS) : zT_letters_4 d a1 a3 S =
  zif ((S.1 6 0 4) ≤ a3) (
    some (a1, S)) (
    zg (zin ((S.1 6 0 3) + a3) 1000) (
    zT_letters_4 d ((a1 * (32 : Int64)) + (((S.1 41 0 (zx ((S.1 6 0 3) + a3))) - (97 : Int32)) + (1 : Int32)).toInt64) (a3 + (1 : Int32)) S)) := zeql d 67 6 4 [some (zr 6 0), some (zl a1), none, some (zi a3)] [] S
set_option maxRecDepth 100000 in
theorem eF_readTape (d : Nat) (o0 : Nat) (S : ZS) : zF_readTape (d + 1) o0 S =
  (zT_rewind d ((zu (zu (zu (zu S.1 7 o0 1 (0 : Int32)) 7 o0 2 (0 : Int32)) 7 o0 8 (0 : Int32)) 7 o0 7 (0 : Int32)), S.2)).bind (fun r1 =>
  zF_readTape_31 d o0 (1 : Int32) (0 : Int32) r1) := zeqi d 68 7 0 [some (zr 7 o0), none, none, none] [] S
set_option maxRecDepth 100000 in
theorem eF_readTape_31 (d : Nat) (a0 : Nat) (a1 : Int32) (a2 : Int32) (S : ZS) : zF_readTape_31 d a0 a1 a2 S =
  zif ((16 : Int32) < a2) (
    some ((S.1 7 a0 1), S)) (
    zif (a1 = 0) (
      some ((S.1 7 a0 1), S)) (
      (zT_isAtEnd d S).bind (fun r1 =>
      zif (r1.1 = 0) (
        (zT_isWord d 6 r1.2).bind (fun r2 =>
        (zF_passFirst d a0 r2.2).bind (fun r3 =>
        zif (r3.1 = 0) (
          zF_readTape_95 d a0 a2 (0 : Int32) r3.2) (
          zif (r2.1 = 0) (
            (zF_readUnit d a0 r3.2).bind (fun r4 =>
            zif (r4.1 = 0) (
              zF_readTape_95 d a0 a2 (0 : Int32) r4.2) (
              zF_readTape_95 d a0 a2 (1 : Int32) r4.2))) (
            (zF_readLet d a0 r3.2).bind (fun r5 =>
            zif (r5.1 = 0) (
              zF_readTape_95 d a0 a2 (0 : Int32) r5.2) (
              zF_readTape_95 d a0 a2 (1 : Int32) r5.2))))))) (
        some ((r1.2.1 7 a0 1), r1.2))))) := zeqi d 68 7 31 [some (zr 7 a0), some (zi a1), some (zi a2), none] [] S
set_option maxRecDepth 100000 in
theorem eF_readTape_95 (d : Nat) (a0 : Nat) (a2 : Int32) (s0 : Int32) (S : ZS) : zF_readTape_95 d a0 a2 s0 S =
  zif (s0 = 0) (
    zF_readTape_31 d a0 s0 (a2 + (1 : Int32)) S) (
    zg (zin (S.1 7 a0 2) 16) (
    zF_readTape_31 d a0 s0 (a2 + (1 : Int32)) ((zu (zu S.1 44 a0 (zx (S.1 7 a0 2)) (S.1 7 a0 7)) 7 a0 2 (((zu S.1 44 a0 (zx (S.1 7 a0 2)) (S.1 7 a0 7)) 7 a0 2) + (1 : Int32))), S.2))) := zeqi d 68 7 95 [some (zr 7 a0), none, some (zi a2), none] [zi s0] S
set_option maxRecDepth 100000 in
theorem eF_passFirst (d : Nat) (o0 : Nat) (S : ZS) : zF_passFirst (d + 1) o0 S =
  (zT_isWord d 6 S).bind (fun r1 =>
  zif (r1.1 = 0) (
    (zT_isWord d 7 r1.2).bind (fun r2 =>
    zif (r2.1 = 0) (
      (zF_fail d o0 (1 : Int32) r2.2).bind (fun r3 =>
      zgb r3.1 (some (r3.1, r3.2)))) (
      zif ((r2.2.1 7 o0 2) = (16 : Int32)) (
        (zF_fail d o0 (5 : Int32) r2.2).bind (fun r4 =>
        zgb r4.1 (some (r4.1, r4.2)))) (
        (zT_next d r2.2).bind (fun r5 =>
        some ((1 : Int32), r5)))))) (
    zif ((r1.2.1 7 o0 2) = (16 : Int32)) (
      (zF_fail d o0 (5 : Int32) r1.2).bind (fun r6 =>
      zgb r6.1 (some (r6.1, r6.2)))) (
      (zT_next d r1.2).bind (fun r7 =>
      some ((1 : Int32), r7))))) := zeqi d 69 7 0 [some (zr 7 o0)] [] S
set_option maxRecDepth 100000 in
theorem eF_readLet (d : Nat) (o0 : Nat) (S : ZS) : zF_readLet (d + 1) o0 S =
  (zT_isName d S).bind (fun r1 =>
  zif (r1.1 = 0) (
    (zF_fail d o0 (1 : Int32) r1.2).bind (fun r2 =>
    zgb r2.1 (some (r2.1, r2.2)))) (
    (zT_letters d r1.2).bind (fun r3 =>
    (zF_slotOf d o0 r3.1 r3.2).bind (fun r4 =>
    zif (r4.1 = (-1 : Int32)) (
      zif ((r4.2.1 7 o0 8) = (6 : Int32)) (
        (zF_fail d o0 (5 : Int32) r4.2).bind (fun r5 =>
        zgb r5.1 (some (r5.1, r5.2)))) (
        (zT_next d r4.2).bind (fun r6 =>
        zg (zin (r6.1 7 o0 2) 16) (
        (zF_passSign d o0 (61 : Int32) ((zu r6.1 42 o0 (zx (r6.1 7 o0 2)) (-1 : Int32)), r6.2)).bind (fun r7 =>
        zif (r7.1 = 0) (
          some ((0 : Int32), r7.2)) (
          (zF_readOperations d o0 (0 : Int32) (0 : Int32) r7.2).bind (fun r8 =>
          zif (r8.1 = 0) (
            some ((0 : Int32), r8.2)) (
            (zF_passSign d o0 (59 : Int32) r8.2).bind (fun r9 =>
            zif (r9.1 = 0) (
              some ((0 : Int32), r9.2)) (
              zg (zin (r9.2.1 7 o0 8) 6) (
              some ((1 : Int32), ((zu r9.2.1 7 o0 8 ((r9.2.1 7 o0 8) + (1 : Int32))), (zu r9.2.2.1 46 o0 (zx (r9.2.1 7 o0 8)) r3.1), r9.2.2.2))))))))))))) (
      (zF_fail d o0 (3 : Int32) r4.2).bind (fun r10 =>
      zgb r10.1 (some (r10.1, r10.2)))))))) := zeqi d 70 7 0 [some (zr 7 o0), none, none] [] S
set_option maxRecDepth 100000 in
theorem eF_readUnit (d : Nat) (o0 : Nat) (S : ZS) : zF_readUnit (d + 1) o0 S =
  (zF_isNumberWithin d o0 (0 : Int32) (99 : Int32) S).bind (fun r1 =>
  zif (r1.1 = 0) (
    some ((0 : Int32), r1.2)) (
    (zT_number d r1.2).bind (fun r2 =>
    zg (zin (r1.2.1 7 o0 2) 16) (
    (zT_next d ((zu r2.2.1 42 o0 (zx (r1.2.1 7 o0 2)) r2.1), r2.2.2)).bind (fun r3 =>
    (zF_passWord d o0 8 r3).bind (fun r4 =>
    zif (r4.1 = 0) (
      some ((0 : Int32), r4.2)) (
      (zF_isNumberWithin d o0 (30 : Int32) (9999 : Int32) r4.2).bind (fun r5 =>
      zif (r5.1 = 0) (
        some ((0 : Int32), r5.2)) (
        (zT_number d r5.2).bind (fun r6 =>
        zg (zin (r5.2.1 7 o0 2) 16) (
        (zT_next d ((zu r6.2.1 43 o0 (zx (r5.2.1 7 o0 2)) r6.1), r6.2.2)).bind (fun r7 =>
        (zF_passWord d o0 9 r7).bind (fun r8 =>
        zif (r8.1 = 0) (
          some ((0 : Int32), r8.2)) (
          (zF_readOperations d o0 (0 : Int32) (0 : Int32) r8.2).bind (fun r9 =>
          zif (r9.1 = 0) (
            some ((0 : Int32), r9.2)) (
            (zF_passSign d o0 (59 : Int32) r9.2).bind (fun r10 =>
            zif (r10.1 = 0) (
              some ((0 : Int32), r10.2)) (
              some ((1 : Int32), r10.2))))))))))))))))))) := zeqi d 71 7 0 [some (zr 7 o0)] [] S
set_option maxRecDepth 100000 in
theorem eF_fail (d : Nat) (o0 : Nat) (a1 : Int32) (S : ZS) : zF_fail (d + 1) o0 a1 S =
  some ((0 : Int32), ((zu S.1 7 o0 1 (a1 + ((16 : Int32) * (S.1 6 0 3)))), S.2)) := zeqi d 72 7 0 [some (zr 7 o0), some (zi a1)] [] S
set_option maxRecDepth 100000 in
theorem eF_passSign (d : Nat) (o0 : Nat) (a1 : Int32) (S : ZS) : zF_passSign (d + 1) o0 a1 S =
  (zT_isSign d a1 S).bind (fun r1 =>
  zif (r1.1 = 0) (
    (zF_fail d o0 (1 : Int32) r1.2).bind (fun r2 =>
    zgb r2.1 (some (r2.1, r2.2)))) (
    (zT_next d r1.2).bind (fun r3 =>
    some ((1 : Int32), r3)))) := zeqi d 73 7 0 [some (zr 7 o0), some (zi a1)] [] S
set_option maxRecDepth 100000 in
theorem eF_passWord (d : Nat) (o0 : Nat) (o1 : Nat) (S : ZS) : zF_passWord (d + 1) o0 o1 S =
  (zT_isWord d o1 S).bind (fun r1 =>
  zif (r1.1 = 0) (
    (zF_fail d o0 (1 : Int32) r1.2).bind (fun r2 =>
    zgb r2.1 (some (r2.1, r2.2)))) (
    (zT_next d r1.2).bind (fun r3 =>
    some ((1 : Int32), r3)))) := zeqi d 74 7 0 [some (zr 7 o0), some (zr 12 o1)] [] S
set_option maxRecDepth 100000 in
theorem eF_isNumberWithin (d : Nat) (o0 : Nat) (a1 : Int32) (a2 : Int32) (S : ZS) : zF_isNumberWithin (d + 1) o0 a1 a2 S =
  (zT_isNumber d S).bind (fun r1 =>
  zif (r1.1 = 0) (
    (zF_fail d o0 (1 : Int32) r1.2).bind (fun r2 =>
    zgb r2.1 (some (r2.1, r2.2)))) (
    (zT_number d r1.2).bind (fun r3 =>
    zif (r3.1 < a1) (
      (zF_fail d o0 (4 : Int32) r3.2).bind (fun r4 =>
      zif (r4.1 = 0) (
        some ((0 : Int32), r4.2)) (
        some ((1 : Int32), r4.2)))) (
      (zT_number d r3.2).bind (fun r5 =>
      zif (r5.1 ≤ a2) (
        some ((1 : Int32), r5.2)) (
        (zF_fail d o0 (4 : Int32) r5.2).bind (fun r6 =>
        zif (r6.1 = 0) (
          some ((0 : Int32), r6.2)) (
          some ((1 : Int32), r6.2))))))))) := zeqi d 75 7 0 [some (zr 7 o0), some (zi a1), some (zi a2)] [] S
set_option maxRecDepth 100000 in
theorem eF_slotOf (d : Nat) (o0 : Nat) (w1 : Int64) (S : ZS) : zF_slotOf (d + 1) o0 w1 S =
  zF_slotOf_2 d o0 w1 (0 : Int32) S := zeqi d 76 7 0 [some (zr 7 o0), some (zl w1), none, none] [] S
set_option maxRecDepth 100000 in
theorem eF_slotOf_2 (d : Nat) (a0 : Nat) (a1 : Int64) (a3 : Int32) (S : ZS) : zF_slotOf_2 d a0 a1 a3 S =
  zif ((S.1 7 a0 8) ≤ a3) (
    some ((-1 : Int32), S)) (
    zg (zin a3 6) (
    zif ((lg_cmp (S.2.1 46 a0 (zx a3)) a1) = 0) (
      some (a3, S)) (
      zF_slotOf_2 d a0 a1 (a3 + (1 : Int32)) S))) := zeqi d 76 7 2 [some (zr 7 a0), some (zl a1), none, some (zi a3)] [] S
set_option maxRecDepth 100000 in
theorem eF_readOperations (d : Nat) (o0 : Nat) (a1 : Int32) (a2 : Int32) (S : ZS) : zF_readOperations (d + 1) o0 a1 a2 S =
  zif (a1 < (4 : Int32)) (
    (zF_readOperations d o0 (a1 + (1 : Int32)) a2 S).bind (fun r1 =>
    zif (r1.1 = 0) (
      some ((0 : Int32), r1.2)) (
      zif (a1 = (1 : Int32)) (
        (zF_operationAt d o0 a1 r1.2).bind (fun r2 =>
        zF_readOperations_47 d o0 a1 a2 (1 : Int32) r2.1 (0 : Int32) r2.2)) (
        (zF_operationAt d o0 a1 r1.2).bind (fun r3 =>
        zF_readOperations_47 d o0 a1 a2 (1000 : Int32) r3.1 (0 : Int32) r3.2))))) (
    (zF_readPart d o0 a2 S).bind (fun r4 =>
    zgb r4.1 (some (r4.1, r4.2)))) := zeqi d 77 7 0 [some (zr 7 o0), some (zi a1), some (zi a2), none, none, none] [] S
set_option maxRecDepth 100000 in
theorem eF_readOperations_47 (d : Nat) (a0 : Nat) (a1 : Int32) (a2 : Int32) (a3 : Int32) (a4 : Int32) (a5 : Int32) (S : ZS) : zF_readOperations_47 d a0 a1 a2 a3 a4 a5 S =
  zif (a3 ≤ a5) (
    some ((1 : Int32), S)) (
    zif (a4 = (-1 : Int32)) (
      some ((1 : Int32), S)) (
      (zT_next d S).bind (fun r1 =>
      (zF_readOperations d a0 (a1 + (1 : Int32)) a2 r1).bind (fun r2 =>
      zif (r2.1 = 0) (
        some ((0 : Int32), r2.2)) (
        (zF_put d a0 a4 r2.2).bind (fun r3 =>
        (zF_operationAt d a0 a1 r3).bind (fun r4 =>
        zF_readOperations_47 d a0 a1 a2 a3 r4.1 (a5 + (1 : Int32)) r4.2))))))) := zeqi d 77 7 47 [some (zr 7 a0), some (zi a1), some (zi a2), some (zi a3), some (zi a4), some (zi a5)] [] S
set_option maxRecDepth 100000 in
theorem eF_operationAt (d : Nat) (o0 : Nat) (a1 : Int32) (S : ZS) : zF_operationAt (d + 1) o0 a1 S =
  zif (a1 = (0 : Int32)) (
    (zT_isWord d 10 S).bind (fun r1 =>
    zif (r1.1 = 0) (
      (zT_isWord d 11 r1.2).bind (fun r2 =>
      zif (r2.1 = 0) (
        some ((-1 : Int32), r2.2)) (
        some ((30002 : Int32), r2.2)))) (
      some ((30001 : Int32), r1.2)))) (
  zif (a1 = (1 : Int32)) (
    (zT_isSign d (60 : Int32) S).bind (fun r3 =>
    zif (r3.1 = 0) (
      (zT_isSign d (61 : Int32) r3.2).bind (fun r4 =>
      zif (r4.1 = 0) (
        some ((-1 : Int32), r4.2)) (
        some ((30004 : Int32), r4.2)))) (
      some ((30003 : Int32), r3.2)))) (
  zif (a1 = (2 : Int32)) (
    (zT_isSign d (43 : Int32) S).bind (fun r5 =>
    zif (r5.1 = 0) (
      (zT_isSign d (45 : Int32) r5.2).bind (fun r6 =>
      zif (r6.1 = 0) (
        some ((-1 : Int32), r6.2)) (
        some ((30006 : Int32), r6.2)))) (
      some ((30005 : Int32), r5.2)))) (
  (zT_isSign d (42 : Int32) S).bind (fun r7 =>
  zif (r7.1 = 0) (
    some ((-1 : Int32), r7.2)) (
    some ((30007 : Int32), r7.2)))))) := zeqi d 78 7 0 [some (zr 7 o0), some (zi a1)] [] S
set_option maxRecDepth 100000 in
theorem eF_readPart (d : Nat) (o0 : Nat) (a1 : Int32) (S : ZS) : zF_readPart (d + 1) o0 a1 S =
  (zT_value d S).bind (fun r1 =>
  (zT_isName d r1.2).bind (fun r2 =>
  (zT_isWord d 12 r2.2).bind (fun r3 =>
  (zT_isSign d (40 : Int32) r3.2).bind (fun r4 =>
  zif (r2.1 = 0) (
    zif (r3.1 = 0) (
      zif (r4.1 = 0) (
        zif (r1.1 = (-1 : Int32)) (
          (zT_isNumber d r4.2).bind (fun r5 =>
          zif (r5.1 = 0) (
            (zF_fail d o0 (1 : Int32) r5.2).bind (fun r6 =>
            zgb r6.1 (some (r6.1, r6.2)))) (
            zF_readPart_74 d o0 a1 r1.1 r2.1 r3.1 r4.1 r5.2))) (
          zF_readPart_74 d o0 a1 r1.1 r2.1 r3.1 r4.1 r4.2)) (
        zF_readPart_74 d o0 a1 r1.1 r2.1 r3.1 r4.1 r4.2)) (
      zF_readPart_74 d o0 a1 r1.1 r2.1 r3.1 r4.1 r4.2)) (
    zF_readPart_74 d o0 a1 r1.1 r2.1 r3.1 r4.1 r4.2))))) := zeqi d 79 7 0 [some (zr 7 o0), some (zi a1), none, none, none, none, none] [] S
set_option maxRecDepth 100000 in
theorem eF_readPart_74 (d : Nat) (a0 : Nat) (a1 : Int32) (a2 : Int32) (a3 : Int32) (a4 : Int32) (a5 : Int32) (S : ZS) : zF_readPart_74 d a0 a1 a2 a3 a4 a5 S =
  zif (a3 = 0) (
    zif (a3 = 0) (
      zF_readPart_111 d a0 a1 a2 a3 a4 a5 (-1 : Int32) S) (
      zif ((-1 : Int32) = (-1 : Int32)) (
        (zF_fail d a0 (2 : Int32) S).bind (fun r1 =>
        zgb r1.1 (some (r1.1, r1.2)))) (
        zF_readPart_111 d a0 a1 a2 a3 a4 a5 (-1 : Int32) S))) (
    (zT_letters d S).bind (fun r2 =>
    (zF_slotOf d a0 r2.1 r2.2).bind (fun r3 =>
    zif (a3 = 0) (
      zF_readPart_111 d a0 a1 a2 a3 a4 a5 r3.1 r3.2) (
      zif (r3.1 = (-1 : Int32)) (
        (zF_fail d a0 (2 : Int32) r3.2).bind (fun r4 =>
        zgb r4.1 (some (r4.1, r4.2)))) (
        zF_readPart_111 d a0 a1 a2 a3 a4 a5 r3.1 r3.2))))) := zeqi d 79 7 74 [some (zr 7 a0), some (zi a1), some (zi a2), some (zi a3), some (zi a4), some (zi a5), none] [] S
set_option maxRecDepth 100000 in
theorem eF_readPart_111 (d : Nat) (a0 : Nat) (a1 : Int32) (a2 : Int32) (a3 : Int32) (a4 : Int32) (a5 : Int32) (a6 : Int32) (S : ZS) : zF_readPart_111 d a0 a1 a2 a3 a4 a5 a6 S =
  zif (a1 < (5 : Int32)) (
    zif (a4 = 0) (
      zif (a5 = 0) (
        zif (a3 = 0) (
          zif (a2 = (-1 : Int32)) (
            (zT_number d S).bind (fun r1 =>
            (zF_put d a0 r1.1 r1.2).bind (fun r2 =>
            (zT_next d r2).bind (fun r3 =>
            some ((1 : Int32), r3))))) (
            (zF_put d a0 ((10000 : Int32) + a2) S).bind (fun r4 =>
            (zT_next d r4).bind (fun r5 =>
            some ((1 : Int32), r5))))) (
          (zF_put d a0 ((20000 : Int32) + a6) S).bind (fun r6 =>
          (zT_next d r6).bind (fun r7 =>
          some ((1 : Int32), r7))))) (
        (zF_readWithin d a0 a4 (a1 + (1 : Int32)) S).bind (fun r8 =>
        zgb r8.1 (some (r8.1, r8.2))))) (
      (zF_readWithin d a0 a4 (a1 + (1 : Int32)) S).bind (fun r9 =>
      zgb r9.1 (some (r9.1, r9.2))))) (
    (zF_fail d a0 (5 : Int32) S).bind (fun r10 =>
    zgb r10.1 (some (r10.1, r10.2)))) := zeqi d 79 7 111 [some (zr 7 a0), some (zi a1), some (zi a2), some (zi a3), some (zi a4), some (zi a5), some (zi a6)] [] S
set_option maxRecDepth 100000 in
theorem eF_readWithin (d : Nat) (o0 : Nat) (a1 : Int32) (a2 : Int32) (S : ZS) : zF_readWithin (d + 1) o0 a1 a2 S =
  (zT_next d S).bind (fun r1 =>
  zif (a1 = 0) (
    (zF_readOperations d o0 (0 : Int32) a2 r1).bind (fun r2 =>
    zif (r2.1 = 0) (
      some ((0 : Int32), r2.2)) (
      (zF_passSign d o0 (41 : Int32) r2.2).bind (fun r3 =>
      zif (r3.1 = 0) (
        some ((0 : Int32), r3.2)) (
        some ((1 : Int32), r3.2)))))) (
    (zF_readPart d o0 a2 r1).bind (fun r4 =>
    zif (r4.1 = 0) (
      some ((0 : Int32), r4.2)) (
      (zF_put d o0 (30000 : Int32) r4.2).bind (fun r5 =>
      some ((1 : Int32), r5)))))) := zeqi d 80 7 0 [some (zr 7 o0), some (zi a1), some (zi a2)] [] S
set_option maxRecDepth 100000 in
theorem eF_put (d : Nat) (o0 : Nat) (a1 : Int32) (S : ZS) : zF_put (d + 1) o0 a1 S =
  zif ((Int32.ofNat 1000) ≤ (S.1 7 o0 7)) (
    some S) (
    zg (zin (S.1 7 o0 7) 1000) (
    some ((zu (zu S.1 45 o0 (zx (S.1 7 o0 7)) a1) 7 o0 7 (((zu S.1 45 o0 (zx (S.1 7 o0 7)) a1) 7 o0 7) + (1 : Int32))), S.2))) := zeqv d 81 7 0 [some (zr 7 o0), some (zi a1)] [] S
set_option maxRecDepth 100000 in
theorem eF_unitsOf (d : Nat) (o0 : Nat) (a1 : Int32) (a2 : Int32) (a3 : Int32) (a4 : Int32) (S : ZS) : zF_unitsOf (d + 1) o0 a1 a2 a3 a4 S =
  zg (zin (zwv 0) 6) (
  zg (zin (zwv 5) 6) (
  zF_unitsOf_34 d o0 a1 a2 (0 : Int32) a1 (0 : Int32) ((zu (zu S.1 48 o0 (zx (zwv 0)) a3) 48 o0 (zx (zwv 5)) a4), S.2))) := zeqi d 82 7 0 [some (zr 7 o0), some (zi a1), some (zi a2), some (zi a3), some (zi a4), none, none, none, none] [] S
set_option maxRecDepth 100000 in
theorem eF_unitsOf_34 (d : Nat) (a0 : Nat) (a1 : Int32) (a2 : Int32) (a5 : Int32) (a6 : Int32) (a7 : Int32) (S : ZS) : zF_unitsOf_34 d a0 a1 a2 a5 a6 a7 S =
  zif ((999999 : Int32) < a7) (
    some (a5, S)) (
    zif (a2 ≤ a6) (
      some (a5, S)) (
      zg (zin (zwv 1) 6) (
      zg (zin (zwv 2) 6) (
      zg (zin (zwv 3) 6) (
      zg (zin (zwv 4) 6) (
      (zF_firstMet d a0 ((zu (zu (zu (zu S.1 48 a0 (zx (zwv 1)) ((a6 / (3600 : Int32)) - (a6 / (3600 : Int32)) / (24 : Int32) * (24 : Int32))) 48 a0 (zx (zwv 2)) ((a6 / (86400 : Int32)) - (a6 / (86400 : Int32)) / (7 : Int32) * (7 : Int32))) 48 a0 (zx (zwv 3)) (a6 - a1)) 48 a0 (zx (zwv 4)) a5), S.2)).bind (fun r1 =>
      zif (r1.1 = (-1 : Int32)) (
        zF_unitsOf_139 d a0 a1 a2 a6 a7 r1.1 (0 : Int32) a5 r1.2) (
        zg (zin r1.1 16) (
        zF_unitsOf_139 d a0 a1 a2 a6 a7 r1.1 (r1.2.1 42 a0 (zx r1.1)) a5 r1.2))))))))) := zeqi d 82 7 34 [some (zr 7 a0), some (zi a1), some (zi a2), none, none, some (zi a5), some (zi a6), some (zi a7), none] [] S
set_option maxRecDepth 100000 in
theorem eF_unitsOf_139 (d : Nat) (a0 : Nat) (a1 : Int32) (a2 : Int32) (a6 : Int32) (a7 : Int32) (a8 : Int32) (s0 : Int32) (s1 : Int32) (S : ZS) : zF_unitsOf_139 d a0 a1 a2 a6 a7 a8 s0 s1 S =
  zif (a8 = (-1 : Int32)) (
    zF_unitsOf_34 d a0 a1 a2 (s1 + s0) (a6 + (60 : Int32)) (a7 + (1 : Int32)) S) (
    zg (zin a8 16) (
    zF_unitsOf_34 d a0 a1 a2 (s1 + s0) (a6 + (S.1 43 a0 (zx a8))) (a7 + (1 : Int32)) S)) := zeqi d 82 7 139 [some (zr 7 a0), some (zi a1), some (zi a2), none, none, none, some (zi a6), some (zi a7), some (zi a8)] [zi s0, zi s1] S
set_option maxRecDepth 100000 in
theorem eF_firstMet (d : Nat) (o0 : Nat) (S : ZS) : zF_firstMet (d + 1) o0 S =
  zF_firstMet_6 d o0 (0 : Int32) (0 : Int32) (0 : Int32) S := zeqi d 83 7 0 [some (zr 7 o0), none, none, none, none] [] S
set_option maxRecDepth 100000 in
theorem eF_firstMet_6 (d : Nat) (a0 : Nat) (a1 : Int32) (a2 : Int32) (a3 : Int32) (S : ZS) : zF_firstMet_6 d a0 a1 a2 a3 S =
  zif ((S.1 7 a0 2) ≤ a3) (
    some ((-1 : Int32), S)) (
    zg (zin a3 16) (
    (zF_resultOf d a0 a1 (S.1 44 a0 (zx a3)) S).bind (fun r1 =>
    zg (zin a3 16) (
    zg (zin a3 16) (
    zif ((r1.2.1 42 a0 (zx a3)) = (-1 : Int32)) (
      zF_firstMet_51 d a0 (r1.2.1 44 a0 (zx a3)) a2 a3 r1.1 r1.2) (
      zif (r1.1 = 0) (
        zF_firstMet_51 d a0 (r1.2.1 44 a0 (zx a3)) a2 a3 r1.1 r1.2) (
        some (a3, r1.2)))))))) := zeqi d 83 7 6 [some (zr 7 a0), some (zi a1), some (zi a2), some (zi a3), none] [] S
set_option maxRecDepth 100000 in
theorem eF_firstMet_51 (d : Nat) (a0 : Nat) (a1 : Int32) (a2 : Int32) (a3 : Int32) (a4 : Int32) (S : ZS) : zF_firstMet_51 d a0 a1 a2 a3 a4 S =
  zg (zin a3 16) (
  zif ((S.1 42 a0 (zx a3)) = (-1 : Int32)) (
    zif ((6 : Int32) ≤ a2) (
      zF_firstMet_6 d a0 a1 a2 (a3 + (1 : Int32)) S) (
      zg (zin a2 6) (
      zF_firstMet_6 d a0 a1 (a2 + (1 : Int32)) (a3 + (1 : Int32)) ((zu S.1 47 a0 (zx a2) a4), S.2)))) (
    zF_firstMet_6 d a0 a1 a2 (a3 + (1 : Int32)) S)) := zeqi d 83 7 51 [some (zr 7 a0), some (zi a1), some (zi a2), some (zi a3), some (zi a4)] [] S
set_option maxRecDepth 100000 in
theorem eF_resultOf (d : Nat) (o0 : Nat) (a1 : Int32) (a2 : Int32) (S : ZS) : zF_resultOf (d + 1) o0 a1 a2 S =
  zF_resultOf_5 d o0 a2 (0 : Int32) a1 S := zeqi d 84 7 0 [some (zr 7 o0), some (zi a1), some (zi a2), none, none, none] [] S
set_option maxRecDepth 100000 in
theorem eF_resultOf_5 (d : Nat) (a0 : Nat) (a2 : Int32) (a3 : Int32) (a4 : Int32) (S : ZS) : zF_resultOf_5 d a0 a2 a3 a4 S =
  zif (a2 ≤ a4) (
    zg (zin (0 : Int32) 25) (
    some ((S.1 49 a0 (zx (0 : Int32))), S))) (
    zg (zin a4 1000) (
    zif ((30000 : Int32) ≤ (S.1 45 a0 (zx a4))) (
      zF_resultOf_55 d a0 a2 a3 a4 (S.1 45 a0 (zx a4)) S) (
      zif ((Int32.ofNat 25) ≤ a3) (
        zF_resultOf_55 d a0 a2 a3 a4 (S.1 45 a0 (zx a4)) S) (
        (zF_operand d a0 (S.1 45 a0 (zx a4)) S).bind (fun r1 =>
        zg (zin a3 25) (
        zF_resultOf_5 d a0 a2 (a3 + (1 : Int32)) (a4 + (1 : Int32)) ((zu r1.2.1 49 a0 (zx a3) r1.1), r1.2.2))))))) := zeqi d 84 7 5 [some (zr 7 a0), none, some (zi a2), some (zi a3), some (zi a4), none] [] S
set_option maxRecDepth 100000 in
theorem eF_resultOf_55 (d : Nat) (a0 : Nat) (a2 : Int32) (a3 : Int32) (a4 : Int32) (a5 : Int32) (S : ZS) : zF_resultOf_55 d a0 a2 a3 a4 a5 S =
  zif (a5 = (30000 : Int32)) (
    zif (a3 < (1 : Int32)) (
      zF_resultOf_95 d a0 a2 a3 a4 a5 S) (
      zg (zin (a3 - (1 : Int32)) 25) (
      zif ((S.1 49 a0 (zx (a3 - (1 : Int32)))) = 0) (
        zg (zin (a3 - (1 : Int32)) 25) (
        zF_resultOf_5 d a0 a2 a3 (a4 + (1 : Int32)) ((zu S.1 49 a0 (zx (a3 - (1 : Int32))) (1 : Int32)), S.2))) (
        zg (zin (a3 - (1 : Int32)) 25) (
        zF_resultOf_5 d a0 a2 a3 (a4 + (1 : Int32)) ((zu S.1 49 a0 (zx (a3 - (1 : Int32))) (0 : Int32)), S.2)))))) (
    zF_resultOf_95 d a0 a2 a3 a4 a5 S) := zeqi d 84 7 55 [some (zr 7 a0), none, some (zi a2), some (zi a3), some (zi a4), some (zi a5)] [] S
set_option maxRecDepth 100000 in
theorem eF_resultOf_95 (d : Nat) (a0 : Nat) (a2 : Int32) (a3 : Int32) (a4 : Int32) (a5 : Int32) (S : ZS) : zF_resultOf_95 d a0 a2 a3 a4 a5 S =
  zif (a5 ≤ (30000 : Int32)) (
    zF_resultOf_5 d a0 a2 a3 (a4 + (1 : Int32)) S) (
    zif (a3 < (2 : Int32)) (
      zF_resultOf_5 d a0 a2 a3 (a4 + (1 : Int32)) S) (
      zg (zin ((a3 + (-1 : Int32)) - (1 : Int32)) 25) (
      zg (zin (a3 + (-1 : Int32)) 25) (
      (zF_joined d a5 (S.1 49 a0 (zx ((a3 + (-1 : Int32)) - (1 : Int32)))) (S.1 49 a0 (zx (a3 + (-1 : Int32)))) S).bind (fun r1 =>
      zg (zin ((a3 + (-1 : Int32)) - (1 : Int32)) 25) (
      zF_resultOf_5 d a0 a2 (a3 + (-1 : Int32)) (a4 + (1 : Int32)) ((zu r1.2.1 49 a0 (zx ((a3 + (-1 : Int32)) - (1 : Int32))) r1.1), r1.2.2))))))) := zeqi d 84 7 95 [some (zr 7 a0), none, some (zi a2), some (zi a3), some (zi a4), some (zi a5)] [] S
set_option maxRecDepth 100000 in
theorem eF_operand (d : Nat) (o0 : Nat) (a1 : Int32) (S : ZS) : zF_operand (d + 1) o0 a1 S =
  zif (a1 < (20000 : Int32)) (
    zif (a1 < (10000 : Int32)) (
      some (a1, S)) (
      zg (zin (a1 - (10000 : Int32)) 6) (
      some ((S.1 48 o0 (zx (a1 - (10000 : Int32)))), S)))) (
    zg (zin (a1 - (20000 : Int32)) 6) (
    some ((S.1 47 o0 (zx (a1 - (20000 : Int32)))), S))) := zeqi d 85 7 0 [some (zr 7 o0), some (zi a1)] [] S
set_option maxRecDepth 100000 in
theorem eF_joined (d : Nat) (a0 : Int32) (a1 : Int32) (a2 : Int32) (S : ZS) : zF_joined (d + 1) a0 a1 a2 S =
  zif (a0 = (30001 : Int32)) (
    zif (a1 = 0) (
      some ((0 : Int32), S)) (
      zif (a2 = 0) (
        some ((0 : Int32), S)) (
        some ((1 : Int32), S)))) (
  zif (a0 = (30002 : Int32)) (
    zif (a1 = 0) (
      zif (a2 = 0) (
        some ((0 : Int32), S)) (
        some ((1 : Int32), S))) (
      some ((1 : Int32), S))) (
  zif (a0 = (30003 : Int32)) (
    zif (a2 ≤ a1) (
      some ((0 : Int32), S)) (
      some ((1 : Int32), S))) (
  zif (a0 = (30004 : Int32)) (
    zif (a1 = a2) (
      some ((1 : Int32), S)) (
      some ((0 : Int32), S))) (
  zif (a0 = (30005 : Int32)) (
    some ((a1 + a2), S)) (
  zif (a0 = (30006 : Int32)) (
    some ((a1 - a2), S)) (
  some ((a1 * a2), S))))))) := zeqi d 86 7 0 [some (zi a0), some (zi a1), some (zi a2)] [] S
set_option maxRecDepth 100000 in
theorem eB_note (d : Nat) (o1 : Nat) (a2 : Int32) (S : ZS) : zB_note (d + 1) o1 a2 S =
  zif ((S.1 8 0 1) = (60 : Int32)) (
    some S) (
    zB_note_15 d o1 a2 (0 : Int32) (0 : Int32) S) := zeqv d 87 8 0 [some (zr 8 0), some (zr 2 o1), some (zi a2), none, none] [] S
set_option maxRecDepth 100000 in
theorem eB_note_15 (d : Nat) (a1 : Nat) (a2 : Int32) (a3 : Int32) (a4 : Int32) (S : ZS) : zB_note_15 d a1 a2 a3 a4 S =
  zif ((S.1 2 a1 5) ≤ a4) (
    zB_note_77 d a2 a3 S) (
    zif ((6 : Int32) ≤ a3) (
      zB_note_77 d a2 a3 S) (
      zg (zin a4 97) (
      (zP_isSwitch d (S.1 29 a1 (zx a4)) S).bind (fun r1 =>
      zif (r1.1 = 0) (
        zB_note_15 d a1 a2 a3 (a4 + (1 : Int32)) r1.2) (
        zg (zin a4 97) (
        zg (zin (((r1.2.1 8 0 1) * (6 : Int32)) + a3) 360) (
        zB_note_15 d a1 a2 (a3 + (1 : Int32)) (a4 + (1 : Int32)) ((zu r1.2.1 50 0 (zx (((r1.2.1 8 0 1) * (6 : Int32)) + a3)) (r1.2.1 29 a1 (zx a4))), r1.2.2)))))))) := zeqv d 87 8 15 [some (zr 8 0), some (zr 2 a1), some (zi a2), some (zi a3), some (zi a4)] [] S
set_option maxRecDepth 100000 in
theorem eB_note_77 (d : Nat) (a2 : Int32) (a3 : Int32) (S : ZS) : zB_note_77 d a2 a3 S =
  zg (zin (S.1 8 0 1) 60) (
  zg (zin ((zu S.1 51 0 (zx (S.1 8 0 1)) a3) 8 0 1) 60) (
  zg (zbl a2) (
  some ((zu (zu (zu S.1 51 0 (zx (S.1 8 0 1)) a3) 52 0 (zx ((zu S.1 51 0 (zx (S.1 8 0 1)) a3) 8 0 1)) a2) 8 0 1 (((zu (zu S.1 51 0 (zx (S.1 8 0 1)) a3) 52 0 (zx ((zu S.1 51 0 (zx (S.1 8 0 1)) a3) 8 0 1)) a2) 8 0 1) + (1 : Int32))), S.2)))) := zeqv d 87 8 77 [some (zr 8 0), none, some (zi a2), some (zi a3), none] [] S
set_option maxRecDepth 100000 in
theorem eB_fewest (d : Nat)  (S : ZS) : zB_fewest (d + 1)  S =
  (zcv (zcall d) 1002 [zr 57 0, zi (0 : Int32)] ((zu S.1 8 0 9 (0 : Int32)), S.2)).bind (fun r1 =>
  (zB_markSound d r1).bind (fun r2 =>
  zB_fewest_19 d (0 : Int32) r2)) := zeqi d 88 8 0 [some (zr 8 0), none] [] S
set_option maxRecDepth 100000 in
theorem eB_fewest_19 (d : Nat) (a1 : Int32) (S : ZS) : zB_fewest_19 d a1 S =
  zif ((3 : Int32) < a1) (
    some ((-1 : Int32), S)) (
    (zB_choose d (0 : Int32) a1 S).bind (fun r1 =>
    zif ((r1.1 8 0 9) ≤ 0) (
      zB_fewest_19 d (a1 + (1 : Int32)) r1) (
      some (a1, r1)))) := zeqi d 88 8 19 [some (zr 8 0), some (zi a1)] [] S
set_option maxRecDepth 100000 in
theorem eB_isInAllSets (d : Nat) (a1 : Int32) (S : ZS) : zB_isInAllSets (d + 1) a1 S =
  zif ((S.1 8 0 9) ≤ 0) (
    some ((0 : Int32), S)) (
    zg (zin a1 96) (
    zif ((S.1 57 0 (zx a1)) = (S.1 8 0 9)) (
      some ((1 : Int32), S)) (
      some ((0 : Int32), S)))) := zeqi d 89 8 0 [some (zr 8 0), some (zi a1)] [] S
set_option maxRecDepth 100000 in
theorem eB_markSound (d : Nat)  (S : ZS) : zB_markSound (d + 1)  S =
  zB_markSound_2 d (0 : Int32) S := zeqv d 90 8 0 [some (zr 8 0), none, none] [] S
set_option maxRecDepth 100000 in
theorem eB_markSound_2 (d : Nat) (a1 : Int32) (S : ZS) : zB_markSound_2 d a1 S =
  zif ((96 : Int32) ≤ a1) (
    zB_markSound_23 d (0 : Int32) S) (
    zg (zin a1 96) (
    zg (zbl (0 : Int32)) (
    zB_markSound_2 d (a1 + (1 : Int32)) ((zu S.1 53 0 (zx a1) (0 : Int32)), S.2)))) := zeqv d 90 8 2 [some (zr 8 0), some (zi a1), none] [] S
set_option maxRecDepth 100000 in
theorem eB_markSound_23 (d : Nat) (a1 : Int32) (S : ZS) : zB_markSound_23 d a1 S =
  zif ((S.1 8 0 1) ≤ a1) (
    some S) (
    zB_markSound_33 d a1 (0 : Int32) S) := zeqv d 90 8 23 [some (zr 8 0), some (zi a1), none] [] S
set_option maxRecDepth 100000 in
theorem eB_markSound_33 (d : Nat) (a1 : Int32) (a2 : Int32) (S : ZS) : zB_markSound_33 d a1 a2 S =
  zg (zin a1 60) (
  zif ((S.1 51 0 (zx a1)) ≤ a2) (
    zB_markSound_23 d (a1 + (1 : Int32)) S) (
    zg (zin a1 60) (
    zif ((S.1 52 0 (zx a1)) = 0) (
      zg (zin ((a1 * (6 : Int32)) + a2) 360) (
      zg (zin (S.1 50 0 (zx ((a1 * (6 : Int32)) + a2))) 96) (
      zg (zbl (1 : Int32)) (
      zB_markSound_33 d a1 (a2 + (1 : Int32)) ((zu S.1 53 0 (zx (S.1 50 0 (zx ((a1 * (6 : Int32)) + a2)))) (1 : Int32)), S.2))))) (
      zB_markSound_23 d (a1 + (1 : Int32)) S)))) := zeqv d 90 8 33 [some (zr 8 0), some (zi a1), some (zi a2)] [] S
set_option maxRecDepth 100000 in
theorem eB_choose (d : Nat) (a1 : Int32) (a2 : Int32) (S : ZS) : zB_choose (d + 1) a1 a2 S =
  (zB_firstUnexplained d a1 S).bind (fun r1 =>
  zif (r1.1 = (-1 : Int32)) (
    (zB_addSet d a1 r1.2).bind (fun r2 =>
    some r2)) (
    zB_choose_20 d a1 a2 r1.1 (0 : Int32) r1.2)) := zeqv d 91 8 0 [some (zr 8 0), some (zi a1), some (zi a2), none, none, none] [] S
set_option maxRecDepth 100000 in
theorem eB_choose_20 (d : Nat) (a1 : Int32) (a2 : Int32) (a3 : Int32) (a4 : Int32) (S : ZS) : zB_choose_20 d a1 a2 a3 a4 S =
  zg (zin a3 60) (
  zif ((S.1 51 0 (zx a3)) ≤ a4) (
    some S) (
    zif (a2 ≤ a1) (
      some S) (
      zg (zin ((a3 * (6 : Int32)) + a4) 360) (
      zg (zin (S.1 50 0 (zx ((a3 * (6 : Int32)) + a4))) 96) (
      zif ((S.1 53 0 (zx (S.1 50 0 (zx ((a3 * (6 : Int32)) + a4))))) = 0) (
        zg (zin a1 3) (
        (zB_choose d (a1 + (1 : Int32)) a2 ((zu S.1 54 0 (zx a1) (S.1 50 0 (zx ((a3 * (6 : Int32)) + a4)))), S.2)).bind (fun r1 =>
        zB_choose_20 d a1 a2 a3 (a4 + (1 : Int32)) r1))) (
        zB_choose_20 d a1 a2 a3 (a4 + (1 : Int32)) S)))))) := zeqv d 91 8 20 [some (zr 8 0), some (zi a1), some (zi a2), some (zi a3), some (zi a4), none] [] S
set_option maxRecDepth 100000 in
theorem eB_firstUnexplained (d : Nat) (a1 : Int32) (S : ZS) : zB_firstUnexplained (d + 1) a1 S =
  zB_firstUnexplained_2 d a1 (0 : Int32) S := zeqi d 92 8 0 [some (zr 8 0), some (zi a1), none] [] S
set_option maxRecDepth 100000 in
theorem eB_firstUnexplained_2 (d : Nat) (a1 : Int32) (a2 : Int32) (S : ZS) : zB_firstUnexplained_2 d a1 a2 S =
  zif ((S.1 8 0 1) ≤ a2) (
    some ((-1 : Int32), S)) (
    zg (zin a2 60) (
    zif ((S.1 52 0 (zx a2)) = 0) (
      zB_firstUnexplained_2 d a1 (a2 + (1 : Int32)) S) (
      (zB_isExplained d a2 a1 S).bind (fun r1 =>
      zif (r1.1 = 0) (
        some (a2, r1.2)) (
        zB_firstUnexplained_2 d a1 (a2 + (1 : Int32)) r1.2))))) := zeqi d 92 8 2 [some (zr 8 0), some (zi a1), some (zi a2)] [] S
set_option maxRecDepth 100000 in
theorem eB_isExplained (d : Nat) (a1 : Int32) (a2 : Int32) (S : ZS) : zB_isExplained (d + 1) a1 a2 S =
  zB_isExplained_2 d a1 a2 (0 : Int32) S := zeqi d 93 8 0 [some (zr 8 0), some (zi a1), some (zi a2), none, none] [] S
set_option maxRecDepth 100000 in
theorem eB_isExplained_2 (d : Nat) (a1 : Int32) (a2 : Int32) (a3 : Int32) (S : ZS) : zB_isExplained_2 d a1 a2 a3 S =
  zg (zin a1 60) (
  zif ((S.1 51 0 (zx a1)) ≤ a3) (
    some ((0 : Int32), S)) (
    zB_isExplained_15 d a1 a2 a3 (0 : Int32) S)) := zeqi d 93 8 2 [some (zr 8 0), some (zi a1), some (zi a2), some (zi a3), none] [] S
set_option maxRecDepth 100000 in
theorem eB_isExplained_15 (d : Nat) (a1 : Int32) (a2 : Int32) (a3 : Int32) (a4 : Int32) (S : ZS) : zB_isExplained_15 d a1 a2 a3 a4 S =
  zif (a2 ≤ a4) (
    zB_isExplained_2 d a1 a2 (a3 + (1 : Int32)) S) (
    zg (zin ((a1 * (6 : Int32)) + a3) 360) (
    zg (zin a4 3) (
    zif ((S.1 50 0 (zx ((a1 * (6 : Int32)) + a3))) = (S.1 54 0 (zx a4))) (
      some ((1 : Int32), S)) (
      zB_isExplained_15 d a1 a2 a3 (a4 + (1 : Int32)) S)))) := zeqi d 93 8 15 [some (zr 8 0), some (zi a1), some (zi a2), some (zi a3), some (zi a4)] [] S
set_option maxRecDepth 100000 in
theorem eB_addSet (d : Nat) (a1 : Int32) (S : ZS) : zB_addSet (d + 1) a1 S =
  zB_addSet_2 d a1 (0 : Int32) S := zeqv d 94 8 0 [some (zr 8 0), some (zi a1), none, none] [] S
set_option maxRecDepth 100000 in
theorem eB_addSet_2 (d : Nat) (a1 : Int32) (a2 : Int32) (S : ZS) : zB_addSet_2 d a1 a2 S =
  zif (a1 ≤ a2) (
    zif ((S.1 8 0 9) = 0) (
      zB_addSet_98 d a1 S) (
      (zB_comesFirst d a1 S).bind (fun r1 =>
      zif (r1.1 = 0) (
        some ((zu r1.2.1 8 0 9 ((r1.2.1 8 0 9) + (1 : Int32))), r1.2.2)) (
        zB_addSet_98 d a1 r1.2)))) (
    zg (zin a2 3) (
    zg (zin (S.1 54 0 (zx a2)) 96) (
    zg (zin (S.1 54 0 (zx a2)) 96) (
    zB_addSet_24 d a1 a2 a2 ((zu S.1 57 0 (zx (S.1 54 0 (zx a2))) ((S.1 57 0 (zx (S.1 54 0 (zx a2)))) + (1 : Int32))), S.2))))) := zeqv d 94 8 2 [some (zr 8 0), some (zi a1), some (zi a2), none] [] S
set_option maxRecDepth 100000 in
theorem eB_addSet_24 (d : Nat) (a1 : Int32) (a2 : Int32) (a3 : Int32) (S : ZS) : zB_addSet_24 d a1 a2 a3 S =
  zif (a3 ≤ 0) (
    zg (zin a2 3) (
    zg (zin a3 3) (
    zB_addSet_2 d a1 (a2 + (1 : Int32)) ((zu S.1 55 0 (zx a3) (S.1 54 0 (zx a2))), S.2)))) (
    zg (zin (a3 - (1 : Int32)) 3) (
    zg (zin a2 3) (
    zif ((S.1 55 0 (zx (a3 - (1 : Int32)))) ≤ (S.1 54 0 (zx a2))) (
      zg (zin a2 3) (
      zg (zin a3 3) (
      zB_addSet_2 d a1 (a2 + (1 : Int32)) ((zu S.1 55 0 (zx a3) (S.1 54 0 (zx a2))), S.2)))) (
      zg (zin (a3 - (1 : Int32)) 3) (
      zg (zin a3 3) (
      zB_addSet_24 d a1 a2 (a3 + (-1 : Int32)) ((zu S.1 55 0 (zx a3) (S.1 55 0 (zx (a3 - (1 : Int32))))), S.2))))))) := zeqv d 94 8 24 [some (zr 8 0), some (zi a1), some (zi a2), some (zi a3)] [] S
set_option maxRecDepth 100000 in
theorem eB_addSet_98 (d : Nat) (a1 : Int32) (S : ZS) : zB_addSet_98 d a1 S =
  (zcv (zcall d) 1003 [zr 55 0, zi (0 : Int32), zr 56 0, zi (0 : Int32), zi a1] S).bind (fun r1 =>
  some ((zu r1.1 8 0 9 ((r1.1 8 0 9) + (1 : Int32))), r1.2)) := zeqv d 94 8 98 [some (zr 8 0), some (zi a1), none, none] [] S
set_option maxRecDepth 100000 in
theorem eB_comesFirst (d : Nat) (a1 : Int32) (S : ZS) : zB_comesFirst (d + 1) a1 S =
  zB_comesFirst_2 d a1 (0 : Int32) S := zeqi d 95 8 0 [some (zr 8 0), some (zi a1), none] [] S
set_option maxRecDepth 100000 in
theorem eB_comesFirst_2 (d : Nat) (a1 : Int32) (a2 : Int32) (S : ZS) : zB_comesFirst_2 d a1 a2 S =
  zif (a1 ≤ a2) (
    some ((0 : Int32), S)) (
    zg (zin a2 3) (
    zg (zin a2 3) (
    zif ((S.1 55 0 (zx a2)) = (S.1 56 0 (zx a2))) (
      zB_comesFirst_2 d a1 (a2 + (1 : Int32)) S) (
      zg (zin a2 3) (
      zg (zin a2 3) (
      zif ((S.1 56 0 (zx a2)) ≤ (S.1 55 0 (zx a2))) (
        some ((0 : Int32), S)) (
        some ((1 : Int32), S)))))))) := zeqi d 95 8 2 [some (zr 8 0), some (zi a1), some (zi a2)] [] S
set_option maxRecDepth 100000 in
theorem eW_toRing (d : Nat) (o0 : Nat) (o1 : Nat) (a2 : Int32) (a3 : Int32) (S : ZS) : zW_toRing (d + 1) o0 o1 a2 a3 S =
  (zci (zcall d) 1001 [zi a3, zi (5 : Int32)] ((zu (zu (zu S.1 9 o0 0 (S.1 2 o1 0)) 9 o0 1 ((zu S.1 9 o0 0 (S.1 2 o1 0)) 2 o1 1)) 9 o0 2 (-2 : Int32)), S.2)).bind (fun r1 =>
  zW_toRing_34 d o0 a2 a3 (0 : Int32) ((zu r1.2.1 9 o0 3 r1.1), r1.2.2)) := zeqv d 96 9 0 [some (zr 9 o0), some (zr 2 o1), some (zi a2), some (zi a3), none] [] S
set_option maxRecDepth 100000 in
theorem eW_toRing_34 (d : Nat) (a0 : Nat) (a2 : Int32) (a3 : Int32) (a4 : Int32) (S : ZS) : zW_toRing_34 d a0 a2 a3 a4 S =
  zif ((S.1 9 a0 3) ≤ a4) (
    some S) (
    (zX_digitAt d a2 a3 a4 S).bind (fun r1 =>
    zg (zin a4 5) (
    zW_toRing_34 d a0 a2 a3 (a4 + (1 : Int32)) ((zu r1.2.1 58 a0 (zx a4) r1.1), r1.2.2)))) := zeqv d 96 9 34 [some (zr 9 a0), none, some (zi a2), some (zi a3), some (zi a4)] [] S
set_option maxRecDepth 100000 in
theorem eW_again (d : Nat) (o0 : Nat) (o1 : Nat) (S : ZS) : zW_again (d + 1) o0 o1 S =
  zif (((zu (zu S.1 9 o0 0 (S.1 2 o1 0)) 9 o0 1 ((zu S.1 9 o0 0 (S.1 2 o1 0)) 2 o1 1)) 2 o1 10) = (-1 : Int32)) (
    zW_again_33 d o0 o1 (-1 : Int32) o0 ((zu (zu S.1 9 o0 0 (S.1 2 o1 0)) 9 o0 1 ((zu S.1 9 o0 0 (S.1 2 o1 0)) 2 o1 1)), S.2)) (
    zW_again_33 d o0 o1 ((zu (zu S.1 9 o0 0 (S.1 2 o1 0)) 9 o0 1 ((zu S.1 9 o0 0 (S.1 2 o1 0)) 2 o1 1)) 2 o1 10) o0 ((zu (zu S.1 9 o0 0 (S.1 2 o1 0)) 9 o0 1 ((zu S.1 9 o0 0 (S.1 2 o1 0)) 2 o1 1)), S.2)) := zeqv d 97 9 0 [some (zr 9 o0), some (zr 2 o1)] [] S
set_option maxRecDepth 100000 in
theorem eW_again_33 (d : Nat) (a0 : Nat) (a1 : Nat) (s0 : Int32) (s1 : Nat) (S : ZS) : zW_again_33 d a0 a1 s0 s1 S =
  (zci (zcall d) 1001 [zi ((zu S.1 9 s1 2 s0) 2 a1 6), zi (5 : Int32)] ((zu S.1 9 s1 2 s0), S.2)).bind (fun r1 =>
  (zcv (zcall d) 1003 [zr 30 a1, zi (0 : Int32), zr 58 a0, zi (0 : Int32), zi ((zu r1.2.1 9 a0 3 r1.1) 9 a0 3)] ((zu r1.2.1 9 a0 3 r1.1), r1.2.2)).bind (fun r2 =>
  some r2)) := zeqv d 97 9 33 [some (zr 9 a0), some (zr 2 a1)] [zi s0, zr 9 s1] S
set_option maxRecDepth 100000 in
theorem eW_ringsOverJunction (d : Nat) (o0 : Nat) (a1 : Int32) (S : ZS) : zW_ringsOverJunction (d + 1) o0 a1 S =
  zif (((S.1 9 o0 3) - a1) < (3 : Int32)) (
    some ((0 : Int32), S)) (
    zif (0 ≤ (S.1 9 o0 2)) (
      some ((0 : Int32), S)) (
      some ((1 : Int32), S))) := zeqi d 98 9 0 [some (zr 9 o0), some (zi a1)] [] S
set_option maxRecDepth 100000 in
theorem eW_ringsAtFinal (d : Nat) (o0 : Nat) (a2 : Int32) (a3 : Int32) (S : ZS) : zW_ringsAtFinal (d + 1) o0 a2 a3 S =
  zif ((2 : Int32) ≤ ((S.1 9 o0 3) - a3)) (
    zg (zin a3 5) (
    zg (zin (a3 + (1 : Int32)) 5) (
    (zC_lineAt d a2 (((S.1 58 o0 (zx a3)) * (10 : Int32)) + (S.1 58 o0 (zx (a3 + (1 : Int32))))) S).bind (fun r1 =>
    zif ((r1.2.1 9 o0 2) = (-2 : Int32)) (
      zif (r1.1 = (r1.2.1 9 o0 0)) (
        some ((0 : Int32), r1.2)) (
        (zC_isQuiet d r1.1 r1.2).bind (fun r2 =>
        zif (r2.1 = 0) (
          some ((0 : Int32), r2.2)) (
          some ((1 : Int32), r2.2))))) (
      zif (r1.1 = (-1 : Int32)) (
        some ((0 : Int32), r1.2)) (
        zif (r1.1 = (r1.2.1 9 o0 2)) (
          some ((1 : Int32), r1.2)) (
          some ((0 : Int32), r1.2)))))))) (
    some ((0 : Int32), S)) := zeqi d 99 9 0 [some (zr 9 o0), some (zr 0 0), some (zi a2), some (zi a3), none] [] S
set_option maxRecDepth 100000 in
theorem eX_seconds (d : Nat) (a1 : Int32) (S : ZS) : zX_seconds (d + 1) a1 S =
  zif (a1 < 0) (
    some ((-1 : Int32), S)) (
    zif ((100000 : Int32) < a1) (
      some ((-1 : Int32), S)) (
      zif (a1 ≤ ((999999 : Int32) - (S.1 10 0 9))) (
        some (((zu S.1 10 0 9 ((S.1 10 0 9) + a1)) 10 0 9), ((zu S.1 10 0 9 ((S.1 10 0 9) + a1)), S.2))) (
        some ((-1 : Int32), S)))) := zeqi d 100 11 0 [some (zr 10 0), some (zi a1)] [] S
set_option maxRecDepth 100000 in
theorem eX_rack (d : Nat) (a1 : Int32) (a2 : Int32) (a3 : Int32) (S : ZS) : zX_rack (d + 1) a1 a2 a3 S =
  (zP_addRack d a1 a2 a3 S).bind (fun r1 =>
  some (r1.1, r1.2)) := zeqi d 101 11 0 [some (zr 10 0), some (zi a1), some (zi a2), some (zi a3)] [] S
set_option maxRecDepth 100000 in
theorem eX_outlet (d : Nat) (a1 : Int32) (a2 : Int32) (a3 : Int32) (a4 : Int32) (a5 : Int32) (S : ZS) : zX_outlet (d + 1) a1 a2 a3 a4 a5 S =
  (zP_lead d a1 a2 a3 a4 a5 S).bind (fun r1 =>
  zgb r1.1 (some (r1.1, r1.2))) := zeqi d 102 11 0 [some (zr 10 0), some (zi a1), some (zi a2), some (zi a3), some (zi a4), some (zi a5)] [] S
set_option maxRecDepth 100000 in
theorem eX_zone (d : Nat) (a1 : Int32) (a2 : Int32) (S : ZS) : zX_zone (d + 1) a1 a2 S =
  (zP_tellZone d a1 a2 S).bind (fun r1 =>
  zgb r1.1 (some (r1.1, r1.2))) := zeqi d 103 11 0 [some (zr 10 0), some (zi a1), some (zi a2)] [] S
set_option maxRecDepth 100000 in
theorem eX_line (d : Nat) (a1 : Int32) (a2 : Int32) (a3 : Int32) (S : ZS) : zX_line (d + 1) a1 a2 a3 S =
  (zC_addLine d a1 a2 a3 S).bind (fun r1 =>
  some (r1.1, r1.2)) := zeqi d 104 11 0 [some (zr 10 0), some (zi a1), some (zi a2), some (zi a3)] [] S
set_option maxRecDepth 100000 in
theorem eX_out (d : Nat) (a1 : Int32) (a2 : Int32) (S : ZS) : zX_out (d + 1) a1 a2 S =
  (zP_isSwitch d a1 S).bind (fun r1 =>
  zif (r1.1 = 0) (
    some ((0 : Int32), r1.2)) (
    zg (zin a1 96) (
    zg (zbl a2) (
    some ((1 : Int32), ((zu r1.2.1 37 0 (zx a1) a2), r1.2.2)))))) := zeqi d 105 11 0 [some (zr 10 0), some (zi a1), some (zi a2)] [] S
set_option maxRecDepth 100000 in
theorem eX_faulty (d : Nat) (a1 : Int32) (a2 : Int32) (S : ZS) : zX_faulty (d + 1) a1 a2 S =
  (zP_isSwitch d a1 S).bind (fun r1 =>
  zif (r1.1 = 0) (
    some ((0 : Int32), r1.2)) (
    zg (zin a1 96) (
    zg (zbl a2) (
    some ((1 : Int32), ((zu r1.2.1 38 0 (zx a1) a2), r1.2.2)))))) := zeqi d 106 11 0 [some (zr 10 0), some (zi a1), some (zi a2)] [] S
set_option maxRecDepth 100000 in
theorem eX_lift (d : Nat) (a1 : Int32) (S : ZS) : zX_lift (d + 1) a1 S =
  (zC_isQuiet d a1 S).bind (fun r1 =>
  zif (r1.1 = 0) (
    some ((-1 : Int32), r1.2)) (
    zg (zin a1 40) (
    (zci (zcall d) 6 [zr 0 0, zo (r1.2.2.2.1 20 0 (zx a1))] r1.2).bind (fun r2 =>
    some (r2.1, r2.2))))) := zeqi d 107 11 0 [some (zr 10 0), some (zi a1)] [] S
set_option maxRecDepth 100000 in
theorem eX_dial (d : Nat) (a1 : Int32) (a2 : Int32) (S : ZS) : zX_dial (d + 1) a1 a2 S =
  (zC_isCalling d a1 S).bind (fun r1 =>
  zif (r1.1 = 0) (
    some ((-1 : Int32), r1.2)) (
    zif (a2 < 0) (
      some ((-1 : Int32), r1.2)) (
      zif (a2 < (10 : Int32)) (
        zg (zin a1 40) (
        (zci (zcall d) 7 [zr 0 0, zo (r1.2.2.2.1 20 0 (zx a1)), zi a2] r1.2).bind (fun r2 =>
        some (r2.1, r2.2)))) (
        some ((-1 : Int32), r1.2))))) := zeqi d 108 11 0 [some (zr 10 0), some (zi a1), some (zi a2)] [] S
set_option maxRecDepth 100000 in
theorem eX_answer (d : Nat) (a1 : Int32) (S : ZS) : zX_answer (d + 1) a1 S =
  (zC_isCalling d a1 S).bind (fun r1 =>
  zif (r1.1 = 0) (
    some ((0 : Int32), r1.2)) (
    zg (zin a1 40) (
    zder (r1.2.2.2.1 20 0 (zx a1)) 2 (fun i2 =>
    zif ((r1.2.1 2 i2 3) = (5 : Int32)) (
      zg (zin a1 40) (
      zder (r1.2.2.2.1 20 0 (zx a1)) 2 (fun i3 =>
      zg (zin a1 40) (
      zder (r1.2.2.2.1 20 0 (zx a1)) 2 (fun i4 =>
      some ((1 : Int32), ((zu (zu r1.2.1 2 i3 3 (6 : Int32)) 2 i4 11 ((zu r1.2.1 2 i3 3 (6 : Int32)) 10 0 9)), r1.2.2))))))) (
      some ((0 : Int32), r1.2)))))) := zeqi d 109 11 0 [some (zr 10 0), some (zi a1)] [] S
set_option maxRecDepth 100000 in
theorem eX_end (d : Nat) (a1 : Int32) (S : ZS) : zX_end (d + 1) a1 S =
  (zC_isCalling d a1 S).bind (fun r1 =>
  zif (r1.1 = 0) (
    some ((-1 : Int32), r1.2)) (
    zg (zin a1 40) (
    zder (r1.2.2.2.1 20 0 (zx a1)) 2 (fun i2 =>
    zif ((r1.2.1 2 i2 3) = (6 : Int32)) (
      zder (r1.2.2.2.1 20 0 (zx a1)) 2 (fun i3 =>
      (zci (zcall d) 19 [zo (r1.2.2.2.1 20 0 (zx a1))] r1.2).bind (fun r4 =>
      (zP_zoneOf d r4.1 r4.2).bind (fun r5 =>
      (zci (zcall d) 82 [zo (r1.2.2.2.1 10 0 7), zi (r1.2.1 2 i3 11), zi (r1.2.1 10 0 9), zi r5.1, zi a1] r5.2).bind (fun r6 =>
      zder (r1.2.2.2.1 20 0 (zx a1)) 2 (fun i7 =>
      (zX_today d r6.2).bind (fun r8 =>
      (zG_write d a1 r6.1 ((r6.2.1 2 i7 11) / (86400 : Int32)) r8.1 r8.2).bind (fun r9 =>
      (zcv (zcall d) 12 [zr 0 0, zo (r1.2.2.2.1 20 0 (zx a1))] r9).bind (fun r10 =>
      some (r6.1, r10)))))))))) (
      (zcv (zcall d) 12 [zr 0 0, zo (r1.2.2.2.1 20 0 (zx a1))] r1.2).bind (fun r11 =>
      some ((0 : Int32), r11))))))) := zeqi d 110 11 0 [some (zr 10 0), some (zi a1), none, none] [] S
set_option maxRecDepth 100000 in
theorem eX_feed (d : Nat) (w1 : Int64) (w3 : Int64) (w5 : Int64) (S : ZS) : zX_feed (d + 1) w1 w3 w5 S =
  (zT_addSigns d w1 S).bind (fun r1 =>
  (zT_addSigns d w3 r1).bind (fun r2 =>
  (zT_addSigns d w5 r2).bind (fun r3 =>
  some ((r3.1 6 0 1), r3)))) := zeqi d 111 11 0 [some (zr 10 0), some (zl w1), none, some (zl w3), none, some (zl w5), none] [] S
set_option maxRecDepth 100000 in
theorem eX_tariff (d : Nat)  (S : ZS) : zX_tariff (d + 1)  S =
  (zci (zcall d) 68 [zo (S.2.2.1 10 0 8)] S).bind (fun r1 =>
  zif (r1.1 = 0) (
    some (r1.1, ((zu r1.2.1 6 0 1 (0 : Int32)), r1.2.2.1, (zu (zu r1.2.2.2.1 10 0 8 (r1.2.2.2.1 10 0 7)) 10 0 7 (r1.2.2.2.1 10 0 8)), r1.2.2.2.2))) (
    some (r1.1, ((zu r1.2.1 6 0 1 (0 : Int32)), r1.2.2)))) := zeqi d 112 11 0 [some (zr 10 0), none, none] [] S
set_option maxRecDepth 100000 in
theorem eX_word (d : Nat) (a1 : Int32) (a2 : Int32) (S : ZS) : zX_word (d + 1) a1 a2 S =
  (zX_today d S).bind (fun r1 =>
  (zG_tell d a1 a2 r1.1 r1.2).bind (fun r2 =>
  zgb r2.1 (some (r2.1, r2.2)))) := zeqi d 113 11 0 [some (zr 10 0), some (zi a1), some (zi a2)] [] S
set_option maxRecDepth 100000 in
theorem eX_bill (d : Nat) (a1 : Int32) (a2 : Int32) (a3 : Int32) (a4 : Int32) (S : ZS) : zX_bill (d + 1) a1 a2 a3 a4 S =
  zif (a2 < 0) (
    zX_bill_34 d a1 a2 a3 a4 (0 : Int32) S) (
    zif (a3 < a2) (
      zX_bill_34 d a1 a2 a3 a4 (0 : Int32) S) (
      zif ((11 : Int32) < a3) (
        zX_bill_34 d a1 a2 a3 a4 (0 : Int32) S) (
        zif (a4 < 0) (
          zX_bill_34 d a1 a2 a3 a4 (0 : Int32) S) (
          (zX_today d S).bind (fun r1 =>
          zif (r1.1 < a4) (
            zX_bill_34 d a1 a2 a3 a4 (0 : Int32) r1.2) (
            zX_bill_34 d a1 a2 a3 a4 (1 : Int32) r1.2)))))) := zeqi d 114 11 0 [some (zr 10 0), some (zi a1), some (zi a2), some (zi a3), some (zi a4), none] [] S
set_option maxRecDepth 100000 in
theorem eX_bill_34 (d : Nat) (a1 : Int32) (a2 : Int32) (a3 : Int32) (a4 : Int32) (s0 : Int32) (S : ZS) : zX_bill_34 d a1 a2 a3 a4 s0 S =
  zif (s0 = 0) (
    some ((-1 : Int32), S)) (
    (zC_isLine d a1 S).bind (fun r1 =>
    zif (r1.1 = 0) (
      some ((-1 : Int32), r1.2)) (
      (zG_sum d a1 a2 a3 a4 r1.2).bind (fun r2 =>
      some (r2.1, r2.2))))) := zeqi d 114 11 34 [some (zr 10 0), some (zi a1), some (zi a2), some (zi a3), some (zi a4), none] [zi s0] S
set_option maxRecDepth 100000 in
theorem eX_would (d : Nat) (a1 : Int32) (a2 : Int32) (a3 : Int32) (S : ZS) : zX_would (d + 1) a1 a2 a3 S =
  (zX_mayDial d a1 a2 a3 S).bind (fun r1 =>
  zif (r1.1 = 0) (
    some ((-1 : Int32), r1.2)) (
    zg (zin a1 40) (
    (zci (zcall d) 11 [zr 0 0, zo (r1.2.2.2.1 20 0 (zx a1)), zi a2, zi a3] r1.2).bind (fun r2 =>
    zg (zin a1 40) (
    (zcv (zcall d) 12 [zr 0 0, zo (r2.2.2.2.1 20 0 (zx a1))] r2.2).bind (fun r3 =>
    some (r2.1, r3))))))) := zeqi d 115 11 0 [some (zr 10 0), some (zi a1), some (zi a2), some (zi a3), none] [] S
set_option maxRecDepth 100000 in
theorem eX_block (d : Nat) (a1 : Int32) (a2 : Int32) (a3 : Int32) (a4 : Int32) (a5 : Int32) (a6 : Int32) (S : ZS) : zX_block (d + 1) a1 a2 a3 a4 a5 a6 S =
  zif (a1 = a4) (
    some ((-1 : Int32), S)) (
    (zX_mayDial d a1 a2 a3 S).bind (fun r1 =>
    zif (r1.1 = 0) (
      some ((-1 : Int32), r1.2)) (
      (zX_mayDial d a4 a5 a6 r1.2).bind (fun r2 =>
      zif (r2.1 = 0) (
        some ((-1 : Int32), r2.2)) (
        (zX_would d a1 a2 a3 r2.2).bind (fun r3 =>
        zif (r3.1 = (5 : Int32)) (
          (zX_would d a4 a5 a6 r3.2).bind (fun r4 =>
          zif (r4.1 = (5 : Int32)) (
            (zX_blocksNext d a1 a2 a3 a4 a5 a6 r4.2).bind (fun r5 =>
            zif (r5.1 = 0) (
              zX_block_79 d a1 a2 a3 a4 a5 a6 (0 : Int32) r5.2) (
              zX_block_79 d a1 a2 a3 a4 a5 a6 (1 : Int32) r5.2))) (
            some ((-1 : Int32), r4.2)))) (
          some ((-1 : Int32), r3.2)))))))) := zeqi d 116 11 0 [some (zr 10 0), some (zi a1), some (zi a2), some (zi a3), some (zi a4), some (zi a5), some (zi a6)] [] S
set_option maxRecDepth 100000 in
theorem eX_block_79 (d : Nat) (a1 : Int32) (a2 : Int32) (a3 : Int32) (a4 : Int32) (a5 : Int32) (a6 : Int32) (s0 : Int32) (S : ZS) : zX_block_79 d a1 a2 a3 a4 a5 a6 s0 S =
  (zX_blocksNext d a4 a5 a6 a1 a2 a3 S).bind (fun r1 =>
  zif (r1.1 = 0) (
    some ((s0 + (0 : Int32)), r1.2)) (
    some ((s0 + (2 : Int32)), r1.2))) := zeqi d 116 11 79 [some (zr 10 0), some (zi a1), some (zi a2), some (zi a3), some (zi a4), some (zi a5), some (zi a6)] [zi s0] S
set_option maxRecDepth 100000 in
theorem eX_laid (d : Nat) (a1 : Int32) (a2 : Int32) (a3 : Int32) (a4 : Int32) (S : ZS) : zX_laid (d + 1) a1 a2 a3 a4 S =
  (zX_mayDial d a1 a2 a3 S).bind (fun r1 =>
  zif (r1.1 = 0) (
    some ((-1 : Int32), r1.2)) (
    zif (a4 < 0) (
      some ((-1 : Int32), r1.2)) (
      zif (a4 ≤ (1 : Int32)) (
        (zR_fewestMoved d a1 a2 a3 r1.2).bind (fun r2 =>
        zif (a4 = 0) (
          some (r2.1, r2.2)) (
          some ((r2.2.1 5 0 5), r2.2)))) (
        some ((-1 : Int32), r1.2))))) := zeqi d 117 11 0 [some (zr 10 0), some (zi a1), some (zi a2), some (zi a3), some (zi a4), none] [] S
set_option maxRecDepth 100000 in
theorem eX_lost (d : Nat) (a1 : Int32) (a2 : Int32) (a3 : Int32) (S : ZS) : zX_lost (d + 1) a1 a2 a3 S =
  (zO_measure d a1 a2 a3 S).bind (fun r1 =>
  zif (r1.1 = 0) (
    some ((-1 : Int32), r1.2)) (
    (zO_waysLost d a3 (0 : Int32) r1.2).bind (fun r2 =>
    some (r2.1, r2.2)))) := zeqi d 118 11 0 [some (zr 10 0), some (zi a1), some (zi a2), some (zi a3)] [] S
set_option maxRecDepth 100000 in
theorem eX_more (d : Nat) (a1 : Int32) (a2 : Int32) (a3 : Int32) (a4 : Int32) (S : ZS) : zX_more (d + 1) a1 a2 a3 a4 S =
  zif (a4 < 0) (
    some ((-1 : Int32), S)) (
    zif (a4 ≤ (1000 : Int32)) (
      (zO_measure d a1 a2 a3 S).bind (fun r1 =>
      zif (r1.1 = 0) (
        some ((-1 : Int32), r1.2)) (
        (zO_sharedMore d a3 a4 r1.2).bind (fun r2 =>
        some (r2.1, r2.2))))) (
      some ((-1 : Int32), S))) := zeqi d 119 11 0 [some (zr 10 0), some (zi a1), some (zi a2), some (zi a3), some (zi a4)] [] S
set_option maxRecDepth 100000 in
theorem eX_test (d : Nat) (a1 : Int32) (a2 : Int32) (a3 : Int32) (S : ZS) : zX_test (d + 1) a1 a2 a3 S =
  (zX_mayDial d a1 a2 a3 S).bind (fun r1 =>
  zif (r1.1 = 0) (
    some ((-1 : Int32), r1.2)) (
    zg (zin a1 40) (
    (zci (zcall d) 11 [zr 0 0, zo (r1.2.2.2.1 20 0 (zx a1)), zi a2, zi a3] r1.2).bind (fun r2 =>
    zif (r2.1 = (2 : Int32)) (
      zX_test_48 d (r1.2.2.2.1 20 0 (zx a1)) r2.1 r2.2) (
      zif (r2.1 = (5 : Int32)) (
        zX_test_48 d (r1.2.2.2.1 20 0 (zx a1)) r2.1 r2.2) (
        (zcv (zcall d) 12 [zr 0 0, zo (r1.2.2.2.1 20 0 (zx a1))] r2.2).bind (fun r3 =>
        some (r2.1, r3)))))))) := zeqi d 120 11 0 [some (zr 10 0), some (zi a1), some (zi a2), some (zi a3), none, none] [] S
set_option maxRecDepth 100000 in
theorem eX_test_48 (d : Nat) (a4 : Option ZR) (a5 : Int32) (S : ZS) : zX_test_48 d a4 a5 S =
  zif (a5 = (2 : Int32)) (
    (zcv (zcall d) 87 [zr 8 0, zo a4, zi (1 : Int32)] S).bind (fun r1 =>
    (zcv (zcall d) 12 [zr 0 0, zo a4] r1).bind (fun r2 =>
    some (a5, r2)))) (
    (zcv (zcall d) 87 [zr 8 0, zo a4, zi (0 : Int32)] S).bind (fun r3 =>
    (zcv (zcall d) 12 [zr 0 0, zo a4] r3).bind (fun r4 =>
    some (a5, r4)))) := zeqi d 120 11 48 [some (zr 10 0), none, none, none, some (zo a4), some (zi a5)] [] S
set_option maxRecDepth 100000 in
theorem eX_explain (d : Nat) (a1 : Int32) (S : ZS) : zX_explain (d + 1) a1 S =
  zif (a1 < 0) (
    some ((-1 : Int32), S)) (
    zif (a1 ≤ (3 : Int32)) (
      (zB_fewest d S).bind (fun r1 =>
      zif (a1 = 0) (
        some (r1.1, r1.2)) (
        zif (r1.1 < a1) (
          some ((-1 : Int32), r1.2)) (
          zg (zin (a1 - (1 : Int32)) 3) (
          some ((r1.2.1 56 0 (zx (a1 - (1 : Int32)))), r1.2)))))) (
      some ((-1 : Int32), S))) := zeqi d 121 11 0 [some (zr 10 0), some (zi a1), none] [] S
set_option maxRecDepth 100000 in
theorem eX_sure (d : Nat) (a1 : Int32) (S : ZS) : zX_sure (d + 1) a1 S =
  (zP_isSwitch d a1 S).bind (fun r1 =>
  zif (r1.1 = 0) (
    some ((-1 : Int32), r1.2)) (
    (zB_fewest d r1.2).bind (fun r2 =>
    zif (r2.1 = (-1 : Int32)) (
      some ((-1 : Int32), r2.2)) (
      (zB_isInAllSets d a1 r2.2).bind (fun r3 =>
      zif (r3.1 = 0) (
        some ((0 : Int32), r3.2)) (
        some ((1 : Int32), r3.2))))))) := zeqi d 122 11 0 [some (zr 10 0), some (zi a1)] [] S
set_option maxRecDepth 100000 in
theorem eX_forget (d : Nat)  (S : ZS) : zX_forget (d + 1)  S =
  some ((S.1 8 0 1), ((zu S.1 8 0 1 (0 : Int32)), S.2)) := zeqi d 123 11 0 [some (zr 10 0), none] [] S
set_option maxRecDepth 100000 in
theorem eX_look (d : Nat) (a1 : Int32) (a2 : Int32) (S : ZS) : zX_look (d + 1) a1 a2 S =
  (zC_isLine d a1 S).bind (fun r1 =>
  zif (r1.1 = 0) (
    none) (
    zif (a2 < 0) (
      none) (
      zif (a2 ≤ (5 : Int32)) (
        zg (zin a1 40) (
        zif (a2 = 0) (
          zder (r1.2.2.2.1 20 0 (zx a1)) 2 (fun i2 =>
          some ((r1.2.1 2 i2 2), r1.2))) (
          zder (r1.2.2.2.1 20 0 (zx a1)) 2 (fun i3 =>
          zif ((r1.2.1 2 i3 2) = (1 : Int32)) (
            (zci (zcall d) 20 [zo (r1.2.2.2.1 20 0 (zx a1)), zi a2] r1.2).bind (fun r4 =>
            some (r4.1, r4.2))) (
            some ((-1 : Int32), r1.2)))))) (
        none)))) := zeqi d 124 11 0 [some (zr 10 0), some (zi a1), some (zi a2), none] [] S
set_option maxRecDepth 100000 in
theorem eX_path (d : Nat) (a1 : Int32) (a2 : Int32) (S : ZS) : zX_path (d + 1) a1 a2 S =
  (zC_isLine d a1 S).bind (fun r1 =>
  zif (r1.1 = 0) (
    some ((-1 : Int32), r1.2)) (
    zif (a2 < 0) (
      some ((-1 : Int32), r1.2)) (
      zg (zin a1 40) (
      zder (r1.2.2.2.1 20 0 (zx a1)) 2 (fun i2 =>
      zif (a2 < (r1.2.1 2 i2 5)) (
        zg (zin a1 40) (
        zder (r1.2.2.2.1 20 0 (zx a1)) 2 (fun i3 =>
        zg (zin a2 97) (
        some ((r1.2.1 29 i3 (zx a2)), r1.2))))) (
        some ((-1 : Int32), r1.2))))))) := zeqi d 125 11 0 [some (zr 10 0), some (zi a1), some (zi a2)] [] S
set_option maxRecDepth 100000 in
theorem eX_held (d : Nat) (a1 : Int32) (S : ZS) : zX_held (d + 1) a1 S =
  (zP_isEnd d a1 S).bind (fun r1 =>
  zif (r1.1 = 0) (
    some ((-1 : Int32), r1.2)) (
    zg (zin a1 116) (
    some ((r1.2.1 39 0 (zx a1)), r1.2)))) := zeqi d 126 11 0 [some (zr 10 0), some (zi a1)] [] S
set_option maxRecDepth 100000 in
theorem eX_book (d : Nat) (a1 : Int32) (a2 : Int32) (S : ZS) : zX_book (d + 1) a1 a2 S =
  (zG_show d a1 a2 S).bind (fun r1 =>
  some (r1.1, r1.2)) := zeqi d 127 11 0 [some (zr 10 0), some (zi a1), some (zi a2)] [] S
set_option maxRecDepth 100000 in
theorem eX_count (d : Nat) (a1 : Int32) (S : ZS) : zX_count (d + 1) a1 S =
  zif (a1 = (0 : Int32)) (
    some ((S.1 10 0 9), S)) (
  zif (a1 = (1 : Int32)) (
    some ((S.1 4 0 0), S)) (
  zif (a1 = (2 : Int32)) (
    some ((S.1 0 0 3), S)) (
  zif (a1 = (3 : Int32)) (
    (zC_callingLines d S).bind (fun r1 =>
    some (r1.1, r1.2))) (
  zif (a1 = (4 : Int32)) (
    (zP_heldWithin d (0 : Int32) (96 : Int32) S).bind (fun r2 =>
    some (r2.1, r2.2))) (
  zif (a1 = (5 : Int32)) (
    some ((S.1 1 0 0), S)) (
  zif (a1 = (6 : Int32)) (
    some ((S.1 1 0 5), S)) (
  zif (a1 = (7 : Int32)) (
    some ((S.1 8 0 1), S)) (
  zif (a1 = (8 : Int32)) (
    zder (S.2.2.1 10 0 7) 7 (fun i3 =>
    some ((S.1 7 i3 2), S))) (
  zif (a1 = (9 : Int32)) (
    zder (S.2.2.1 10 0 7) 7 (fun i4 =>
    some ((S.1 7 i4 8), S))) (
  zif (a1 = (10 : Int32)) (
    some ((S.1 6 0 1), S)) (
  zif (a1 = (11 : Int32)) (
    (zP_allSwitches d S).bind (fun r5 =>
    some (r5.1, r5.2))) (
  zif (a1 = (12 : Int32)) (
    (zP_heldWithin d (100 : Int32) (116 : Int32) S).bind (fun r6 =>
    some (r6.1, r6.2))) (
  some ((-1 : Int32), S)))))))))))))) := zeqi d 128 11 0 [some (zr 10 0), some (zi a1)] [] S
set_option maxRecDepth 100000 in
theorem eX_today (d : Nat)  (S : ZS) : zX_today (d + 1)  S =
  some (((S.1 10 0 9) / (86400 : Int32)), S) := zeqi d 129 11 0 [some (zr 10 0)] [] S
set_option maxRecDepth 100000 in
theorem eX_mayDial (d : Nat) (a1 : Int32) (a2 : Int32) (a3 : Int32) (S : ZS) : zX_mayDial (d + 1) a1 a2 a3 S =
  (zC_isQuiet d a1 S).bind (fun r1 =>
  zif (r1.1 = 0) (
    some ((0 : Int32), r1.2)) (
    zif (a2 < 0) (
      some ((0 : Int32), r1.2)) (
      zif ((99999 : Int32) < a2) (
        some ((0 : Int32), r1.2)) (
        zif (a3 < (1 : Int32)) (
          some ((0 : Int32), r1.2)) (
          zif ((5 : Int32) < a3) (
            some ((0 : Int32), r1.2)) (
            some ((1 : Int32), r1.2))))))) := zeqi d 130 11 0 [some (zr 10 0), some (zi a1), some (zi a2), some (zi a3)] [] S
set_option maxRecDepth 100000 in
theorem eX_blocksNext (d : Nat) (a1 : Int32) (a2 : Int32) (a3 : Int32) (a4 : Int32) (a5 : Int32) (a6 : Int32) (S : ZS) : zX_blocksNext (d + 1) a1 a2 a3 a4 a5 a6 S =
  zg (zin a1 40) (
  (zci (zcall d) 11 [zr 0 0, zo (S.2.2.1 20 0 (zx a1)), zi a2, zi a3] S).bind (fun r1 =>
  (zC_isQuiet d a4 r1.2).bind (fun r2 =>
  zif (r2.1 = 0) (
    zX_blocksNext_50 d a1 (0 : Int32) r2.2) (
    (zX_would d a4 a5 a6 r2.2).bind (fun r3 =>
    zif (r3.1 = (5 : Int32)) (
      zX_blocksNext_50 d a1 (1 : Int32) r3.2) (
      zX_blocksNext_50 d a1 (0 : Int32) r3.2)))))) := zeqi d 131 11 0 [some (zr 10 0), some (zi a1), some (zi a2), some (zi a3), some (zi a4), some (zi a5), some (zi a6), none] [] S
set_option maxRecDepth 100000 in
theorem eX_blocksNext_50 (d : Nat) (a1 : Int32) (s0 : Int32) (S : ZS) : zX_blocksNext_50 d a1 s0 S =
  zg (zin a1 40) (
  (zcv (zcall d) 12 [zr 0 0, zo (S.2.2.1 20 0 (zx a1))] S).bind (fun r1 =>
  zif (s0 = 0) (
    some ((1 : Int32), r1)) (
    some ((0 : Int32), r1)))) := zeqi d 131 11 50 [some (zr 10 0), some (zi a1), none, none, none, none, none, none] [zi s0] S
set_option maxRecDepth 100000 in
theorem eX_digitAt (d : Nat) (a0 : Int32) (a1 : Int32) (a2 : Int32) (S : ZS) : zX_digitAt (d + 1) a0 a1 a2 S =
  zif (((a1 - (1 : Int32)) - a2) < 0) (
    some ((0 : Int32), S)) (
    zif ((Int32.ofNat 5) ≤ ((a1 - (1 : Int32)) - a2)) (
      some ((0 : Int32), S)) (
      zg (zin ((a1 - (1 : Int32)) - a2) 5) (
      bif zz (zten (zx ((a1 - (1 : Int32)) - a2))) then none else
      some (((a0 / (zten (zx ((a1 - (1 : Int32)) - a2)))) - (a0 / (zten (zx ((a1 - (1 : Int32)) - a2)))) / (10 : Int32) * (10 : Int32)), S)))) := zeqi d 132 11 0 [some (zi a0), some (zi a1), some (zi a2), none] [] S
set_option maxRecDepth 100000 in
theorem eM_thrown (d : Nat)  (S : ZS) : zM_thrown (d + 1)  S =
  some ((S.1 11 0 0), S) := zeqi d 133 12 0 [some (zr 11 0)] [] S
set_option maxRecDepth 100000 in
theorem eM_within (d : Nat) (a0 : Int32) (a1 : Int32) (a2 : Int32) (S : ZS) : zM_within (d + 1) a0 a1 a2 S =
  zif (a0 < a1) (
    some ((0 : Int32), S)) (
    zif (a2 < a0) (
      some ((0 : Int32), S)) (
      some ((1 : Int32), S))) := zeqi d 134 12 0 [some (zi a0), some (zi a1), some (zi a2)] [] S
set_option maxRecDepth 100000 in
theorem eM_isSwitch (d : Nat) (a1 : Int32) (S : ZS) : zM_isSwitch (d + 1) a1 S =
  zif (a1 < 0) (
    some ((0 : Int32), S)) (
    zif ((96 : Int32) ≤ a1) (
      some ((0 : Int32), S)) (
      zif ((S.1 11 0 2) ≤ (a1 / (8 : Int32))) (
        some ((0 : Int32), S)) (
        zg (zin (a1 / (8 : Int32)) 12) (
        zif ((S.1 60 0 (zx (a1 / (8 : Int32)))) ≤ (a1 - a1 / (8 : Int32) * (8 : Int32))) (
          some ((0 : Int32), S)) (
          some ((1 : Int32), S)))))) := zeqi d 135 12 0 [some (zr 11 0), some (zi a1)] [] S
set_option maxRecDepth 100000 in
theorem eM_isEnd (d : Nat) (a1 : Int32) (S : ZS) : zM_isEnd (d + 1) a1 S =
  (zM_isSwitch d a1 S).bind (fun r1 =>
  zif (r1.1 = 0) (
    (zM_within d a1 (100 : Int32) (115 : Int32) r1.2).bind (fun r2 =>
    zif (r2.1 = 0) (
      some ((0 : Int32), r2.2)) (
      some ((1 : Int32), r2.2)))) (
    some ((1 : Int32), r1.2))) := zeqi d 136 12 0 [some (zr 11 0), some (zi a1)] [] S
set_option maxRecDepth 100000 in
theorem eM_isLine (d : Nat) (a1 : Int32) (S : ZS) : zM_isLine (d + 1) a1 S =
  (zM_within d a1 (0 : Int32) ((S.1 11 0 11) - (1 : Int32)) S).bind (fun r1 =>
  zgb r1.1 (some (r1.1, r1.2))) := zeqi d 137 12 0 [some (zr 11 0), some (zi a1)] [] S
set_option maxRecDepth 100000 in
theorem eM_isSelectors (d : Nat) (a1 : Int32) (S : ZS) : zM_isSelectors (d + 1) a1 S =
  (zM_within d a1 (0 : Int32) ((S.1 11 0 2) - (1 : Int32)) S).bind (fun r1 =>
  zif (r1.1 = 0) (
    some ((0 : Int32), r1.2)) (
    zg (zin a1 12) (
    zif ((r1.2.1 59 0 (zx a1)) = 0) (
      some ((1 : Int32), r1.2)) (
      some ((0 : Int32), r1.2))))) := zeqi d 138 12 0 [some (zr 11 0), some (zi a1)] [] S
set_option maxRecDepth 100000 in
theorem eM_seconds (d : Nat) (a1 : Int32) (S : ZS) : zM_seconds (d + 1) a1 S =
  (zM_within d a1 (0 : Int32) (100000 : Int32) ((zu S.1 11 0 0 (0 : Int32)), S.2)).bind (fun r1 =>
  zif (r1.1 = 0) (
    some ((-1 : Int32), r1.2)) (
    zif (((r1.2.1 11 0 1) + a1) ≤ (999999 : Int32)) (
      some (((zu r1.2.1 11 0 1 ((r1.2.1 11 0 1) + a1)) 11 0 1), ((zu r1.2.1 11 0 1 ((r1.2.1 11 0 1) + a1)), r1.2.2))) (
      some ((-1 : Int32), r1.2)))) := zeqi d 139 12 0 [some (zr 11 0), some (zi a1)] [] S
set_option maxRecDepth 100000 in
theorem eM_rack (d : Nat) (a1 : Int32) (a2 : Int32) (a3 : Int32) (S : ZS) : zM_rack (d + 1) a1 a2 a3 S =
  (zM_within d a1 (0 : Int32) (1 : Int32) ((zu S.1 11 0 0 (0 : Int32)), S.2)).bind (fun r1 =>
  zif (r1.1 = 0) (
    some ((-1 : Int32), r1.2)) (
    (zM_within d a2 (1 : Int32) (8 : Int32) r1.2).bind (fun r2 =>
    zif (r2.1 = 0) (
      some ((-1 : Int32), r2.2)) (
      zif (a1 = 0) (
        zM_rack_35 d a1 a2 a3 (2 : Int32) (1 : Int32) a3 r2.2) (
        zM_rack_35 d a1 a2 a3 (1 : Int32) (1 : Int32) a3 r2.2))))) := zeqi d 140 12 0 [some (zr 11 0), some (zi a1), some (zi a2), some (zi a3)] [] S
set_option maxRecDepth 100000 in
theorem eM_rack_35 (d : Nat) (a1 : Int32) (a2 : Int32) (a3 : Int32) (s0 : Int32) (s1 : Int32) (s2 : Int32) (S : ZS) : zM_rack_35 d a1 a2 a3 s0 s1 s2 S =
  (zM_within d s2 s1 s0 S).bind (fun r1 =>
  zif (r1.1 = 0) (
    some ((-1 : Int32), r1.2)) (
    zif ((r1.2.1 11 0 2) = (12 : Int32)) (
      some ((-1 : Int32), r1.2)) (
      zg (zin (r1.2.1 11 0 2) 12) (
      zg (zin ((zu r1.2.1 59 0 (zx (r1.2.1 11 0 2)) a1) 11 0 2) 12) (
      zg (zin ((zu (zu r1.2.1 59 0 (zx (r1.2.1 11 0 2)) a1) 60 0 (zx ((zu r1.2.1 59 0 (zx (r1.2.1 11 0 2)) a1) 11 0 2)) a2) 11 0 2) 12) (
      some ((((zu (zu (zu (zu r1.2.1 59 0 (zx (r1.2.1 11 0 2)) a1) 60 0 (zx ((zu r1.2.1 59 0 (zx (r1.2.1 11 0 2)) a1) 11 0 2)) a2) 61 0 (zx ((zu (zu r1.2.1 59 0 (zx (r1.2.1 11 0 2)) a1) 60 0 (zx ((zu r1.2.1 59 0 (zx (r1.2.1 11 0 2)) a1) 11 0 2)) a2) 11 0 2)) a3) 11 0 2 (((zu (zu (zu r1.2.1 59 0 (zx (r1.2.1 11 0 2)) a1) 60 0 (zx ((zu r1.2.1 59 0 (zx (r1.2.1 11 0 2)) a1) 11 0 2)) a2) 61 0 (zx ((zu (zu r1.2.1 59 0 (zx (r1.2.1 11 0 2)) a1) 60 0 (zx ((zu r1.2.1 59 0 (zx (r1.2.1 11 0 2)) a1) 11 0 2)) a2) 11 0 2)) a3) 11 0 2) + (1 : Int32))) 11 0 2) - (1 : Int32)), ((zu (zu (zu (zu r1.2.1 59 0 (zx (r1.2.1 11 0 2)) a1) 60 0 (zx ((zu r1.2.1 59 0 (zx (r1.2.1 11 0 2)) a1) 11 0 2)) a2) 61 0 (zx ((zu (zu r1.2.1 59 0 (zx (r1.2.1 11 0 2)) a1) 60 0 (zx ((zu r1.2.1 59 0 (zx (r1.2.1 11 0 2)) a1) 11 0 2)) a2) 11 0 2)) a3) 11 0 2 (((zu (zu (zu r1.2.1 59 0 (zx (r1.2.1 11 0 2)) a1) 60 0 (zx ((zu r1.2.1 59 0 (zx (r1.2.1 11 0 2)) a1) 11 0 2)) a2) 61 0 (zx ((zu (zu r1.2.1 59 0 (zx (r1.2.1 11 0 2)) a1) 60 0 (zx ((zu r1.2.1 59 0 (zx (r1.2.1 11 0 2)) a1) 11 0 2)) a2) 11 0 2)) a3) 11 0 2) + (1 : Int32))), r1.2.2)))))))) := zeqi d 140 12 35 [some (zr 11 0), some (zi a1), some (zi a2), some (zi a3)] [zi s0, zi s1, zi s2] S
set_option maxRecDepth 100000 in
theorem eM_outletAt (d : Nat) (a0 : Int32) (a1 : Int32) (a2 : Int32) (a3 : Int32) (S : ZS) : zM_outletAt (d + 1) a0 a1 a2 a3 S =
  some ((((((80 : Int32) * a0) + ((40 : Int32) * a1)) + ((4 : Int32) * a2)) + a3), S) := zeqi d 141 12 0 [some (zi a0), some (zi a1), some (zi a2), some (zi a3)] [] S
set_option maxRecDepth 100000 in
theorem eM_outlet (d : Nat) (a1 : Int32) (a2 : Int32) (a3 : Int32) (a4 : Int32) (a5 : Int32) (S : ZS) : zM_outlet (d + 1) a1 a2 a3 a4 a5 S =
  (zM_isSelectors d a1 ((zu S.1 11 0 0 (0 : Int32)), S.2)).bind (fun r1 =>
  zif (r1.1 = 0) (
    some ((0 : Int32), r1.2)) (
    zg (zin a1 12) (
    (zM_within d a2 (0 : Int32) ((r1.2.1 61 0 (zx a1)) - (1 : Int32)) r1.2).bind (fun r2 =>
    zif (r2.1 = 0) (
      some ((0 : Int32), r2.2)) (
      (zM_within d a3 (0 : Int32) (9 : Int32) r2.2).bind (fun r3 =>
      zif (r3.1 = 0) (
        some ((0 : Int32), r3.2)) (
        (zM_within d a4 (0 : Int32) (3 : Int32) r3.2).bind (fun r4 =>
        zif (r4.1 = 0) (
          some ((0 : Int32), r4.2)) (
          zif (a5 = (-1 : Int32)) (
            zM_outlet_66 d a1 a2 a3 a4 a5 r4.2) (
            (zM_isEnd d a5 r4.2).bind (fun r5 =>
            zif (r5.1 = 0) (
              some ((0 : Int32), r5.2)) (
              zM_outlet_66 d a1 a2 a3 a4 a5 r5.2)))))))))))) := zeqi d 142 12 0 [some (zr 11 0), some (zi a1), some (zi a2), some (zi a3), some (zi a4), some (zi a5)] [] S
set_option maxRecDepth 100000 in
theorem eM_outlet_66 (d : Nat) (a1 : Int32) (a2 : Int32) (a3 : Int32) (a4 : Int32) (a5 : Int32) (S : ZS) : zM_outlet_66 d a1 a2 a3 a4 a5 S =
  zif (a5 < 0) (
    (zM_outletAt d a1 a2 a3 a4 S).bind (fun r1 =>
    zg (zin r1.1 960) (
    some ((1 : Int32), ((zu r1.2.1 62 0 (zx r1.1) a5), r1.2.2))))) (
    zif ((96 : Int32) ≤ a5) (
      (zM_outletAt d a1 a2 a3 a4 S).bind (fun r2 =>
      zg (zin r2.1 960) (
      some ((1 : Int32), ((zu r2.2.1 62 0 (zx r2.1) a5), r2.2.2))))) (
      zif ((a5 / (8 : Int32)) = a1) (
        some ((0 : Int32), S)) (
        (zM_outletAt d a1 a2 a3 a4 S).bind (fun r3 =>
        zg (zin r3.1 960) (
        some ((1 : Int32), ((zu r3.2.1 62 0 (zx r3.1) a5), r3.2.2))))))) := zeqi d 142 12 66 [some (zr 11 0), some (zi a1), some (zi a2), some (zi a3), some (zi a4), some (zi a5)] [] S
set_option maxRecDepth 100000 in
theorem eM_zone (d : Nat) (a1 : Int32) (a2 : Int32) (S : ZS) : zM_zone (d + 1) a1 a2 S =
  (zM_within d a1 (0 : Int32) (15 : Int32) ((zu S.1 11 0 0 (0 : Int32)), S.2)).bind (fun r1 =>
  zif (r1.1 = 0) (
    some ((0 : Int32), r1.2)) (
    (zM_within d a2 (1 : Int32) (9 : Int32) r1.2).bind (fun r2 =>
    zif (r2.1 = 0) (
      some ((0 : Int32), r2.2)) (
      zg (zin a1 16) (
      some ((1 : Int32), ((zu r2.2.1 63 0 (zx a1) a2), r2.2.2))))))) := zeqi d 143 12 0 [some (zr 11 0), some (zi a1), some (zi a2)] [] S
set_option maxRecDepth 100000 in
theorem eM_lineOf (d : Nat) (a1 : Int32) (a2 : Int32) (S : ZS) : zM_lineOf (d + 1) a1 a2 S =
  zM_lineOf_2 d a1 a2 (0 : Int32) S := zeqi d 144 12 0 [some (zr 11 0), some (zi a1), some (zi a2), none] [] S
set_option maxRecDepth 100000 in
theorem eM_lineOf_2 (d : Nat) (a1 : Int32) (a2 : Int32) (a3 : Int32) (S : ZS) : zM_lineOf_2 d a1 a2 a3 S =
  zif ((S.1 11 0 11) ≤ a3) (
    some ((-1 : Int32), S)) (
    zg (zin a3 40) (
    zif ((S.1 68 0 (zx a3)) = a1) (
      zg (zin a3 40) (
      zif ((S.1 69 0 (zx a3)) = a2) (
        some (a3, S)) (
        zM_lineOf_2 d a1 a2 (a3 + (1 : Int32)) S))) (
      zM_lineOf_2 d a1 a2 (a3 + (1 : Int32)) S))) := zeqi d 144 12 2 [some (zr 11 0), some (zi a1), some (zi a2), some (zi a3)] [] S
set_option maxRecDepth 100000 in
theorem eM_line (d : Nat) (a1 : Int32) (a2 : Int32) (a3 : Int32) (S : ZS) : zM_line (d + 1) a1 a2 a3 S =
  (zM_isSelectors d a1 ((zu S.1 11 0 0 (0 : Int32)), S.2)).bind (fun r1 =>
  zif (r1.1 = 0) (
    some ((-1 : Int32), r1.2)) (
    (zM_within d a2 (0 : Int32) ((r1.2.1 11 0 2) - (1 : Int32)) r1.2).bind (fun r2 =>
    zif (r2.1 = 0) (
      some ((-1 : Int32), r2.2)) (
      zg (zin a2 12) (
      zif ((r2.2.1 59 0 (zx a2)) = (1 : Int32)) (
        (zM_within d a3 (0 : Int32) (99 : Int32) r2.2).bind (fun r3 =>
        zif (r3.1 = 0) (
          some ((-1 : Int32), r3.2)) (
          (zM_lineOf d a2 a3 r3.2).bind (fun r4 =>
          zif (0 ≤ r4.1) (
            some ((-1 : Int32), r4.2)) (
            zif ((r4.2.1 11 0 11) = (40 : Int32)) (
              some ((-1 : Int32), r4.2)) (
              zg (zin (r4.2.1 11 0 11) 40) (
              zg (zin ((zu r4.2.1 67 0 (zx (r4.2.1 11 0 11)) a1) 11 0 11) 40) (
              zg (zin ((zu (zu r4.2.1 67 0 (zx (r4.2.1 11 0 11)) a1) 68 0 (zx ((zu r4.2.1 67 0 (zx (r4.2.1 11 0 11)) a1) 11 0 11)) a2) 11 0 11) 40) (
              some ((((zu (zu (zu (zu r4.2.1 67 0 (zx (r4.2.1 11 0 11)) a1) 68 0 (zx ((zu r4.2.1 67 0 (zx (r4.2.1 11 0 11)) a1) 11 0 11)) a2) 69 0 (zx ((zu (zu r4.2.1 67 0 (zx (r4.2.1 11 0 11)) a1) 68 0 (zx ((zu r4.2.1 67 0 (zx (r4.2.1 11 0 11)) a1) 11 0 11)) a2) 11 0 11)) a3) 11 0 11 (((zu (zu (zu r4.2.1 67 0 (zx (r4.2.1 11 0 11)) a1) 68 0 (zx ((zu r4.2.1 67 0 (zx (r4.2.1 11 0 11)) a1) 11 0 11)) a2) 69 0 (zx ((zu (zu r4.2.1 67 0 (zx (r4.2.1 11 0 11)) a1) 68 0 (zx ((zu r4.2.1 67 0 (zx (r4.2.1 11 0 11)) a1) 11 0 11)) a2) 11 0 11)) a3) 11 0 11) + (1 : Int32))) 11 0 11) - (1 : Int32)), ((zu (zu (zu (zu r4.2.1 67 0 (zx (r4.2.1 11 0 11)) a1) 68 0 (zx ((zu r4.2.1 67 0 (zx (r4.2.1 11 0 11)) a1) 11 0 11)) a2) 69 0 (zx ((zu (zu r4.2.1 67 0 (zx (r4.2.1 11 0 11)) a1) 68 0 (zx ((zu r4.2.1 67 0 (zx (r4.2.1 11 0 11)) a1) 11 0 11)) a2) 11 0 11)) a3) 11 0 11 (((zu (zu (zu r4.2.1 67 0 (zx (r4.2.1 11 0 11)) a1) 68 0 (zx ((zu r4.2.1 67 0 (zx (r4.2.1 11 0 11)) a1) 11 0 11)) a2) 69 0 (zx ((zu (zu r4.2.1 67 0 (zx (r4.2.1 11 0 11)) a1) 68 0 (zx ((zu r4.2.1 67 0 (zx (r4.2.1 11 0 11)) a1) 11 0 11)) a2) 11 0 11)) a3) 11 0 11) + (1 : Int32))), r4.2.2))))))))))) (
        some ((-1 : Int32), r2.2))))))) := zeqi d 145 12 0 [some (zr 11 0), some (zi a1), some (zi a2), some (zi a3)] [] S
set_option maxRecDepth 100000 in
theorem eM_out (d : Nat) (a1 : Int32) (a2 : Int32) (S : ZS) : zM_out (d + 1) a1 a2 S =
  (zM_isSwitch d a1 ((zu S.1 11 0 0 (0 : Int32)), S.2)).bind (fun r1 =>
  zif (r1.1 = 0) (
    some ((0 : Int32), r1.2)) (
    zg (zin a1 116) (
    zg (zbl a2) (
    some ((1 : Int32), ((zu r1.2.1 65 0 (zx a1) a2), r1.2.2)))))) := zeqi d 146 12 0 [some (zr 11 0), some (zi a1), some (zi a2)] [] S
set_option maxRecDepth 100000 in
theorem eM_faulty (d : Nat) (a1 : Int32) (a2 : Int32) (S : ZS) : zM_faulty (d + 1) a1 a2 S =
  (zM_isSwitch d a1 ((zu S.1 11 0 0 (0 : Int32)), S.2)).bind (fun r1 =>
  zif (r1.1 = 0) (
    some ((0 : Int32), r1.2)) (
    zg (zin a1 116) (
    zg (zbl a2) (
    some ((1 : Int32), ((zu r1.2.1 66 0 (zx a1) a2), r1.2.2)))))) := zeqi d 147 12 0 [some (zr 11 0), some (zi a1), some (zi a2)] [] S
set_option maxRecDepth 100000 in
theorem eM_isFree (d : Nat) (a1 : Int32) (S : ZS) : zM_isFree (d + 1) a1 S =
  zg (zin a1 116) (
  zif (0 ≤ (S.1 64 0 (zx a1))) (
    some ((0 : Int32), S)) (
    zg (zin a1 116) (
    zif ((S.1 65 0 (zx a1)) = 0) (
      zg (zin a1 116) (
      zif ((S.1 80 0 (zx a1)) = 0) (
        some ((1 : Int32), S)) (
        some ((0 : Int32), S)))) (
      some ((0 : Int32), S))))) := zeqi d 148 12 0 [some (zr 11 0), some (zi a1)] [] S
set_option maxRecDepth 100000 in
theorem eM_isQuiet (d : Nat) (a1 : Int32) (S : ZS) : zM_isQuiet (d + 1) a1 S =
  zg (zin a1 40) (
  zif ((S.1 70 0 (zx a1)) = 0) (
    zg (zin a1 40) (
    zif ((S.1 81 0 (zx a1)) = 0) (
      some ((1 : Int32), S)) (
      some ((0 : Int32), S)))) (
    some ((0 : Int32), S))) := zeqi d 149 12 0 [some (zr 11 0), some (zi a1)] [] S
set_option maxRecDepth 100000 in
theorem eM_firstFree (d : Nat) (a1 : Int32) (S : ZS) : zM_firstFree (d + 1) a1 S =
  zM_firstFree_2 d a1 (0 : Int32) S := zeqi d 150 12 0 [some (zr 11 0), some (zi a1), none] [] S
set_option maxRecDepth 100000 in
theorem eM_firstFree_2 (d : Nat) (a1 : Int32) (a2 : Int32) (S : ZS) : zM_firstFree_2 d a1 a2 S =
  zg (zin a1 12) (
  zif ((S.1 60 0 (zx a1)) ≤ a2) (
    some ((-1 : Int32), S)) (
    (zM_isFree d (((8 : Int32) * a1) + a2) S).bind (fun r1 =>
    zif (r1.1 = 0) (
      zM_firstFree_2 d a1 (a2 + (1 : Int32)) r1.2) (
      some ((((8 : Int32) * a1) + a2), r1.2))))) := zeqi d 150 12 2 [some (zr 11 0), some (zi a1), some (zi a2)] [] S
set_option maxRecDepth 100000 in
theorem eM_goesTo (d : Nat) (a1 : Int32) (a2 : Int32) (S : ZS) : zM_goesTo (d + 1) a1 a2 S =
  zM_goesTo_11 d a1 a2 (a1 / (8 : Int32)) (0 : Int32) (0 : Int32) S := zeqi d 151 12 0 [some (zr 11 0), some (zi a1), some (zi a2), none, none, none, none] [] S
set_option maxRecDepth 100000 in
theorem eM_goesTo_11 (d : Nat) (a1 : Int32) (a2 : Int32) (a3 : Int32) (a4 : Int32) (a5 : Int32) (S : ZS) : zM_goesTo_11 d a1 a2 a3 a4 a5 S =
  zif ((4 : Int32) ≤ a5) (
    zif (a4 = 0) (
      some ((-2 : Int32), S)) (
      some ((-1 : Int32), S))) (
    zg (zin a3 12) (
    bif zz (S.1 61 0 (zx a3)) then none else
    (zM_outletAt d a3 ((a1 - a1 / (8 : Int32) * (8 : Int32)) - (a1 - a1 / (8 : Int32) * (8 : Int32)) / (S.1 61 0 (zx a3)) * (S.1 61 0 (zx a3))) a2 a5 S).bind (fun r1 =>
    zg (zin r1.1 960) (
    zif (0 ≤ (r1.2.1 62 0 (zx r1.1))) (
      (zM_isFree d (r1.2.1 62 0 (zx r1.1)) r1.2).bind (fun r2 =>
      zif (r2.1 = 0) (
        zM_goesTo_11 d a1 a2 a3 (1 : Int32) (a5 + (1 : Int32)) r2.2) (
        some ((r1.2.1 62 0 (zx r1.1)), r2.2)))) (
      zM_goesTo_11 d a1 a2 a3 a4 (a5 + (1 : Int32)) r1.2))))) := zeqi d 151 12 11 [some (zr 11 0), some (zi a1), some (zi a2), some (zi a3), some (zi a4), some (zi a5), none] [] S
set_option maxRecDepth 100000 in
theorem eM_hold (d : Nat) (a1 : Int32) (a2 : Int32) (S : ZS) : zM_hold (d + 1) a1 a2 S =
  zg (zin a2 116) (
  zg (zin a1 40) (
  zg (zin (((120 : Int32) * a1) + ((zu S.1 64 0 (zx a2) a1) 78 0 (zx a1))) 4800) (
  zg (zin a1 40) (
  zg (zin a1 40) (
  some ((zu (zu (zu S.1 64 0 (zx a2) a1) 79 0 (zx (((120 : Int32) * a1) + ((zu S.1 64 0 (zx a2) a1) 78 0 (zx a1)))) a2) 78 0 (zx a1) (((zu (zu S.1 64 0 (zx a2) a1) 79 0 (zx (((120 : Int32) * a1) + ((zu S.1 64 0 (zx a2) a1) 78 0 (zx a1)))) a2) 78 0 (zx a1)) + (1 : Int32))), S.2)))))) := zeqv d 152 12 0 [some (zr 11 0), some (zi a1), some (zi a2)] [] S
set_option maxRecDepth 100000 in
theorem eM_lift (d : Nat) (a1 : Int32) (S : ZS) : zM_lift (d + 1) a1 S =
  (zM_isLine d a1 ((zu S.1 11 0 0 (0 : Int32)), S.2)).bind (fun r1 =>
  zif (r1.1 = 0) (
    some ((-1 : Int32), r1.2)) (
    zg (zin a1 40) (
    zif ((r1.2.1 70 0 (zx a1)) = 0) (
      zg (zin a1 40) (
      (zM_firstFree d (r1.2.1 67 0 (zx a1)) r1.2).bind (fun r2 =>
      zif (0 ≤ r2.1) (
        zg (zin a1 40) (
        zg (zin a1 40) (
        zg (zin a1 40) (
        zg (zin a1 40) (
        zg (zin a1 40) (
        zg (zin a1 40) (
        (zM_hold d a1 r2.1 ((zu (zu (zu (zu (zu (zu r2.2.1 70 0 (zx a1) (1 : Int32)) 78 0 (zx a1) (0 : Int32)) 73 0 (zx a1) (0 : Int32)) 75 0 (zx a1) (0 : Int32)) 72 0 (zx a1) (-1 : Int32)) 77 0 (zx a1) (-1 : Int32)), r2.2.2)).bind (fun r3 =>
        zg (zin r2.1 116) (
        zif ((r3.1 66 0 (zx r2.1)) = 0) (
          zg (zin a1 40) (
          zg (zin a1 40) (
          some (((zu r3.1 71 0 (zx a1) (0 : Int32)) 71 0 (zx a1)), ((zu r3.1 71 0 (zx a1) (0 : Int32)), r3.2))))) (
          zg (zin a1 40) (
          zg (zin a1 40) (
          some (((zu r3.1 71 0 (zx a1) (2 : Int32)) 71 0 (zx a1)), ((zu r3.1 71 0 (zx a1) (2 : Int32)), r3.2)))))))))))))) (
        some ((7 : Int32), r2.2))))) (
      some ((-1 : Int32), r1.2))))) := zeqi d 153 12 0 [some (zr 11 0), some (zi a1), none] [] S
set_option maxRecDepth 100000 in
theorem eM_head (d : Nat) (a1 : Int32) (S : ZS) : zM_head (d + 1) a1 S =
  zg (zin a1 40) (
  zg (zin ((((120 : Int32) * a1) + (S.1 78 0 (zx a1))) - (1 : Int32)) 4800) (
  some ((S.1 79 0 (zx ((((120 : Int32) * a1) + (S.1 78 0 (zx a1))) - (1 : Int32)))), S))) := zeqi d 154 12 0 [some (zr 11 0), some (zi a1)] [] S
set_option maxRecDepth 100000 in
theorem eM_isEnding (d : Nat) (a1 : Int32) (S : ZS) : zM_isEnding (d + 1) a1 S =
  zif ((100 : Int32) ≤ a1) (
    some ((1 : Int32), S)) (
    zg (zin (a1 / (8 : Int32)) 12) (
    zif ((S.1 59 0 (zx (a1 / (8 : Int32)))) = (1 : Int32)) (
      some ((1 : Int32), S)) (
      some ((0 : Int32), S)))) := zeqi d 155 12 0 [some (zr 11 0), some (zi a1)] [] S
set_option maxRecDepth 100000 in
theorem eM_dial (d : Nat) (a1 : Int32) (a2 : Int32) (S : ZS) : zM_dial (d + 1) a1 a2 S =
  (zM_isLine d a1 ((zu S.1 11 0 0 (0 : Int32)), S.2)).bind (fun r1 =>
  zif (r1.1 = 0) (
    some ((-1 : Int32), r1.2)) (
    zg (zin a1 40) (
    zif ((r1.2.1 70 0 (zx a1)) = (1 : Int32)) (
      (zM_within d a2 (0 : Int32) (9 : Int32) r1.2).bind (fun r2 =>
      zif (r2.1 = 0) (
        some ((-1 : Int32), r2.2)) (
        zg (zin a1 40) (
        zif ((r2.2.1 71 0 (zx a1)) ≤ (1 : Int32)) (
          zg (zin a1 40) (
          zif ((5 : Int32) ≤ (r2.2.1 73 0 (zx a1))) (
            zM_dial_78 d a1 a2 r2.2) (
            zg (zin a1 40) (
            zg (zin (((5 : Int32) * a1) + (r2.2.1 73 0 (zx a1))) 200) (
            zM_dial_78 d a1 a2 ((zu r2.2.1 74 0 (zx (((5 : Int32) * a1) + (r2.2.1 73 0 (zx a1)))) a2), r2.2.2)))))) (
          zg (zin a1 40) (
          some ((r2.2.1 71 0 (zx a1)), r2.2))))))) (
      some ((-1 : Int32), r1.2))))) := zeqi d 156 12 0 [some (zr 11 0), some (zi a1), some (zi a2), none, none] [] S
set_option maxRecDepth 100000 in
theorem eM_dial_78 (d : Nat) (a1 : Int32) (a2 : Int32) (S : ZS) : zM_dial_78 d a1 a2 S =
  zg (zin a1 40) (
  zg (zin a1 40) (
  (zM_head d a1 ((zu S.1 73 0 (zx a1) ((S.1 73 0 (zx a1)) + (1 : Int32))), S.2)).bind (fun r1 =>
  (zM_isEnding d r1.1 r1.2).bind (fun r2 =>
  zif (r2.1 = 0) (
    (zM_goesTo d r1.1 a2 r2.2).bind (fun r3 =>
    zif (r3.1 < 0) (
      zM_dial_122 d a1 r3.1 r3.2) (
      (zM_hold d a1 r3.1 r3.2).bind (fun r4 =>
      zM_dial_122 d a1 r3.1 r4)))) (
    zg (zin a1 40) (
    zg (zin a1 40) (
    zg (zin a1 40) (
    zif (((zu r2.2.1 75 0 (zx a1) ((r2.2.1 75 0 (zx a1)) + (1 : Int32))) 75 0 (zx a1)) = (1 : Int32)) (
      zg (zin a1 40) (
      zM_dial_198 d a1 a2 r1.1 ((zu (zu r2.2.1 75 0 (zx a1) ((r2.2.1 75 0 (zx a1)) + (1 : Int32))) 76 0 (zx a1) a2), r2.2.2))) (
      zM_dial_198 d a1 a2 r1.1 ((zu r2.2.1 75 0 (zx a1) ((r2.2.1 75 0 (zx a1)) + (1 : Int32))), r2.2.2)))))))))) := zeqi d 156 12 78 [some (zr 11 0), some (zi a1), some (zi a2), none, none] [] S
set_option maxRecDepth 100000 in
theorem eM_dial_122 (d : Nat) (a1 : Int32) (a4 : Int32) (S : ZS) : zM_dial_122 d a1 a4 S =
  zif (a4 = (-1 : Int32)) (
    zg (zin a1 40) (
    zg (zin a1 40) (
    some (((zu S.1 71 0 (zx a1) (3 : Int32)) 71 0 (zx a1)), ((zu S.1 71 0 (zx a1) (3 : Int32)), S.2))))) (
    zif (a4 = (-2 : Int32)) (
      zg (zin a1 40) (
      zg (zin a1 40) (
      some (((zu S.1 71 0 (zx a1) (4 : Int32)) 71 0 (zx a1)), ((zu S.1 71 0 (zx a1) (4 : Int32)), S.2))))) (
      zg (zin a4 116) (
      zif ((S.1 66 0 (zx a4)) = 0) (
        zg (zin a1 40) (
        zg (zin a1 40) (
        some (((zu S.1 71 0 (zx a1) (1 : Int32)) 71 0 (zx a1)), ((zu S.1 71 0 (zx a1) (1 : Int32)), S.2))))) (
        zg (zin a1 40) (
        zg (zin a1 40) (
        some (((zu S.1 71 0 (zx a1) (2 : Int32)) 71 0 (zx a1)), ((zu S.1 71 0 (zx a1) (2 : Int32)), S.2)))))))) := zeqi d 156 12 122 [some (zr 11 0), some (zi a1), none, none, some (zi a4)] [] S
set_option maxRecDepth 100000 in
theorem eM_dial_198 (d : Nat) (a1 : Int32) (a2 : Int32) (a3 : Int32) (S : ZS) : zM_dial_198 d a1 a2 a3 S =
  zg (zin a1 40) (
  zif (a3 < (100 : Int32)) (
    zg (zin a1 40) (
    zif ((2 : Int32) ≤ ((zu S.1 71 0 (zx a1) (1 : Int32)) 75 0 (zx a1))) (
      zg (zin a1 40) (
      (zM_lineOf d (a3 / (8 : Int32)) (((10 : Int32) * ((zu S.1 71 0 (zx a1) (1 : Int32)) 76 0 (zx a1))) + a2) ((zu S.1 71 0 (zx a1) (1 : Int32)), S.2)).bind (fun r1 =>
      zif (0 ≤ r1.1) (
        zg (zin r1.1 40) (
        zif ((r1.2.1 70 0 (zx r1.1)) = 0) (
          zM_dial_297 d a1 r1.1 (5 : Int32) a1 r1.2) (
          zM_dial_297 d a1 r1.1 (3 : Int32) a1 r1.2))) (
        zM_dial_297 d a1 r1.1 (4 : Int32) a1 r1.2)))) (
      some ((1 : Int32), ((zu S.1 71 0 (zx a1) (1 : Int32)), S.2))))) (
    zg (zin a1 40) (
    zif (((zu S.1 71 0 (zx a1) (1 : Int32)) 75 0 (zx a1)) = (3 : Int32)) (
      zg (zin a1 40) (
      zg (zin a1 40) (
      some (((zu (zu S.1 71 0 (zx a1) (1 : Int32)) 71 0 (zx a1) (5 : Int32)) 71 0 (zx a1)), ((zu (zu S.1 71 0 (zx a1) (1 : Int32)) 71 0 (zx a1) (5 : Int32)), S.2))))) (
      zg (zin a1 40) (
      some (((zu S.1 71 0 (zx a1) (1 : Int32)) 71 0 (zx a1)), ((zu S.1 71 0 (zx a1) (1 : Int32)), S.2))))))) := zeqi d 156 12 198 [some (zr 11 0), some (zi a1), some (zi a2), some (zi a3), none] [] S
set_option maxRecDepth 100000 in
theorem eM_dial_297 (d : Nat) (a1 : Int32) (a4 : Int32) (s0 : Int32) (s1 : Int32) (S : ZS) : zM_dial_297 d a1 a4 s0 s1 S =
  zg (zin s1 40) (
  zg (zin a1 40) (
  zif (((zu S.1 71 0 (zx s1) s0) 71 0 (zx a1)) = (5 : Int32)) (
    zg (zin a1 40) (
    zg (zin a4 40) (
    some ((5 : Int32), ((zu (zu (zu S.1 71 0 (zx s1) s0) 72 0 (zx a1) a4) 70 0 (zx a4) (2 : Int32)), S.2))))) (
    zg (zin a1 40) (
    some (((zu S.1 71 0 (zx s1) s0) 71 0 (zx a1)), ((zu S.1 71 0 (zx s1) s0), S.2)))))) := zeqi d 156 12 297 [some (zr 11 0), some (zi a1), none, none, some (zi a4)] [zi s0, zi s1, zr 71 0] S
set_option maxRecDepth 100000 in
theorem eM_answer (d : Nat) (a1 : Int32) (S : ZS) : zM_answer (d + 1) a1 S =
  (zM_isLine d a1 ((zu S.1 11 0 0 (0 : Int32)), S.2)).bind (fun r1 =>
  zif (r1.1 = 0) (
    some ((0 : Int32), r1.2)) (
    zg (zin a1 40) (
    zif ((r1.2.1 70 0 (zx a1)) = (1 : Int32)) (
      zg (zin a1 40) (
      zif ((r1.2.1 71 0 (zx a1)) = (5 : Int32)) (
        zg (zin a1 40) (
        zg (zin a1 40) (
        some ((1 : Int32), ((zu (zu r1.2.1 71 0 (zx a1) (6 : Int32)) 77 0 (zx a1) ((zu r1.2.1 71 0 (zx a1) (6 : Int32)) 11 0 1)), r1.2.2))))) (
        some ((0 : Int32), r1.2)))) (
      some ((0 : Int32), r1.2))))) := zeqi d 157 12 0 [some (zr 11 0), some (zi a1)] [] S
set_option maxRecDepth 100000 in
theorem eM_end (d : Nat) (a1 : Int32) (S : ZS) : zM_end (d + 1) a1 S =
  (zM_isLine d a1 ((zu S.1 11 0 0 (0 : Int32)), S.2)).bind (fun r1 =>
  zif (r1.1 = 0) (
    some ((-1 : Int32), r1.2)) (
    zg (zin a1 40) (
    zif ((r1.2.1 70 0 (zx a1)) = (1 : Int32)) (
      zg (zin a1 40) (
      zif ((r1.2.1 71 0 (zx a1)) = (6 : Int32)) (
        (zM_unitsOf d a1 r1.2).bind (fun r2 =>
        zif ((200 : Int32) ≤ (r2.2.1 11 0 27)) (
          zM_end_122 d a1 r2.1 (0 : Int32) r2.2) (
          zg (zin (r2.2.1 11 0 27) 200) (
          zg (zin ((zu r2.2.1 82 0 (zx (r2.2.1 11 0 27)) a1) 11 0 27) 200) (
          zg (zin a1 40) (
          zg (zin ((zu (zu r2.2.1 82 0 (zx (r2.2.1 11 0 27)) a1) 83 0 (zx ((zu r2.2.1 82 0 (zx (r2.2.1 11 0 27)) a1) 11 0 27)) r2.1) 11 0 27) 200) (
          zg (zin ((zu (zu (zu r2.2.1 82 0 (zx (r2.2.1 11 0 27)) a1) 83 0 (zx ((zu r2.2.1 82 0 (zx (r2.2.1 11 0 27)) a1) 11 0 27)) r2.1) 84 0 (zx ((zu (zu r2.2.1 82 0 (zx (r2.2.1 11 0 27)) a1) 83 0 (zx ((zu r2.2.1 82 0 (zx (r2.2.1 11 0 27)) a1) 11 0 27)) r2.1) 11 0 27)) (((zu (zu r2.2.1 82 0 (zx (r2.2.1 11 0 27)) a1) 83 0 (zx ((zu r2.2.1 82 0 (zx (r2.2.1 11 0 27)) a1) 11 0 27)) r2.1) 77 0 (zx a1)) / (86400 : Int32))) 11 0 27) 200) (
          zM_end_122 d a1 r2.1 (0 : Int32) ((zu (zu (zu (zu (zu r2.2.1 82 0 (zx (r2.2.1 11 0 27)) a1) 83 0 (zx ((zu r2.2.1 82 0 (zx (r2.2.1 11 0 27)) a1) 11 0 27)) r2.1) 84 0 (zx ((zu (zu r2.2.1 82 0 (zx (r2.2.1 11 0 27)) a1) 83 0 (zx ((zu r2.2.1 82 0 (zx (r2.2.1 11 0 27)) a1) 11 0 27)) r2.1) 11 0 27)) (((zu (zu r2.2.1 82 0 (zx (r2.2.1 11 0 27)) a1) 83 0 (zx ((zu r2.2.1 82 0 (zx (r2.2.1 11 0 27)) a1) 11 0 27)) r2.1) 77 0 (zx a1)) / (86400 : Int32))) 85 0 (zx ((zu (zu (zu r2.2.1 82 0 (zx (r2.2.1 11 0 27)) a1) 83 0 (zx ((zu r2.2.1 82 0 (zx (r2.2.1 11 0 27)) a1) 11 0 27)) r2.1) 84 0 (zx ((zu (zu r2.2.1 82 0 (zx (r2.2.1 11 0 27)) a1) 83 0 (zx ((zu r2.2.1 82 0 (zx (r2.2.1 11 0 27)) a1) 11 0 27)) r2.1) 11 0 27)) (((zu (zu r2.2.1 82 0 (zx (r2.2.1 11 0 27)) a1) 83 0 (zx ((zu r2.2.1 82 0 (zx (r2.2.1 11 0 27)) a1) 11 0 27)) r2.1) 77 0 (zx a1)) / (86400 : Int32))) 11 0 27)) (((zu (zu (zu r2.2.1 82 0 (zx (r2.2.1 11 0 27)) a1) 83 0 (zx ((zu r2.2.1 82 0 (zx (r2.2.1 11 0 27)) a1) 11 0 27)) r2.1) 84 0 (zx ((zu (zu r2.2.1 82 0 (zx (r2.2.1 11 0 27)) a1) 83 0 (zx ((zu r2.2.1 82 0 (zx (r2.2.1 11 0 27)) a1) 11 0 27)) r2.1) 11 0 27)) (((zu (zu r2.2.1 82 0 (zx (r2.2.1 11 0 27)) a1) 83 0 (zx ((zu r2.2.1 82 0 (zx (r2.2.1 11 0 27)) a1) 11 0 27)) r2.1) 77 0 (zx a1)) / (86400 : Int32))) 11 0 1) / (86400 : Int32))) 11 0 27 (((zu (zu (zu (zu r2.2.1 82 0 (zx (r2.2.1 11 0 27)) a1) 83 0 (zx ((zu r2.2.1 82 0 (zx (r2.2.1 11 0 27)) a1) 11 0 27)) r2.1) 84 0 (zx ((zu (zu r2.2.1 82 0 (zx (r2.2.1 11 0 27)) a1) 83 0 (zx ((zu r2.2.1 82 0 (zx (r2.2.1 11 0 27)) a1) 11 0 27)) r2.1) 11 0 27)) (((zu (zu r2.2.1 82 0 (zx (r2.2.1 11 0 27)) a1) 83 0 (zx ((zu r2.2.1 82 0 (zx (r2.2.1 11 0 27)) a1) 11 0 27)) r2.1) 77 0 (zx a1)) / (86400 : Int32))) 85 0 (zx ((zu (zu (zu r2.2.1 82 0 (zx (r2.2.1 11 0 27)) a1) 83 0 (zx ((zu r2.2.1 82 0 (zx (r2.2.1 11 0 27)) a1) 11 0 27)) r2.1) 84 0 (zx ((zu (zu r2.2.1 82 0 (zx (r2.2.1 11 0 27)) a1) 83 0 (zx ((zu r2.2.1 82 0 (zx (r2.2.1 11 0 27)) a1) 11 0 27)) r2.1) 11 0 27)) (((zu (zu r2.2.1 82 0 (zx (r2.2.1 11 0 27)) a1) 83 0 (zx ((zu r2.2.1 82 0 (zx (r2.2.1 11 0 27)) a1) 11 0 27)) r2.1) 77 0 (zx a1)) / (86400 : Int32))) 11 0 27)) (((zu (zu (zu r2.2.1 82 0 (zx (r2.2.1 11 0 27)) a1) 83 0 (zx ((zu r2.2.1 82 0 (zx (r2.2.1 11 0 27)) a1) 11 0 27)) r2.1) 84 0 (zx ((zu (zu r2.2.1 82 0 (zx (r2.2.1 11 0 27)) a1) 83 0 (zx ((zu r2.2.1 82 0 (zx (r2.2.1 11 0 27)) a1) 11 0 27)) r2.1) 11 0 27)) (((zu (zu r2.2.1 82 0 (zx (r2.2.1 11 0 27)) a1) 83 0 (zx ((zu r2.2.1 82 0 (zx (r2.2.1 11 0 27)) a1) 11 0 27)) r2.1) 77 0 (zx a1)) / (86400 : Int32))) 11 0 1) / (86400 : Int32))) 11 0 27) + (1 : Int32))), r2.2.2))))))))) (
        zM_end_122 d a1 (0 : Int32) (0 : Int32) r1.2))) (
      some ((-1 : Int32), r1.2))))) := zeqi d 158 12 0 [some (zr 11 0), some (zi a1), none, none] [] S
set_option maxRecDepth 100000 in
theorem eM_end_122 (d : Nat) (a1 : Int32) (a2 : Int32) (a3 : Int32) (S : ZS) : zM_end_122 d a1 a2 a3 S =
  zg (zin a1 40) (
  zif ((S.1 78 0 (zx a1)) ≤ a3) (
    zg (zin a1 40) (
    zg (zin a1 40) (
    zif (((zu S.1 78 0 (zx a1) (0 : Int32)) 72 0 (zx a1)) < 0) (
      zg (zin a1 40) (
      some (a2, ((zu (zu S.1 78 0 (zx a1) (0 : Int32)) 70 0 (zx a1) (0 : Int32)), S.2)))) (
      zg (zin a1 40) (
      zg (zin ((zu S.1 78 0 (zx a1) (0 : Int32)) 72 0 (zx a1)) 40) (
      zg (zin a1 40) (
      some (a2, ((zu (zu (zu S.1 78 0 (zx a1) (0 : Int32)) 70 0 (zx ((zu S.1 78 0 (zx a1) (0 : Int32)) 72 0 (zx a1))) (0 : Int32)) 70 0 (zx a1) (0 : Int32)), S.2))))))))) (
    zg (zin (((120 : Int32) * a1) + a3) 4800) (
    zg (zin (S.1 79 0 (zx (((120 : Int32) * a1) + a3))) 116) (
    zM_end_122 d a1 a2 (a3 + (1 : Int32)) ((zu S.1 64 0 (zx (S.1 79 0 (zx (((120 : Int32) * a1) + a3)))) (-1 : Int32)), S.2))))) := zeqi d 158 12 122 [some (zr 11 0), some (zi a1), some (zi a2), some (zi a3)] [] S
set_option maxRecDepth 100000 in
theorem eM_word (d : Nat) (a1 : Int32) (a2 : Int32) (S : ZS) : zM_word (d + 1) a1 a2 S =
  (zM_within d a1 (0 : Int32) (((zu S.1 11 0 0 (0 : Int32)) 11 0 27) - (1 : Int32)) ((zu S.1 11 0 0 (0 : Int32)), S.2)).bind (fun r1 =>
  zif (r1.1 = 0) (
    some ((0 : Int32), r1.2)) (
    (zM_within d a2 (0 : Int32) (9999 : Int32) r1.2).bind (fun r2 =>
    zif (r2.1 = 0) (
      some ((0 : Int32), r2.2)) (
      zif ((r2.2.1 11 0 32) = (200 : Int32)) (
        some ((0 : Int32), r2.2)) (
        zg (zin (r2.2.1 11 0 32) 200) (
        zg (zin ((zu r2.2.1 86 0 (zx (r2.2.1 11 0 32)) a1) 11 0 32) 200) (
        zg (zin ((zu (zu r2.2.1 86 0 (zx (r2.2.1 11 0 32)) a1) 87 0 (zx ((zu r2.2.1 86 0 (zx (r2.2.1 11 0 32)) a1) 11 0 32)) a2) 11 0 32) 200) (
        some ((1 : Int32), ((zu (zu (zu (zu r2.2.1 86 0 (zx (r2.2.1 11 0 32)) a1) 87 0 (zx ((zu r2.2.1 86 0 (zx (r2.2.1 11 0 32)) a1) 11 0 32)) a2) 88 0 (zx ((zu (zu r2.2.1 86 0 (zx (r2.2.1 11 0 32)) a1) 87 0 (zx ((zu r2.2.1 86 0 (zx (r2.2.1 11 0 32)) a1) 11 0 32)) a2) 11 0 32)) (((zu (zu r2.2.1 86 0 (zx (r2.2.1 11 0 32)) a1) 87 0 (zx ((zu r2.2.1 86 0 (zx (r2.2.1 11 0 32)) a1) 11 0 32)) a2) 11 0 1) / (86400 : Int32))) 11 0 32 (((zu (zu (zu r2.2.1 86 0 (zx (r2.2.1 11 0 32)) a1) 87 0 (zx ((zu r2.2.1 86 0 (zx (r2.2.1 11 0 32)) a1) 11 0 32)) a2) 88 0 (zx ((zu (zu r2.2.1 86 0 (zx (r2.2.1 11 0 32)) a1) 87 0 (zx ((zu r2.2.1 86 0 (zx (r2.2.1 11 0 32)) a1) 11 0 32)) a2) 11 0 32)) (((zu (zu r2.2.1 86 0 (zx (r2.2.1 11 0 32)) a1) 87 0 (zx ((zu r2.2.1 86 0 (zx (r2.2.1 11 0 32)) a1) 11 0 32)) a2) 11 0 1) / (86400 : Int32))) 11 0 32) + (1 : Int32))), r2.2.2)))))))))) := zeqi d 159 12 0 [some (zr 11 0), some (zi a1), some (zi a2)] [] S
set_option maxRecDepth 100000 in
theorem eM_unitsBy (d : Nat) (a1 : Int32) (a2 : Int32) (S : ZS) : zM_unitsBy (d + 1) a1 a2 S =
  zg (zin a1 200) (
  zM_unitsBy_10 d a1 a2 (S.1 83 0 (zx a1)) (0 : Int32) S) := zeqi d 160 12 0 [some (zr 11 0), some (zi a1), some (zi a2), none, none] [] S
set_option maxRecDepth 100000 in
theorem eM_unitsBy_10 (d : Nat) (a1 : Int32) (a2 : Int32) (a3 : Int32) (a4 : Int32) (S : ZS) : zM_unitsBy_10 d a1 a2 a3 a4 S =
  zif ((S.1 11 0 32) ≤ a4) (
    some (a3, S)) (
    zg (zin a4 200) (
    zif ((S.1 86 0 (zx a4)) = a1) (
      zg (zin a4 200) (
      zif (a2 < (S.1 88 0 (zx a4))) (
        zM_unitsBy_10 d a1 a2 a3 (a4 + (1 : Int32)) S) (
        zg (zin a4 200) (
        zM_unitsBy_10 d a1 a2 (S.1 87 0 (zx a4)) (a4 + (1 : Int32)) S)))) (
      zM_unitsBy_10 d a1 a2 a3 (a4 + (1 : Int32)) S))) := zeqi d 160 12 10 [some (zr 11 0), some (zi a1), some (zi a2), some (zi a3), some (zi a4)] [] S
set_option maxRecDepth 100000 in
theorem eM_bill (d : Nat) (a1 : Int32) (a2 : Int32) (a3 : Int32) (a4 : Int32) (S : ZS) : zM_bill (d + 1) a1 a2 a3 a4 S =
  (zM_isLine d a1 ((zu S.1 11 0 0 (0 : Int32)), S.2)).bind (fun r1 =>
  zif (r1.1 = 0) (
    some ((-1 : Int32), r1.2)) (
    (zM_within d a2 (0 : Int32) (11 : Int32) r1.2).bind (fun r2 =>
    zif (r2.1 = 0) (
      some ((-1 : Int32), r2.2)) (
      (zM_within d a3 a2 (11 : Int32) r2.2).bind (fun r3 =>
      zif (r3.1 = 0) (
        some ((-1 : Int32), r3.2)) (
        (zM_within d a4 (0 : Int32) ((r3.2.1 11 0 1) / (86400 : Int32)) r3.2).bind (fun r4 =>
        zif (r4.1 = 0) (
          some ((-1 : Int32), r4.2)) (
          zM_bill_58 d a1 a2 a3 a4 (0 : Int32) (0 : Int32) r4.2)))))))) := zeqi d 161 12 0 [some (zr 11 0), some (zi a1), some (zi a2), some (zi a3), some (zi a4), none, none] [] S
set_option maxRecDepth 100000 in
theorem eM_bill_58 (d : Nat) (a1 : Int32) (a2 : Int32) (a3 : Int32) (a4 : Int32) (a5 : Int32) (a6 : Int32) (S : ZS) : zM_bill_58 d a1 a2 a3 a4 a5 a6 S =
  zif ((S.1 11 0 27) ≤ a6) (
    some (a5, S)) (
    zg (zin a6 200) (
    zif ((S.1 82 0 (zx a6)) = a1) (
      zg (zin a6 200) (
      (zM_within d (S.1 84 0 (zx a6)) a2 a3 S).bind (fun r1 =>
      zif (r1.1 = 0) (
        zM_bill_58 d a1 a2 a3 a4 a5 (a6 + (1 : Int32)) r1.2) (
        zg (zin a6 200) (
        zif (a4 < (r1.2.1 85 0 (zx a6))) (
          zM_bill_58 d a1 a2 a3 a4 a5 (a6 + (1 : Int32)) r1.2) (
          (zM_unitsBy d a6 a4 r1.2).bind (fun r2 =>
          zM_bill_58 d a1 a2 a3 a4 (a5 + r2.1) (a6 + (1 : Int32)) r2.2))))))) (
      zM_bill_58 d a1 a2 a3 a4 a5 (a6 + (1 : Int32)) S))) := zeqi d 161 12 58 [some (zr 11 0), some (zi a1), some (zi a2), some (zi a3), some (zi a4), some (zi a5), some (zi a6)] [] S
set_option maxRecDepth 100000 in
theorem eM_feed (d : Nat) (w1 : Int64) (w3 : Int64) (w5 : Int64) (S : ZS) : zM_feed (d + 1) w1 w3 w5 S =
  zM_feed_8 d w1 w3 w5 (0 : Int32) ((zu S.1 11 0 0 (0 : Int32)), S.2) := zeqi d 162 12 0 [some (zr 11 0), some (zl w1), none, some (zl w3), none, some (zl w5), none, none, none, none, none] [] S
set_option maxRecDepth 100000 in
theorem eM_feed_8 (d : Nat) (a1 : Int64) (a3 : Int64) (a5 : Int64) (a7 : Int32) (S : ZS) : zM_feed_8 d a1 a3 a5 a7 S =
  zif ((24 : Int32) ≤ a7) (
    some ((S.1 11 0 36), S)) (
    zif ((8 : Int32) ≤ a7) (
      zif ((16 : Int32) ≤ a7) (
        zM_feed_39 d a1 a3 a5 a7 a5 S) (
        zM_feed_39 d a1 a3 a5 a7 a3 S)) (
      zM_feed_39 d a1 a3 a5 a7 a1 S)) := zeqi d 162 12 8 [some (zr 11 0), some (zl a1), none, some (zl a3), none, some (zl a5), none, some (zi a7), none, none, none] [] S
set_option maxRecDepth 100000 in
theorem eM_feed_39 (d : Nat) (a1 : Int64) (a3 : Int64) (a5 : Int64) (a7 : Int32) (s0 : Int64) (S : ZS) : zM_feed_39 d a1 a3 a5 a7 s0 S =
  zif ((1000 : Int32) ≤ (S.1 11 0 36)) (
    zM_feed_8 d a1 a3 a5 (a7 + (1 : Int32)) S) (
    zif (((s0.toUInt64 >>> (((56 : Int32) - ((8 : Int32) * (a7 &&& (7 : Int32)))).toInt64.toUInt64 &&& Int64.toUInt64 63)).toInt64 &&& (255 : Int64)).toInt32 = (10 : Int32)) (
      zg (zin (S.1 11 0 36) 1000) (
      zM_feed_8 d a1 a3 a5 (a7 + (1 : Int32)) ((zu (zu S.1 89 0 (zx (S.1 11 0 36)) ((s0.toUInt64 >>> (((56 : Int32) - ((8 : Int32) * (a7 &&& (7 : Int32)))).toInt64.toUInt64 &&& Int64.toUInt64 63)).toInt64 &&& (255 : Int64)).toInt32) 11 0 36 (((zu S.1 89 0 (zx (S.1 11 0 36)) ((s0.toUInt64 >>> (((56 : Int32) - ((8 : Int32) * (a7 &&& (7 : Int32)))).toInt64.toUInt64 &&& Int64.toUInt64 63)).toInt64 &&& (255 : Int64)).toInt32) 11 0 36) + (1 : Int32))), S.2))) (
      zif (((s0.toUInt64 >>> (((56 : Int32) - ((8 : Int32) * (a7 &&& (7 : Int32)))).toInt64.toUInt64 &&& Int64.toUInt64 63)).toInt64 &&& (255 : Int64)).toInt32 < (32 : Int32)) (
        zM_feed_8 d a1 a3 a5 (a7 + (1 : Int32)) S) (
        zif ((126 : Int32) < ((s0.toUInt64 >>> (((56 : Int32) - ((8 : Int32) * (a7 &&& (7 : Int32)))).toInt64.toUInt64 &&& Int64.toUInt64 63)).toInt64 &&& (255 : Int64)).toInt32) (
          zM_feed_8 d a1 a3 a5 (a7 + (1 : Int32)) S) (
          zg (zin (S.1 11 0 36) 1000) (
          zM_feed_8 d a1 a3 a5 (a7 + (1 : Int32)) ((zu (zu S.1 89 0 (zx (S.1 11 0 36)) ((s0.toUInt64 >>> (((56 : Int32) - ((8 : Int32) * (a7 &&& (7 : Int32)))).toInt64.toUInt64 &&& Int64.toUInt64 63)).toInt64 &&& (255 : Int64)).toInt32) 11 0 36 (((zu S.1 89 0 (zx (S.1 11 0 36)) ((s0.toUInt64 >>> (((56 : Int32) - ((8 : Int32) * (a7 &&& (7 : Int32)))).toInt64.toUInt64 &&& Int64.toUInt64 63)).toInt64 &&& (255 : Int64)).toInt32) 11 0 36) + (1 : Int32))), S.2)))))) := zeqi d 162 12 39 [some (zr 11 0), some (zl a1), none, some (zl a3), none, some (zl a5), none, some (zi a7), none, none, none] [zl s0] S
set_option maxRecDepth 100000 in
theorem eM_signAt (d : Nat) (a1 : Int32) (S : ZS) : zM_signAt (d + 1) a1 S =
  zif ((S.1 11 0 38) ≤ a1) (
    some ((0 : Int32), S)) (
    zg (zin a1 1000) (
    some ((S.1 89 0 (zx a1)), S))) := zeqi d 163 12 0 [some (zr 11 0), some (zi a1)] [] S
set_option maxRecDepth 100000 in
theorem eM_next (d : Nat)  (S : ZS) : zM_next (d + 1)  S =
  zif ((S.1 11 0 38) ≤ (S.1 11 0 39)) (
    zM_next_52 d S) (
    zg (zin (S.1 11 0 39) 1000) (
    zif ((S.1 89 0 (zx (S.1 11 0 39))) = (32 : Int32)) (
      zM_next_0 d ((zu S.1 11 0 39 ((S.1 11 0 39) + (1 : Int32))), S.2)) (
      zg (zin (S.1 11 0 39) 1000) (
      zif ((S.1 89 0 (zx (S.1 11 0 39))) = (10 : Int32)) (
        zM_next_0 d ((zu S.1 11 0 39 ((S.1 11 0 39) + (1 : Int32))), S.2)) (
        zM_next_52 d S))))) := zeqv d 164 12 0 [some (zr 11 0), none] [] S
set_option maxRecDepth 100000 in
theorem eM_next_0 (d : Nat)  (S : ZS) : zM_next_0 d  S =
  zif ((S.1 11 0 38) ≤ (S.1 11 0 39)) (
    zM_next_52 d S) (
    zg (zin (S.1 11 0 39) 1000) (
    zif ((S.1 89 0 (zx (S.1 11 0 39))) = (32 : Int32)) (
      zM_next_0 d ((zu S.1 11 0 39 ((S.1 11 0 39) + (1 : Int32))), S.2)) (
      zg (zin (S.1 11 0 39) 1000) (
      zif ((S.1 89 0 (zx (S.1 11 0 39))) = (10 : Int32)) (
        zM_next_0 d ((zu S.1 11 0 39 ((S.1 11 0 39) + (1 : Int32))), S.2)) (
        zM_next_52 d S))))) := zeqv d 164 12 0 [some (zr 11 0), none] [] S
set_option maxRecDepth 100000 in
theorem eM_next_52 (d : Nat)  (S : ZS) : zM_next_52 d  S =
  zif (((zu (zu S.1 11 0 40 (S.1 11 0 39)) 11 0 43 (0 : Int32)) 11 0 39) = ((zu (zu S.1 11 0 40 (S.1 11 0 39)) 11 0 43 (0 : Int32)) 11 0 38)) (
    some ((zu (zu (zu S.1 11 0 40 (S.1 11 0 39)) 11 0 43 (0 : Int32)) 11 0 41 (0 : Int32)), (zu S.2.1 11 0 42 (0 : Int64)), S.2.2)) (
    zg (zin ((zu (zu S.1 11 0 40 (S.1 11 0 39)) 11 0 43 (0 : Int32)) 11 0 39) 1000) (
    zif (((zu (zu S.1 11 0 40 (S.1 11 0 39)) 11 0 43 (0 : Int32)) 89 0 (zx ((zu (zu S.1 11 0 40 (S.1 11 0 39)) 11 0 43 (0 : Int32)) 11 0 39))) < (97 : Int32)) (
      zif (((zu (zu S.1 11 0 40 (S.1 11 0 39)) 11 0 43 (0 : Int32)) 89 0 (zx ((zu (zu S.1 11 0 40 (S.1 11 0 39)) 11 0 43 (0 : Int32)) 11 0 39))) < (48 : Int32)) (
        zM_next_322 d ((zu (zu S.1 11 0 40 (S.1 11 0 39)) 11 0 43 (0 : Int32)) 89 0 (zx ((zu (zu S.1 11 0 40 (S.1 11 0 39)) 11 0 43 (0 : Int32)) 11 0 39))) ((zu (zu S.1 11 0 40 (S.1 11 0 39)) 11 0 43 (0 : Int32)), (zu S.2.1 11 0 42 (0 : Int64)), S.2.2)) (
        zif ((57 : Int32) < ((zu (zu S.1 11 0 40 (S.1 11 0 39)) 11 0 43 (0 : Int32)) 89 0 (zx ((zu (zu S.1 11 0 40 (S.1 11 0 39)) 11 0 43 (0 : Int32)) 11 0 39)))) (
          zM_next_322 d ((zu (zu S.1 11 0 40 (S.1 11 0 39)) 11 0 43 (0 : Int32)) 89 0 (zx ((zu (zu S.1 11 0 40 (S.1 11 0 39)) 11 0 43 (0 : Int32)) 11 0 39))) ((zu (zu S.1 11 0 40 (S.1 11 0 39)) 11 0 43 (0 : Int32)), (zu S.2.1 11 0 42 (0 : Int64)), S.2.2)) (
          zM_next_224 d ((zu (zu S.1 11 0 40 (S.1 11 0 39)) 11 0 43 (0 : Int32)), (zu S.2.1 11 0 42 (0 : Int64)), S.2.2)))) (
      zif ((122 : Int32) < ((zu (zu S.1 11 0 40 (S.1 11 0 39)) 11 0 43 (0 : Int32)) 89 0 (zx ((zu (zu S.1 11 0 40 (S.1 11 0 39)) 11 0 43 (0 : Int32)) 11 0 39)))) (
        zif (((zu (zu S.1 11 0 40 (S.1 11 0 39)) 11 0 43 (0 : Int32)) 89 0 (zx ((zu (zu S.1 11 0 40 (S.1 11 0 39)) 11 0 43 (0 : Int32)) 11 0 39))) < (48 : Int32)) (
          zM_next_322 d ((zu (zu S.1 11 0 40 (S.1 11 0 39)) 11 0 43 (0 : Int32)) 89 0 (zx ((zu (zu S.1 11 0 40 (S.1 11 0 39)) 11 0 43 (0 : Int32)) 11 0 39))) ((zu (zu S.1 11 0 40 (S.1 11 0 39)) 11 0 43 (0 : Int32)), (zu S.2.1 11 0 42 (0 : Int64)), S.2.2)) (
          zif ((57 : Int32) < ((zu (zu S.1 11 0 40 (S.1 11 0 39)) 11 0 43 (0 : Int32)) 89 0 (zx ((zu (zu S.1 11 0 40 (S.1 11 0 39)) 11 0 43 (0 : Int32)) 11 0 39)))) (
            zM_next_322 d ((zu (zu S.1 11 0 40 (S.1 11 0 39)) 11 0 43 (0 : Int32)) 89 0 (zx ((zu (zu S.1 11 0 40 (S.1 11 0 39)) 11 0 43 (0 : Int32)) 11 0 39))) ((zu (zu S.1 11 0 40 (S.1 11 0 39)) 11 0 43 (0 : Int32)), (zu S.2.1 11 0 42 (0 : Int64)), S.2.2)) (
            zM_next_224 d ((zu (zu S.1 11 0 40 (S.1 11 0 39)) 11 0 43 (0 : Int32)), (zu S.2.1 11 0 42 (0 : Int64)), S.2.2)))) (
        zM_next_109 d ((zu (zu S.1 11 0 40 (S.1 11 0 39)) 11 0 43 (0 : Int32)), (zu S.2.1 11 0 42 (0 : Int64)), S.2.2))))) := zeqv d 164 12 52 [some (zr 11 0), none] [] S
set_option maxRecDepth 100000 in
theorem eM_next_109 (d : Nat)  (S : ZS) : zM_next_109 d  S =
  (zM_signAt d (S.1 11 0 39) S).bind (fun r1 =>
  zif (r1.1 < (97 : Int32)) (
    zM_next_188 d r1.2) (
    (zM_signAt d (r1.2.1 11 0 39) r1.2).bind (fun r2 =>
    zif ((122 : Int32) < r2.1) (
      zM_next_188 d r2.2) (
      zif ((8 : Int32) ≤ ((r2.2.1 11 0 39) - (r2.2.1 11 0 40))) (
        zM_next_109 d ((zu r2.2.1 11 0 39 ((r2.2.1 11 0 39) + (1 : Int32))), r2.2.2)) (
        (zM_signAt d (r2.2.1 11 0 39) r2.2).bind (fun r3 =>
        zM_next_109 d ((zu r3.2.1 11 0 39 ((r3.2.1 11 0 39) + (1 : Int32))), (zu r3.2.2.1 11 0 42 ((((r2.2.2.1 11 0 42) * (27 : Int64)) + r3.1.toInt64) - (96 : Int64))), r3.2.2.2))))))) := zeqv d 164 12 109 [some (zr 11 0), none] [] S
set_option maxRecDepth 100000 in
theorem eM_next_188 (d : Nat)  (S : ZS) : zM_next_188 d  S =
  zif (((S.1 11 0 39) - (S.1 11 0 40)) ≤ (8 : Int32)) (
    some ((zu S.1 11 0 41 (1 : Int32)), S.2)) (
    some ((zu S.1 11 0 41 (4 : Int32)), S.2)) := zeqv d 164 12 188 [some (zr 11 0), none] [] S
set_option maxRecDepth 100000 in
theorem eM_next_224 (d : Nat)  (S : ZS) : zM_next_224 d  S =
  (zM_signAt d (S.1 11 0 39) S).bind (fun r1 =>
  zif (r1.1 < (48 : Int32)) (
    zM_next_299 d r1.2) (
    (zM_signAt d (r1.2.1 11 0 39) r1.2).bind (fun r2 =>
    zif ((57 : Int32) < r2.1) (
      zM_next_299 d r2.2) (
      zif ((4 : Int32) ≤ ((r2.2.1 11 0 39) - (r2.2.1 11 0 40))) (
        zM_next_224 d ((zu r2.2.1 11 0 39 ((r2.2.1 11 0 39) + (1 : Int32))), r2.2.2)) (
        (zM_signAt d (r2.2.1 11 0 39) r2.2).bind (fun r3 =>
        zM_next_224 d ((zu (zu r3.2.1 11 0 43 ((((r2.2.1 11 0 43) * (10 : Int32)) + r3.1) - (48 : Int32))) 11 0 39 (((zu r3.2.1 11 0 43 ((((r2.2.1 11 0 43) * (10 : Int32)) + r3.1) - (48 : Int32))) 11 0 39) + (1 : Int32))), r3.2.2))))))) := zeqv d 164 12 224 [some (zr 11 0), none] [] S
set_option maxRecDepth 100000 in
theorem eM_next_299 (d : Nat)  (S : ZS) : zM_next_299 d  S =
  zif (((S.1 11 0 39) - (S.1 11 0 40)) ≤ (4 : Int32)) (
    some ((zu S.1 11 0 41 (2 : Int32)), S.2)) (
    some ((zu S.1 11 0 41 (4 : Int32)), S.2)) := zeqv d 164 12 299 [some (zr 11 0), none] [] S
set_option maxRecDepth 100000 in
theorem eM_next_322 (d : Nat) (a1 : Int32) (S : ZS) : zM_next_322 d a1 S =
  zif (a1 < (40 : Int32)) (
    zM_next_345 d a1 ((zu S.1 11 0 39 ((S.1 11 0 39) + (1 : Int32))), S.2)) (
    zif (a1 ≤ (43 : Int32)) (
      some ((zu (zu S.1 11 0 39 ((S.1 11 0 39) + (1 : Int32))) 11 0 41 (3 : Int32)), S.2)) (
      zM_next_345 d a1 ((zu S.1 11 0 39 ((S.1 11 0 39) + (1 : Int32))), S.2))) := zeqv d 164 12 322 [some (zr 11 0), some (zi a1)] [] S
set_option maxRecDepth 100000 in
theorem eM_next_345 (d : Nat) (a1 : Int32) (S : ZS) : zM_next_345 d a1 S =
  zif (a1 = (45 : Int32)) (
    some ((zu S.1 11 0 41 (3 : Int32)), S.2)) (
    zif (a1 < (59 : Int32)) (
      some ((zu S.1 11 0 41 (4 : Int32)), S.2)) (
      zif ((61 : Int32) < a1) (
        some ((zu S.1 11 0 41 (4 : Int32)), S.2)) (
        some ((zu S.1 11 0 41 (3 : Int32)), S.2)))) := zeqv d 164 12 345 [none, some (zi a1)] [zr 11 0] S
set_option maxRecDepth 100000 in
theorem eM_isWord (d : Nat) (w1 : Int64) (S : ZS) : zM_isWord (d + 1) w1 S =
  zif ((S.1 11 0 41) = (1 : Int32)) (
    zif ((lg_cmp (S.2.1 11 0 42) w1) = 0) (
      some ((1 : Int32), S)) (
      some ((0 : Int32), S))) (
    some ((0 : Int32), S)) := zeqi d 165 12 0 [some (zr 11 0), some (zl w1), none] [] S
set_option maxRecDepth 100000 in
theorem eM_isSign (d : Nat) (a1 : Int32) (S : ZS) : zM_isSign (d + 1) a1 S =
  zif ((S.1 11 0 41) = (3 : Int32)) (
    zg (zin (S.1 11 0 40) 1000) (
    zif ((S.1 89 0 (zx (S.1 11 0 40))) = a1) (
      some ((1 : Int32), S)) (
      some ((0 : Int32), S)))) (
    some ((0 : Int32), S)) := zeqi d 166 12 0 [some (zr 11 0), some (zi a1)] [] S
set_option maxRecDepth 100000 in
theorem eM_fails (d : Nat) (a1 : Int32) (S : ZS) : zM_fails (d + 1) a1 S =
  some ((0 : Int32), ((zu S.1 11 0 44 (a1 + ((16 : Int32) * (S.1 11 0 40)))), S.2)) := zeqi d 167 12 0 [some (zr 11 0), some (zi a1)] [] S
set_option maxRecDepth 100000 in
theorem eM_puts (d : Nat) (a1 : Int32) (S : ZS) : zM_puts (d + 1) a1 S =
  zg (zin (S.1 11 0 54) 2000) (
  some ((zu (zu S.1 98 0 (zx (S.1 11 0 54)) a1) 11 0 54 (((zu S.1 98 0 (zx (S.1 11 0 54)) a1) 11 0 54) + (1 : Int32))), S.2)) := zeqv d 168 12 0 [some (zr 11 0), some (zi a1)] [] S
set_option maxRecDepth 100000 in
theorem eM_fact (d : Nat)  (S : ZS) : zM_fact (d + 1)  S =
  zif ((S.1 11 0 41) = (1 : Int32)) (
    zif ((lg_cmp (S.2.1 11 0 42) (523076 : Int64)) = 0) (
      some ((1 : Int32), S)) (
      zif ((lg_cmp (S.2.1 11 0 42) (168984 : Int64)) = 0) (
        some ((2 : Int32), S)) (
        zif ((lg_cmp (S.2.1 11 0 42) (2968 : Int64)) = 0) (
          some ((3 : Int32), S)) (
          zif ((lg_cmp (S.2.1 11 0 42) (173107021 : Int64)) = 0) (
            some ((4 : Int32), S)) (
            zif ((lg_cmp (S.2.1 11 0 42) (11442943 : Int64)) = 0) (
              some ((5 : Int32), S)) (
              zif ((lg_cmp (S.2.1 11 0 42) (243140 : Int64)) = 0) (
                some ((6 : Int32), S)) (
                some ((0 : Int32), S)))))))) (
    some ((0 : Int32), S)) := zeqi d 169 12 0 [some (zr 11 0)] [] S
set_option maxRecDepth 100000 in
theorem eM_isOwn (d : Nat)  (S : ZS) : zM_isOwn (d + 1)  S =
  zif ((lg_cmp (S.2.1 11 0 42) (8903 : Int64)) = 0) (
    some ((1 : Int32), S)) (
    zif ((lg_cmp (S.2.1 11 0 42) (423812 : Int64)) = 0) (
      some ((1 : Int32), S)) (
      zif ((lg_cmp (S.2.1 11 0 42) (99233 : Int64)) = 0) (
        some ((1 : Int32), S)) (
        zif ((lg_cmp (S.2.1 11 0 42) (458690 : Int64)) = 0) (
          some ((1 : Int32), S)) (
          zif ((lg_cmp (S.2.1 11 0 42) (1111 : Int64)) = 0) (
            some ((1 : Int32), S)) (
            zif ((lg_cmp (S.2.1 11 0 42) (423 : Int64)) = 0) (
              some ((1 : Int32), S)) (
              zif ((lg_cmp (S.2.1 11 0 42) (10631 : Int64)) = 0) (
                some ((1 : Int32), S)) (
                (zM_fact d S).bind (fun r1 =>
                zif (r1.1 ≤ 0) (
                  some ((0 : Int32), r1.2)) (
                  some ((1 : Int32), r1.2)))))))))) := zeqi d 170 12 0 [some (zr 11 0)] [] S
set_option maxRecDepth 100000 in
theorem eM_nameAt (d : Nat)  (S : ZS) : zM_nameAt (d + 1)  S =
  zM_nameAt_2 d (0 : Int32) S := zeqi d 171 12 0 [some (zr 11 0), none] [] S
set_option maxRecDepth 100000 in
theorem eM_nameAt_2 (d : Nat) (a1 : Int32) (S : ZS) : zM_nameAt_2 d a1 S =
  zg (zin (1 : Int32) 2) (
  zif ((S.1 96 0 (zx (1 : Int32))) ≤ a1) (
    some ((-1 : Int32), S)) (
    zg (zin a1 6) (
    zif ((lg_cmp (S.2.1 97 0 (zx a1)) (S.2.1 11 0 42)) = 0) (
      some (a1, S)) (
      zM_nameAt_2 d (a1 + (1 : Int32)) S)))) := zeqi d 171 12 2 [some (zr 11 0), some (zi a1)] [] S
set_option maxRecDepth 100000 in
theorem eM_reads (d : Nat) (a1 : Int32) (S : ZS) : zM_reads (d + 1) a1 S =
  zg (zin (0 : Int32) 6) (
  zg (zbl (0 : Int32)) (
  zg (zin a1 32) (
  zM_reads_21 d a1 (0 : Int32) (1 : Int32) ((zu (zu S.1 100 0 (zx (0 : Int32)) (0 : Int32)) 94 0 (zx a1) ((zu S.1 100 0 (zx (0 : Int32)) (0 : Int32)) 11 0 54)), S.2)))) := zeqi d 172 12 0 [some (zr 11 0), some (zi a1), none, none, none, none, none, none] [] S
set_option maxRecDepth 100000 in
theorem eM_reads_21 (d : Nat) (a1 : Int32) (a2 : Int32) (a3 : Int32) (S : ZS) : zM_reads_21 d a1 a2 a3 S =
  zif (a3 = 0) (
    (zM_isSign d (43 : Int32) S).bind (fun r1 =>
    zif (r1.1 = 0) (
      (zM_isSign d (45 : Int32) r1.2).bind (fun r2 =>
      zif (r2.1 = 0) (
        (zM_isSign d (42 : Int32) r2.2).bind (fun r3 =>
        zif (r3.1 = 0) (
          (zM_isSign d (60 : Int32) r3.2).bind (fun r4 =>
          zif (r4.1 = 0) (
            (zM_isSign d (61 : Int32) r4.2).bind (fun r5 =>
            zif (r5.1 = 0) (
              zM_reads_378 d a1 a2 a3 r5.2) (
              zM_reads_337 d a1 a2 a3 r5.2))) (
            zM_reads_337 d a1 a2 a3 r4.2))) (
          zM_reads_280 d a1 a2 r3.2))) (
        zM_reads_280 d a1 a2 r2.2))) (
      zM_reads_280 d a1 a2 r1.2))) (
    (zM_fact d S).bind (fun r6 =>
    (zM_isWord d (10631 : Int64) r6.2).bind (fun r7 =>
    (zM_isSign d (40 : Int32) r7.2).bind (fun r8 =>
    zif ((r8.2.1 11 0 41) = (1 : Int32)) (
      (zM_isOwn d r8.2).bind (fun r9 =>
      zif (r9.1 = 0) (
        zM_reads_68 d a1 a2 a3 r6.1 r7.1 r8.1 (1 : Int32) r9.2) (
        zM_reads_68 d a1 a2 a3 r6.1 r7.1 r8.1 (0 : Int32) r9.2))) (
      zM_reads_68 d a1 a2 a3 r6.1 r7.1 r8.1 (0 : Int32) r8.2))))) := zeqi d 172 12 21 [some (zr 11 0), some (zi a1), some (zi a2), some (zi a3), none, none, none, none] [] S
set_option maxRecDepth 100000 in
theorem eM_reads_68 (d : Nat) (a1 : Int32) (a2 : Int32) (a3 : Int32) (a4 : Int32) (a5 : Int32) (a6 : Int32) (s0 : Int32) (S : ZS) : zM_reads_68 d a1 a2 a3 a4 a5 a6 s0 S =
  zif (a4 = 0) (
    zif (a5 = 0) (
      zif (a6 = 0) (
        zif (s0 = 0) (
          zif ((S.1 11 0 41) = (2 : Int32)) (
            zif (s0 = 0) (
              zM_reads_122 d a1 a2 a3 a4 a5 a6 s0 S) (
              (zM_nameAt d S).bind (fun r1 =>
              zif (0 ≤ r1.1) (
                zM_reads_122 d a1 a2 a3 a4 a5 a6 s0 r1.2) (
                (zM_fails d (2 : Int32) r1.2).bind (fun r2 =>
                zgb r2.1 (some (r2.1, r2.2))))))) (
            (zM_fails d (1 : Int32) S).bind (fun r3 =>
            zgb r3.1 (some (r3.1, r3.2))))) (
          zif (s0 = 0) (
            zM_reads_122 d a1 a2 a3 a4 a5 a6 s0 S) (
            (zM_nameAt d S).bind (fun r4 =>
            zif (0 ≤ r4.1) (
              zM_reads_122 d a1 a2 a3 a4 a5 a6 s0 r4.2) (
              (zM_fails d (2 : Int32) r4.2).bind (fun r5 =>
              zgb r5.1 (some (r5.1, r5.2)))))))) (
        zif (s0 = 0) (
          zM_reads_122 d a1 a2 a3 a4 a5 a6 s0 S) (
          (zM_nameAt d S).bind (fun r6 =>
          zif (0 ≤ r6.1) (
            zM_reads_122 d a1 a2 a3 a4 a5 a6 s0 r6.2) (
            (zM_fails d (2 : Int32) r6.2).bind (fun r7 =>
            zgb r7.1 (some (r7.1, r7.2)))))))) (
      zif (s0 = 0) (
        zM_reads_122 d a1 a2 a3 a4 a5 a6 s0 S) (
        (zM_nameAt d S).bind (fun r8 =>
        zif (0 ≤ r8.1) (
          zM_reads_122 d a1 a2 a3 a4 a5 a6 s0 r8.2) (
          (zM_fails d (2 : Int32) r8.2).bind (fun r9 =>
          zgb r9.1 (some (r9.1, r9.2)))))))) (
    zif (s0 = 0) (
      zM_reads_122 d a1 a2 a3 a4 a5 a6 s0 S) (
      (zM_nameAt d S).bind (fun r10 =>
      zif (0 ≤ r10.1) (
        zM_reads_122 d a1 a2 a3 a4 a5 a6 s0 r10.2) (
        (zM_fails d (2 : Int32) r10.2).bind (fun r11 =>
        zgb r11.1 (some (r11.1, r11.2))))))) := zeqi d 172 12 68 [some (zr 11 0), some (zi a1), some (zi a2), some (zi a3), some (zi a4), some (zi a5), some (zi a6), none] [zi s0] S
set_option maxRecDepth 100000 in
theorem eM_reads_122 (d : Nat) (a1 : Int32) (a2 : Int32) (a3 : Int32) (a4 : Int32) (a5 : Int32) (a6 : Int32) (a7 : Int32) (S : ZS) : zM_reads_122 d a1 a2 a3 a4 a5 a6 a7 S =
  zif (a2 = (5 : Int32)) (
    (zM_fails d (5 : Int32) S).bind (fun r1 =>
    zgb r1.1 (some (r1.1, r1.2)))) (
    zif (a5 = 0) (
      zif (a6 = 0) (
        zif (a4 ≤ 0) (
          zif (a7 = 0) (
            (zM_puts d ((100 : Int32) + (S.1 11 0 43)) S).bind (fun r2 =>
            zM_reads_226 d a1 a2 (0 : Int32) r2)) (
            (zM_nameAt d S).bind (fun r3 =>
            (zM_puts d ((10 : Int32) + r3.1) r3.2).bind (fun r4 =>
            zM_reads_226 d a1 a2 (0 : Int32) r4)))) (
          (zM_puts d a4 S).bind (fun r5 =>
          zM_reads_226 d a1 a2 (0 : Int32) r5))) (
        zif (a5 = 0) (
          zM_reads_156 d a1 a2 a3 a5 (28 : Int32) S) (
          zM_reads_156 d a1 a2 a3 a5 (30 : Int32) S))) (
      zif (a5 = 0) (
        zM_reads_156 d a1 a2 a3 a5 (28 : Int32) S) (
        zM_reads_156 d a1 a2 a3 a5 (30 : Int32) S))) := zeqi d 172 12 122 [some (zr 11 0), some (zi a1), some (zi a2), some (zi a3), some (zi a4), some (zi a5), some (zi a6), some (zi a7)] [] S
set_option maxRecDepth 100000 in
theorem eM_reads_156 (d : Nat) (a1 : Int32) (a2 : Int32) (a3 : Int32) (a5 : Int32) (s0 : Int32) (S : ZS) : zM_reads_156 d a1 a2 a3 a5 s0 S =
  (zM_puts d s0 S).bind (fun r1 =>
  zif (a5 = 0) (
    zg (zin (a2 + (1 : Int32)) 6) (
    zg (zin (a2 + (1 : Int32)) 6) (
    zg (zbl (0 : Int32)) (
    (zM_next d ((zu (zu r1.1 99 0 (zx (a2 + (1 : Int32))) (2 : Int32)) 100 0 (zx (a2 + (1 : Int32))) (0 : Int32)), r1.2)).bind (fun r2 =>
    zM_reads_21 d a1 (a2 + (1 : Int32)) a3 r2))))) (
    zg (zin (a2 + (1 : Int32)) 6) (
    zg (zin (a2 + (1 : Int32)) 6) (
    zg (zbl (0 : Int32)) (
    (zM_next d ((zu (zu r1.1 99 0 (zx (a2 + (1 : Int32))) (1 : Int32)) 100 0 (zx (a2 + (1 : Int32))) (0 : Int32)), r1.2)).bind (fun r3 =>
    zM_reads_21 d a1 (a2 + (1 : Int32)) a3 r3)))))) := zeqi d 172 12 156 [some (zr 11 0), some (zi a1), some (zi a2), some (zi a3), none, some (zi a5), none, none] [zi s0, zr 11 0] S
set_option maxRecDepth 100000 in
theorem eM_reads_226 (d : Nat) (a1 : Int32) (a2 : Int32) (a3 : Int32) (S : ZS) : zM_reads_226 d a1 a2 a3 S =
  zif (a2 ≤ 0) (
    (zM_next d S).bind (fun r1 =>
    zM_reads_21 d a1 a2 a3 r1)) (
    zg (zin a2 6) (
    zif ((S.1 99 0 (zx a2)) = (1 : Int32)) (
      zM_reads_226 d a1 (a2 + (-1 : Int32)) a3 S) (
      (zM_next d S).bind (fun r2 =>
      zM_reads_21 d a1 a2 a3 r2)))) := zeqi d 172 12 226 [some (zr 11 0), some (zi a1), some (zi a2), some (zi a3), none, none, none, none] [] S
set_option maxRecDepth 100000 in
theorem eM_reads_280 (d : Nat) (a1 : Int32) (a2 : Int32) (S : ZS) : zM_reads_280 d a1 a2 S =
  (zM_isSign d (43 : Int32) S).bind (fun r1 =>
  zif (r1.1 = 0) (
    (zM_isSign d (45 : Int32) r1.2).bind (fun r2 =>
    zif (r2.1 = 0) (
      (zM_puts d (22 : Int32) r2.2).bind (fun r3 =>
      (zM_next d r3).bind (fun r4 =>
      zM_reads_21 d a1 a2 (1 : Int32) r4))) (
      (zM_puts d (21 : Int32) r2.2).bind (fun r5 =>
      (zM_next d r5).bind (fun r6 =>
      zM_reads_21 d a1 a2 (1 : Int32) r6))))) (
    (zM_puts d (20 : Int32) r1.2).bind (fun r7 =>
    (zM_next d r7).bind (fun r8 =>
    zM_reads_21 d a1 a2 (1 : Int32) r8)))) := zeqi d 172 12 280 [some (zr 11 0), some (zi a1), some (zi a2), none, none, none, none, none] [] S
set_option maxRecDepth 100000 in
theorem eM_reads_337 (d : Nat) (a1 : Int32) (a2 : Int32) (a3 : Int32) (S : ZS) : zM_reads_337 d a1 a2 a3 S =
  zg (zin a2 6) (
  zif ((S.1 100 0 (zx a2)) = 0) (
    (zM_isSign d (60 : Int32) S).bind (fun r1 =>
    zif (r1.1 = 0) (
      (zM_puts d (25 : Int32) r1.2).bind (fun r2 =>
      zg (zin a2 6) (
      zg (zbl (1 : Int32)) (
      (zM_next d ((zu r2.1 100 0 (zx a2) (1 : Int32)), r2.2)).bind (fun r3 =>
      zM_reads_21 d a1 a2 (1 : Int32) r3))))) (
      (zM_puts d (24 : Int32) r1.2).bind (fun r4 =>
      zg (zin a2 6) (
      zg (zbl (1 : Int32)) (
      (zM_next d ((zu r4.1 100 0 (zx a2) (1 : Int32)), r4.2)).bind (fun r5 =>
      zM_reads_21 d a1 a2 (1 : Int32) r5))))))) (
    zM_reads_378 d a1 a2 a3 S)) := zeqi d 172 12 337 [some (zr 11 0), some (zi a1), some (zi a2), some (zi a3), none, none, none, none] [] S
set_option maxRecDepth 100000 in
theorem eM_reads_378 (d : Nat) (a1 : Int32) (a2 : Int32) (a3 : Int32) (S : ZS) : zM_reads_378 d a1 a2 a3 S =
  (zM_isWord d (1111 : Int64) S).bind (fun r1 =>
  zif (r1.1 = 0) (
    (zM_isWord d (423 : Int64) r1.2).bind (fun r2 =>
    zif (r2.1 = 0) (
      (zM_isSign d (41 : Int32) r2.2).bind (fun r3 =>
      zif (r3.1 = 0) (
        zM_reads_473 d a1 a2 r3.2) (
        zif (a2 ≤ 0) (
          zM_reads_473 d a1 a2 r3.2) (
          (zM_puts d (29 : Int32) r3.2).bind (fun r4 =>
          zM_reads_453 d a1 (a2 + (-1 : Int32)) a3 r4))))) (
      zM_reads_398 d a1 a2 r2.2))) (
    zM_reads_398 d a1 a2 r1.2)) := zeqi d 172 12 378 [some (zr 11 0), some (zi a1), some (zi a2), some (zi a3), none, none, none, none] [] S
set_option maxRecDepth 100000 in
theorem eM_reads_398 (d : Nat) (a1 : Int32) (a2 : Int32) (S : ZS) : zM_reads_398 d a1 a2 S =
  (zM_isWord d (1111 : Int64) S).bind (fun r1 =>
  zif (r1.1 = 0) (
    (zM_puts d (27 : Int32) r1.2).bind (fun r2 =>
    zg (zin a2 6) (
    zg (zbl (0 : Int32)) (
    (zM_next d ((zu r2.1 100 0 (zx a2) (0 : Int32)), r2.2)).bind (fun r3 =>
    zM_reads_21 d a1 a2 (1 : Int32) r3))))) (
    (zM_puts d (26 : Int32) r1.2).bind (fun r4 =>
    zg (zin a2 6) (
    zg (zbl (0 : Int32)) (
    (zM_next d ((zu r4.1 100 0 (zx a2) (0 : Int32)), r4.2)).bind (fun r5 =>
    zM_reads_21 d a1 a2 (1 : Int32) r5)))))) := zeqi d 172 12 398 [some (zr 11 0), some (zi a1), some (zi a2), none, none, none, none, none] [] S
set_option maxRecDepth 100000 in
theorem eM_reads_453 (d : Nat) (a1 : Int32) (a2 : Int32) (a3 : Int32) (S : ZS) : zM_reads_453 d a1 a2 a3 S =
  zif (a2 ≤ 0) (
    (zM_next d S).bind (fun r1 =>
    zM_reads_21 d a1 a2 a3 r1)) (
    zg (zin a2 6) (
    zif ((S.1 99 0 (zx a2)) = (1 : Int32)) (
      zM_reads_453 d a1 (a2 + (-1 : Int32)) a3 S) (
      (zM_next d S).bind (fun r2 =>
      zM_reads_21 d a1 a2 a3 r2)))) := zeqi d 172 12 453 [some (zr 11 0), some (zi a1), some (zi a2), some (zi a3), none, none, none, none] [] S
set_option maxRecDepth 100000 in
theorem eM_reads_473 (d : Nat) (a1 : Int32) (a2 : Int32) (S : ZS) : zM_reads_473 d a1 a2 S =
  (zM_isSign d (59 : Int32) S).bind (fun r1 =>
  zif (r1.1 = 0) (
    (zM_fails d (1 : Int32) r1.2).bind (fun r2 =>
    zgb r2.1 (some (r2.1, r2.2)))) (
    zif (a2 = 0) (
      zg (zin a1 32) (
      (zM_next d ((zu r1.2.1 95 0 (zx a1) (r1.2.1 11 0 54)), r1.2.2)).bind (fun r3 =>
      some ((1 : Int32), r3)))) (
      (zM_fails d (1 : Int32) r1.2).bind (fun r4 =>
      zgb r4.1 (some (r4.1, r4.2)))))) := zeqi d 172 12 473 [some (zr 11 0), some (zi a1), some (zi a2), none, none, none, none, none] [] S
set_option maxRecDepth 100000 in
theorem eM_readsLine (d : Nat)  (S : ZS) : zM_readsLine (d + 1)  S =
  (zM_isWord d (8903 : Int64) S).bind (fun r1 =>
  zif (r1.1 = 0) (
    (zM_isWord d (423812 : Int64) r1.2).bind (fun r2 =>
    zif (r2.1 = 0) (
      (zM_fails d (1 : Int32) r2.2).bind (fun r3 =>
      zgb r3.1 (some (r3.1, r3.2)))) (
      zM_readsLine_28 d r1.1 r2.2))) (
    zM_readsLine_28 d r1.1 r1.2)) := zeqi d 173 12 0 [some (zr 11 0), none, none, none, none] [] S
set_option maxRecDepth 100000 in
theorem eM_readsLine_28 (d : Nat) (a1 : Int32) (S : ZS) : zM_readsLine_28 d a1 S =
  zg (zin (1 : Int32) 2) (
  zif ((S.1 90 0 (zx (1 : Int32))) = (16 : Int32)) (
    (zM_fails d (5 : Int32) S).bind (fun r1 =>
    zgb r1.1 (some (r1.1, r1.2)))) (
    zg (zin (1 : Int32) 2) (
    (zM_next d S).bind (fun r2 =>
    zif (a1 = 0) (
      zif ((r2.1 11 0 41) = (2 : Int32)) (
        zif ((r2.1 11 0 43) ≤ (99 : Int32)) (
          zg (zin ((16 : Int32) + (S.1 90 0 (zx (1 : Int32)))) 32) (
          (zM_next d ((zu r2.1 92 0 (zx ((16 : Int32) + (S.1 90 0 (zx (1 : Int32))))) (r2.1 11 0 43)), r2.2)).bind (fun r3 =>
          (zM_isWord d (99233 : Int64) r3).bind (fun r4 =>
          zif (r4.1 = 0) (
            (zM_fails d (1 : Int32) r4.2).bind (fun r5 =>
            zgb r5.1 (some (r5.1, r5.2)))) (
            (zM_next d r4.2).bind (fun r6 =>
            zif ((r6.1 11 0 41) = (2 : Int32)) (
              (zM_within d (r6.1 11 0 43) (30 : Int32) (9999 : Int32) r6).bind (fun r7 =>
              zif (r7.1 = 0) (
                (zM_fails d (4 : Int32) r7.2).bind (fun r8 =>
                zgb r8.1 (some (r8.1, r8.2)))) (
                zg (zin ((16 : Int32) + (S.1 90 0 (zx (1 : Int32)))) 32) (
                (zM_next d ((zu r7.2.1 93 0 (zx ((16 : Int32) + (S.1 90 0 (zx (1 : Int32))))) (r7.2.1 11 0 43)), r7.2.2)).bind (fun r9 =>
                (zM_isWord d (458690 : Int64) r9).bind (fun r10 =>
                zif (r10.1 = 0) (
                  (zM_fails d (1 : Int32) r10.2).bind (fun r11 =>
                  zgb r11.1 (some (r11.1, r11.2)))) (
                  (zM_next d r10.2).bind (fun r12 =>
                  (zM_reads d ((16 : Int32) + (S.1 90 0 (zx (1 : Int32)))) r12).bind (fun r13 =>
                  zif (r13.1 = 0) (
                    some ((0 : Int32), r13.2)) (
                    zg (zin ((16 : Int32) + (S.1 90 0 (zx (1 : Int32)))) 32) (
                    zg (zin (1 : Int32) 2) (
                    zg (zin (1 : Int32) 2) (
                    some ((1 : Int32), ((zu (zu r13.2.1 91 0 (zx ((16 : Int32) + (S.1 90 0 (zx (1 : Int32))))) (-1 : Int32)) 90 0 (zx (1 : Int32)) (((zu r13.2.1 91 0 (zx ((16 : Int32) + (S.1 90 0 (zx (1 : Int32))))) (-1 : Int32)) 90 0 (zx (1 : Int32))) + (1 : Int32))), r13.2.2))))))))))))))) (
              (zM_fails d (1 : Int32) r6).bind (fun r14 =>
              zgb r14.1 (some (r14.1, r14.2)))))))))) (
          (zM_fails d (4 : Int32) r2).bind (fun r15 =>
          zgb r15.1 (some (r15.1, r15.2))))) (
        (zM_fails d (1 : Int32) r2).bind (fun r16 =>
        zgb r16.1 (some (r16.1, r16.2))))) (
      zif ((r2.1 11 0 41) = (1 : Int32)) (
        (zM_isOwn d r2).bind (fun r17 =>
        zif (r17.1 = 0) (
          (zM_nameAt d r17.2).bind (fun r18 =>
          zif (r18.1 < 0) (
            zg (zin (1 : Int32) 2) (
            zif ((r18.2.1 96 0 (zx (1 : Int32))) = (6 : Int32)) (
              (zM_fails d (5 : Int32) r18.2).bind (fun r19 =>
              zgb r19.1 (some (r19.1, r19.2)))) (
              (zM_next d r18.2).bind (fun r20 =>
              (zM_isSign d (61 : Int32) r20).bind (fun r21 =>
              zif (r21.1 = 0) (
                (zM_fails d (1 : Int32) r21.2).bind (fun r22 =>
                zgb r22.1 (some (r22.1, r22.2)))) (
                (zM_next d r21.2).bind (fun r23 =>
                (zM_reads d ((16 : Int32) + (S.1 90 0 (zx (1 : Int32)))) r23).bind (fun r24 =>
                zif (r24.1 = 0) (
                  some ((0 : Int32), r24.2)) (
                  zg (zin (1 : Int32) 2) (
                  zg (zin (r24.2.1 96 0 (zx (1 : Int32))) 6) (
                  zg (zin (1 : Int32) 2) (
                  zg (zin ((16 : Int32) + (S.1 90 0 (zx (1 : Int32)))) 32) (
                  zg (zin (1 : Int32) 2) (
                  zg (zin (1 : Int32) 2) (
                  zg (zin (1 : Int32) 2) (
                  zg (zin (1 : Int32) 2) (
                  some ((1 : Int32), ((zu (zu (zu r24.2.1 91 0 (zx ((16 : Int32) + (S.1 90 0 (zx (1 : Int32))))) (r24.2.1 96 0 (zx (1 : Int32)))) 96 0 (zx (1 : Int32)) (((zu r24.2.1 91 0 (zx ((16 : Int32) + (S.1 90 0 (zx (1 : Int32))))) (r24.2.1 96 0 (zx (1 : Int32)))) 96 0 (zx (1 : Int32))) + (1 : Int32))) 90 0 (zx (1 : Int32)) (((zu (zu r24.2.1 91 0 (zx ((16 : Int32) + (S.1 90 0 (zx (1 : Int32))))) (r24.2.1 96 0 (zx (1 : Int32)))) 96 0 (zx (1 : Int32)) (((zu r24.2.1 91 0 (zx ((16 : Int32) + (S.1 90 0 (zx (1 : Int32))))) (r24.2.1 96 0 (zx (1 : Int32)))) 96 0 (zx (1 : Int32))) + (1 : Int32))) 90 0 (zx (1 : Int32))) + (1 : Int32))), (zu r24.2.2.1 97 0 (zx (r24.2.1 96 0 (zx (1 : Int32)))) (r18.2.2.1 11 0 42)), r24.2.2.2))))))))))))))))))) (
            (zM_fails d (3 : Int32) r18.2).bind (fun r25 =>
            zgb r25.1 (some (r25.1, r25.2)))))) (
          (zM_fails d (1 : Int32) r17.2).bind (fun r26 =>
          zgb r26.1 (some (r26.1, r26.2)))))) (
        (zM_fails d (1 : Int32) r2).bind (fun r27 =>
        zgb r27.1 (some (r27.1, r27.2))))))))) := zeqi d 173 12 28 [some (zr 11 0), some (zi a1), none, none, none] [] S
set_option maxRecDepth 100000 in
theorem eM_tariff (d : Nat)  (S : ZS) : zM_tariff (d + 1)  S =
  zg (zin (1 : Int32) 2) (
  zg (zin (1 : Int32) 2) (
  (zM_next d ((zu (zu (zu (zu (zu (zu (zu S.1 11 0 0 (0 : Int32)) 11 0 38 ((zu S.1 11 0 0 (0 : Int32)) 11 0 36)) 11 0 36 (0 : Int32)) 11 0 39 (0 : Int32)) 90 0 (zx (1 : Int32)) (0 : Int32)) 96 0 (zx (1 : Int32)) (0 : Int32)) 11 0 54 (1000 : Int32)), S.2)).bind (fun r1 =>
  zM_tariff_48 d r1))) := zeqi d 174 12 0 [some (zr 11 0), none] [] S
set_option maxRecDepth 100000 in
theorem eM_tariff_48 (d : Nat)  (S : ZS) : zM_tariff_48 d  S =
  zif ((S.1 11 0 41) = 0) (
    zg (zin (1 : Int32) 2) (
    zg (zin (0 : Int32) 2) (
    zg (zin (1 : Int32) 2) (
    zg (zin (0 : Int32) 2) (
    zM_tariff_93 d (0 : Int32) ((zu (zu S.1 90 0 (zx (0 : Int32)) (S.1 90 0 (zx (1 : Int32)))) 96 0 (zx (0 : Int32)) ((zu S.1 90 0 (zx (0 : Int32)) (S.1 90 0 (zx (1 : Int32)))) 96 0 (zx (1 : Int32)))), S.2)))))) (
    (zM_readsLine d S).bind (fun r1 =>
    zif (r1.1 = 0) (
      some ((r1.2.1 11 0 44), r1.2)) (
      zM_tariff_48 d r1.2))) := zeqi d 174 12 48 [some (zr 11 0), none] [] S
set_option maxRecDepth 100000 in
theorem eM_tariff_93 (d : Nat) (a1 : Int32) (S : ZS) : zM_tariff_93 d a1 S =
  zif ((16 : Int32) ≤ a1) (
    zM_tariff_190 d (0 : Int32) S) (
    zg (zin ((16 : Int32) + a1) 32) (
    zg (zin a1 32) (
    zg (zin ((16 : Int32) + a1) 32) (
    zg (zin a1 32) (
    zg (zin ((16 : Int32) + a1) 32) (
    zg (zin a1 32) (
    zg (zin ((16 : Int32) + a1) 32) (
    zg (zin a1 32) (
    zg (zin ((16 : Int32) + a1) 32) (
    zg (zin a1 32) (
    zM_tariff_93 d (a1 + (1 : Int32)) ((zu (zu (zu (zu (zu S.1 91 0 (zx a1) (S.1 91 0 (zx ((16 : Int32) + a1)))) 92 0 (zx a1) ((zu S.1 91 0 (zx a1) (S.1 91 0 (zx ((16 : Int32) + a1)))) 92 0 (zx ((16 : Int32) + a1)))) 93 0 (zx a1) ((zu (zu S.1 91 0 (zx a1) (S.1 91 0 (zx ((16 : Int32) + a1)))) 92 0 (zx a1) ((zu S.1 91 0 (zx a1) (S.1 91 0 (zx ((16 : Int32) + a1)))) 92 0 (zx ((16 : Int32) + a1)))) 93 0 (zx ((16 : Int32) + a1)))) 94 0 (zx a1) (((zu (zu (zu S.1 91 0 (zx a1) (S.1 91 0 (zx ((16 : Int32) + a1)))) 92 0 (zx a1) ((zu S.1 91 0 (zx a1) (S.1 91 0 (zx ((16 : Int32) + a1)))) 92 0 (zx ((16 : Int32) + a1)))) 93 0 (zx a1) ((zu (zu S.1 91 0 (zx a1) (S.1 91 0 (zx ((16 : Int32) + a1)))) 92 0 (zx a1) ((zu S.1 91 0 (zx a1) (S.1 91 0 (zx ((16 : Int32) + a1)))) 92 0 (zx ((16 : Int32) + a1)))) 93 0 (zx ((16 : Int32) + a1)))) 94 0 (zx ((16 : Int32) + a1))) - (1000 : Int32))) 95 0 (zx a1) (((zu (zu (zu (zu S.1 91 0 (zx a1) (S.1 91 0 (zx ((16 : Int32) + a1)))) 92 0 (zx a1) ((zu S.1 91 0 (zx a1) (S.1 91 0 (zx ((16 : Int32) + a1)))) 92 0 (zx ((16 : Int32) + a1)))) 93 0 (zx a1) ((zu (zu S.1 91 0 (zx a1) (S.1 91 0 (zx ((16 : Int32) + a1)))) 92 0 (zx a1) ((zu S.1 91 0 (zx a1) (S.1 91 0 (zx ((16 : Int32) + a1)))) 92 0 (zx ((16 : Int32) + a1)))) 93 0 (zx ((16 : Int32) + a1)))) 94 0 (zx a1) (((zu (zu (zu S.1 91 0 (zx a1) (S.1 91 0 (zx ((16 : Int32) + a1)))) 92 0 (zx a1) ((zu S.1 91 0 (zx a1) (S.1 91 0 (zx ((16 : Int32) + a1)))) 92 0 (zx ((16 : Int32) + a1)))) 93 0 (zx a1) ((zu (zu S.1 91 0 (zx a1) (S.1 91 0 (zx ((16 : Int32) + a1)))) 92 0 (zx a1) ((zu S.1 91 0 (zx a1) (S.1 91 0 (zx ((16 : Int32) + a1)))) 92 0 (zx ((16 : Int32) + a1)))) 93 0 (zx ((16 : Int32) + a1)))) 94 0 (zx ((16 : Int32) + a1))) - (1000 : Int32))) 95 0 (zx ((16 : Int32) + a1))) - (1000 : Int32))), S.2)))))))))))) := zeqi d 174 12 93 [some (zr 11 0), some (zi a1)] [] S
set_option maxRecDepth 100000 in
theorem eM_tariff_190 (d : Nat) (a1 : Int32) (S : ZS) : zM_tariff_190 d a1 S =
  zif ((1000 : Int32) ≤ a1) (
    some ((0 : Int32), S)) (
    zg (zin ((1000 : Int32) + a1) 2000) (
    zg (zin a1 2000) (
    zM_tariff_190 d (a1 + (1 : Int32)) ((zu S.1 98 0 (zx a1) (S.1 98 0 (zx ((1000 : Int32) + a1)))), S.2)))) := zeqi d 174 12 190 [some (zr 11 0), some (zi a1)] [] S
set_option maxRecDepth 100000 in
theorem eM_opens (d : Nat) (a1 : Int32) (S : ZS) : zM_opens (d + 1) a1 S =
  zg (zin a1 6) (
  zg (zin a1 6) (
  zg (zin a1 6) (
  zg (zin a1 6) (
  zg (zin a1 6) (
  zg (zbl (0 : Int32)) (
  some ((zu (zu (zu (zu (zu S.1 102 0 (zx a1) (0 : Int32)) 104 0 (zx a1) (0 : Int32)) 105 0 (zx a1) (0 : Int32)) 106 0 (zx a1) (20 : Int32)) 108 0 (zx a1) (0 : Int32)), S.2))))))) := zeqv d 175 12 0 [some (zr 11 0), some (zi a1)] [] S
set_option maxRecDepth 100000 in
theorem eM_sums (d : Nat) (a1 : Int32) (S : ZS) : zM_sums (d + 1) a1 S =
  zg (zin a1 6) (
  zif ((S.1 106 0 (zx a1)) = (21 : Int32)) (
    zg (zin a1 6) (
    zg (zin a1 6) (
    zg (zin a1 6) (
    zg (zin a1 6) (
    zg (zbl (0 : Int32)) (
    some ((zu (zu S.1 105 0 (zx a1) ((S.1 105 0 (zx a1)) - (S.1 107 0 (zx a1)))) 108 0 (zx a1) (0 : Int32)), S.2))))))) (
    zg (zin a1 6) (
    zg (zin a1 6) (
    zg (zin a1 6) (
    zg (zin a1 6) (
    zg (zbl (0 : Int32)) (
    some ((zu (zu S.1 105 0 (zx a1) ((S.1 105 0 (zx a1)) + (S.1 107 0 (zx a1)))) 108 0 (zx a1) (0 : Int32)), S.2)))))))) := zeqv d 176 12 0 [some (zr 11 0), some (zi a1)] [] S
set_option maxRecDepth 100000 in
theorem eM_tests (d : Nat) (a1 : Int32) (S : ZS) : zM_tests (d + 1) a1 S =
  (zM_sums d a1 S).bind (fun r1 =>
  zg (zin a1 6) (
  zg (zin a1 6) (
  zif ((r1.1 104 0 (zx a1)) = (24 : Int32)) (
    zg (zin a1 6) (
    zg (zin a1 6) (
    zif ((r1.1 105 0 (zx a1)) ≤ (r1.1 103 0 (zx a1))) (
      zM_tests_44 d a1 (0 : Int32) r1) (
      zM_tests_44 d a1 (1 : Int32) r1)))) (
    zM_tests_44 d a1 (r1.1 105 0 (zx a1)) r1)))) := zeqv d 177 12 0 [some (zr 11 0), some (zi a1), none] [] S
set_option maxRecDepth 100000 in
theorem eM_tests_44 (d : Nat) (a1 : Int32) (a2 : Int32) (S : ZS) : zM_tests_44 d a1 a2 S =
  zg (zin a1 6) (
  zif ((S.1 104 0 (zx a1)) = (25 : Int32)) (
    zg (zin a1 6) (
    zg (zin a1 6) (
    zif ((S.1 103 0 (zx a1)) = (S.1 105 0 (zx a1))) (
      zM_tests_76 d a1 (1 : Int32) S) (
      zM_tests_76 d a1 (0 : Int32) S)))) (
    zM_tests_76 d a1 a2 S)) := zeqv d 177 12 44 [some (zr 11 0), some (zi a1), some (zi a2)] [] S
set_option maxRecDepth 100000 in
theorem eM_tests_76 (d : Nat) (a1 : Int32) (a2 : Int32) (S : ZS) : zM_tests_76 d a1 a2 S =
  zg (zin a1 6) (
  zif ((S.1 102 0 (zx a1)) = (26 : Int32)) (
    zg (zin a1 6) (
    zif ((S.1 101 0 (zx a1)) = 0) (
      zM_tests_106 d a1 (0 : Int32) S) (
      zif (a2 = 0) (
        zM_tests_106 d a1 (0 : Int32) S) (
        zM_tests_106 d a1 (1 : Int32) S)))) (
    zM_tests_106 d a1 a2 S)) := zeqv d 177 12 76 [some (zr 11 0), some (zi a1), some (zi a2)] [] S
set_option maxRecDepth 100000 in
theorem eM_tests_106 (d : Nat) (a1 : Int32) (a2 : Int32) (S : ZS) : zM_tests_106 d a1 a2 S =
  zg (zin a1 6) (
  zif ((S.1 102 0 (zx a1)) = (27 : Int32)) (
    zg (zin a1 6) (
    zif ((S.1 101 0 (zx a1)) = 0) (
      zif (a2 = 0) (
        zM_tests_136 d a1 (0 : Int32) S) (
        zM_tests_136 d a1 (1 : Int32) S)) (
      zM_tests_136 d a1 (1 : Int32) S))) (
    zM_tests_136 d a1 a2 S)) := zeqv d 177 12 106 [some (zr 11 0), some (zi a1), some (zi a2)] [] S
set_option maxRecDepth 100000 in
theorem eM_tests_136 (d : Nat) (a1 : Int32) (a2 : Int32) (S : ZS) : zM_tests_136 d a1 a2 S =
  zg (zin a1 6) (
  zg (zin a1 6) (
  zg (zin a1 6) (
  zg (zin a1 6) (
  some ((zu (zu (zu (zu S.1 101 0 (zx a1) a2) 104 0 (zx a1) (0 : Int32)) 105 0 (zx a1) (0 : Int32)) 106 0 (zx a1) (20 : Int32)), S.2))))) := zeqv d 177 12 136 [some (zr 11 0), some (zi a1), some (zi a2)] [] S
set_option maxRecDepth 100000 in
theorem eM_worth (d : Nat) (a1 : Int32) (S : ZS) : zM_worth (d + 1) a1 S =
  (zM_opens d (0 : Int32) S).bind (fun r1 =>
  zg (zin a1 32) (
  zM_worth_14 d a1 (0 : Int32) (r1.1 94 0 (zx a1)) r1)) := zeqi d 178 12 0 [some (zr 11 0), some (zi a1), none, none, none, none] [] S
set_option maxRecDepth 100000 in
theorem eM_worth_14 (d : Nat) (a1 : Int32) (a2 : Int32) (a3 : Int32) (S : ZS) : zM_worth_14 d a1 a2 a3 S =
  zg (zin a1 32) (
  zif ((S.1 95 0 (zx a1)) ≤ a3) (
    (zM_tests d (0 : Int32) S).bind (fun r1 =>
    zg (zin (0 : Int32) 6) (
    some ((r1.1 101 0 (zx (0 : Int32))), r1)))) (
    zg (zin a3 2000) (
    zif ((S.1 98 0 (zx a3)) = (28 : Int32)) (
      zM_worth_46 d a1 a2 a3 (S.1 98 0 (zx a3)) S) (
      zif ((S.1 98 0 (zx a3)) = (30 : Int32)) (
        zM_worth_46 d a1 a2 a3 (S.1 98 0 (zx a3)) S) (
        zif ((S.1 98 0 (zx a3)) = (20 : Int32)) (
          (zM_sums d a2 S).bind (fun r2 =>
          zg (zin a2 6) (
          zM_worth_14 d a1 a2 (a3 + (1 : Int32)) ((zu r2.1 106 0 (zx a2) (S.1 98 0 (zx a3))), r2.2)))) (
          zif ((S.1 98 0 (zx a3)) = (21 : Int32)) (
            (zM_sums d a2 S).bind (fun r3 =>
            zg (zin a2 6) (
            zM_worth_14 d a1 a2 (a3 + (1 : Int32)) ((zu r3.1 106 0 (zx a2) (S.1 98 0 (zx a3))), r3.2)))) (
            zif ((S.1 98 0 (zx a3)) = (22 : Int32)) (
              zg (zin a2 6) (
              zg (zbl (1 : Int32)) (
              zM_worth_14 d a1 a2 (a3 + (1 : Int32)) ((zu S.1 108 0 (zx a2) (1 : Int32)), S.2)))) (
              zif ((S.1 98 0 (zx a3)) = (24 : Int32)) (
                zM_worth_136 d a1 a2 a3 (S.1 98 0 (zx a3)) S) (
                zif ((S.1 98 0 (zx a3)) = (25 : Int32)) (
                  zM_worth_136 d a1 a2 a3 (S.1 98 0 (zx a3)) S) (
                  zif ((S.1 98 0 (zx a3)) = (26 : Int32)) (
                    (zM_tests d a2 S).bind (fun r4 =>
                    zg (zin a2 6) (
                    zM_worth_14 d a1 a2 (a3 + (1 : Int32)) ((zu r4.1 102 0 (zx a2) (S.1 98 0 (zx a3))), r4.2)))) (
                    zif ((S.1 98 0 (zx a3)) = (27 : Int32)) (
                      (zM_tests d a2 S).bind (fun r5 =>
                      zg (zin a2 6) (
                      zM_worth_14 d a1 a2 (a3 + (1 : Int32)) ((zu r5.1 102 0 (zx a2) (S.1 98 0 (zx a3))), r5.2)))) (
                      zif ((S.1 98 0 (zx a3)) < (100 : Int32)) (
                        zif ((10 : Int32) ≤ (S.1 98 0 (zx a3))) (
                          zif ((20 : Int32) ≤ (S.1 98 0 (zx a3))) (
                            zif ((S.1 98 0 (zx a3)) = (29 : Int32)) (
                              (zM_tests d a2 S).bind (fun r6 =>
                              zg (zin a2 6) (
                              zM_worth_287 d a1 (a2 + (-1 : Int32)) a3 (r6.1 101 0 (zx a2)) r6))) (
                              zM_worth_287 d a1 a2 a3 (0 : Int32) S)) (
                            zg (zin ((S.1 98 0 (zx a3)) - (10 : Int32)) 6) (
                            zif ((S.1 98 0 (zx a3)) = (29 : Int32)) (
                              (zM_tests d a2 S).bind (fun r7 =>
                              zg (zin a2 6) (
                              zM_worth_287 d a1 (a2 + (-1 : Int32)) a3 (r7.1 101 0 (zx a2)) r7))) (
                              zM_worth_287 d a1 a2 a3 (S.1 111 0 (zx ((S.1 98 0 (zx a3)) - (10 : Int32)))) S)))) (
                          zg (zin (S.1 98 0 (zx a3)) 7) (
                          zif ((S.1 98 0 (zx a3)) = (29 : Int32)) (
                            (zM_tests d a2 S).bind (fun r8 =>
                            zg (zin a2 6) (
                            zM_worth_287 d a1 (a2 + (-1 : Int32)) a3 (r8.1 101 0 (zx a2)) r8))) (
                            zM_worth_287 d a1 a2 a3 (S.1 110 0 (zx (S.1 98 0 (zx a3)))) S)))) (
                        zif ((S.1 98 0 (zx a3)) = (29 : Int32)) (
                          (zM_tests d a2 S).bind (fun r9 =>
                          zg (zin a2 6) (
                          zM_worth_287 d a1 (a2 + (-1 : Int32)) a3 (r9.1 101 0 (zx a2)) r9))) (
                          zM_worth_287 d a1 a2 a3 ((S.1 98 0 (zx a3)) - (100 : Int32)) S)))))))))))))) := zeqi d 178 12 14 [some (zr 11 0), some (zi a1), some (zi a2), some (zi a3), none, none] [] S
set_option maxRecDepth 100000 in
theorem eM_worth_46 (d : Nat) (a1 : Int32) (a2 : Int32) (a3 : Int32) (a4 : Int32) (S : ZS) : zM_worth_46 d a1 a2 a3 a4 S =
  zif (a4 = (30 : Int32)) (
    zg (zin (a2 + (1 : Int32)) 6) (
    (zM_opens d (a2 + (1 : Int32)) ((zu S.1 109 0 (zx (a2 + (1 : Int32))) (1 : Int32)), S.2)).bind (fun r1 =>
    zM_worth_14 d a1 (a2 + (1 : Int32)) (a3 + (1 : Int32)) r1))) (
    zg (zin (a2 + (1 : Int32)) 6) (
    (zM_opens d (a2 + (1 : Int32)) ((zu S.1 109 0 (zx (a2 + (1 : Int32))) (0 : Int32)), S.2)).bind (fun r2 =>
    zM_worth_14 d a1 (a2 + (1 : Int32)) (a3 + (1 : Int32)) r2))) := zeqi d 178 12 46 [some (zr 11 0), some (zi a1), some (zi a2), some (zi a3), some (zi a4), none] [] S
set_option maxRecDepth 100000 in
theorem eM_worth_136 (d : Nat) (a1 : Int32) (a2 : Int32) (a3 : Int32) (a4 : Int32) (S : ZS) : zM_worth_136 d a1 a2 a3 a4 S =
  (zM_sums d a2 S).bind (fun r1 =>
  zg (zin a2 6) (
  zg (zin a2 6) (
  zg (zin a2 6) (
  zg (zin a2 6) (
  zg (zin a2 6) (
  zM_worth_14 d a1 a2 (a3 + (1 : Int32)) ((zu (zu (zu (zu r1.1 103 0 (zx a2) (r1.1 105 0 (zx a2))) 104 0 (zx a2) a4) 105 0 (zx a2) (0 : Int32)) 106 0 (zx a2) (20 : Int32)), r1.2))))))) := zeqi d 178 12 136 [some (zr 11 0), some (zi a1), some (zi a2), some (zi a3), some (zi a4), none] [] S
set_option maxRecDepth 100000 in
theorem eM_worth_287 (d : Nat) (a1 : Int32) (a2 : Int32) (a3 : Int32) (a5 : Int32) (S : ZS) : zM_worth_287 d a1 a2 a3 a5 S =
  zif (a2 ≤ 0) (
    zM_worth_319 d a1 a2 a3 a5 S) (
    zg (zin a2 6) (
    zif ((S.1 109 0 (zx a2)) = (1 : Int32)) (
      zif (a5 = 0) (
        zM_worth_287 d a1 (a2 + (-1 : Int32)) a3 (1 : Int32) S) (
        zM_worth_287 d a1 (a2 + (-1 : Int32)) a3 (0 : Int32) S)) (
      zM_worth_319 d a1 a2 a3 a5 S))) := zeqi d 178 12 287 [some (zr 11 0), some (zi a1), some (zi a2), some (zi a3), none, some (zi a5)] [] S
set_option maxRecDepth 100000 in
theorem eM_worth_319 (d : Nat) (a1 : Int32) (a2 : Int32) (a3 : Int32) (a5 : Int32) (S : ZS) : zM_worth_319 d a1 a2 a3 a5 S =
  zg (zin a2 6) (
  zif ((S.1 108 0 (zx a2)) = 0) (
    zg (zin a2 6) (
    zM_worth_14 d a1 a2 (a3 + (1 : Int32)) ((zu S.1 107 0 (zx a2) a5), S.2))) (
    zg (zin a2 6) (
    zg (zin a2 6) (
    zM_worth_14 d a1 a2 (a3 + (1 : Int32)) ((zu S.1 107 0 (zx a2) ((S.1 107 0 (zx a2)) * a5)), S.2))))) := zeqi d 178 12 319 [some (zr 11 0), some (zi a1), some (zi a2), some (zi a3), none, some (zi a5)] [] S
set_option maxRecDepth 100000 in
theorem eM_unitsOf (d : Nat) (a1 : Int32) (S : ZS) : zM_unitsOf (d + 1) a1 S =
  (zM_head d a1 S).bind (fun r1 =>
  zg (zin a1 40) (
  zM_unitsOf_16 d a1 r1.1 (0 : Int32) (r1.2.1 77 0 (zx a1)) r1.2)) := zeqi d 179 12 0 [some (zr 11 0), some (zi a1), none, none, none, none, none, none, none] [] S
set_option maxRecDepth 100000 in
theorem eM_unitsOf_16 (d : Nat) (a1 : Int32) (a2 : Int32) (a3 : Int32) (a4 : Int32) (S : ZS) : zM_unitsOf_16 d a1 a2 a3 a4 S =
  zif ((S.1 11 0 1) ≤ a4) (
    some (a3, S)) (
    zif (a2 < (100 : Int32)) (
      zM_unitsOf_49 d a1 a2 a3 a4 (0 : Int32) (1 : Int32) S) (
      zg (zin (a2 - (100 : Int32)) 16) (
      zM_unitsOf_49 d a1 a2 a3 a4 (S.1 63 0 (zx (a2 - (100 : Int32)))) (1 : Int32) S))) := zeqi d 179 12 16 [some (zr 11 0), some (zi a1), some (zi a2), some (zi a3), some (zi a4), none, none, none, none] [] S
set_option maxRecDepth 100000 in
theorem eM_unitsOf_49 (d : Nat) (a1 : Int32) (a2 : Int32) (a3 : Int32) (a4 : Int32) (s0 : Int32) (s1 : Int32) (S : ZS) : zM_unitsOf_49 d a1 a2 a3 a4 s0 s1 S =
  zg (zin s1 7) (
  zg (zin (2 : Int32) 7) (
  zg (zin (3 : Int32) 7) (
  zg (zin a1 40) (
  zg (zin (4 : Int32) 7) (
  zg (zin (5 : Int32) 7) (
  zg (zin (6 : Int32) 7) (
  zM_unitsOf_120 d a1 a2 a3 a4 (60 : Int32) (1 : Int32) (0 : Int32) ((zu (zu (zu (zu (zu (zu S.1 110 0 (zx s1) s0) 110 0 (zx (2 : Int32)) ((a4 / (3600 : Int32)) - (a4 / (3600 : Int32)) / (24 : Int32) * (24 : Int32))) 110 0 (zx (3 : Int32)) ((a4 / (86400 : Int32)) - (a4 / (86400 : Int32)) / (7 : Int32) * (7 : Int32))) 110 0 (zx (4 : Int32)) (a4 - ((zu (zu (zu S.1 110 0 (zx s1) s0) 110 0 (zx (2 : Int32)) ((a4 / (3600 : Int32)) - (a4 / (3600 : Int32)) / (24 : Int32) * (24 : Int32))) 110 0 (zx (3 : Int32)) ((a4 / (86400 : Int32)) - (a4 / (86400 : Int32)) / (7 : Int32) * (7 : Int32))) 77 0 (zx a1)))) 110 0 (zx (5 : Int32)) a3) 110 0 (zx (6 : Int32)) a1), S.2)))))))) := zeqi d 179 12 49 [some (zr 11 0), some (zi a1), some (zi a2), some (zi a3), some (zi a4), none, none, none, none] [zi s0, zi s1, zr 110 0] S
set_option maxRecDepth 100000 in
theorem eM_unitsOf_120 (d : Nat) (a1 : Int32) (a2 : Int32) (a3 : Int32) (a4 : Int32) (a5 : Int32) (a6 : Int32) (a7 : Int32) (S : ZS) : zM_unitsOf_120 d a1 a2 a3 a4 a5 a6 a7 S =
  zg (zin (0 : Int32) 2) (
  zif ((S.1 90 0 (zx (0 : Int32))) ≤ a7) (
    zM_unitsOf_16 d a1 a2 a3 (a4 + a5) S) (
    zif (a6 = 0) (
      zM_unitsOf_16 d a1 a2 a3 (a4 + a5) S) (
      (zM_worth d a7 S).bind (fun r1 =>
      zg (zin a7 32) (
      zif ((r1.2.1 91 0 (zx a7)) < 0) (
        zif (r1.1 = 0) (
          zM_unitsOf_120 d a1 a2 a3 a4 a5 a6 (a7 + (1 : Int32)) r1.2) (
          zg (zin a7 32) (
          zg (zin a7 32) (
          zM_unitsOf_120 d a1 a2 (a3 + (r1.2.1 92 0 (zx a7))) a4 (r1.2.1 93 0 (zx a7)) (0 : Int32) (a7 + (1 : Int32)) r1.2)))) (
        zg (zin a7 32) (
        zg (zin (r1.2.1 91 0 (zx a7)) 6) (
        zM_unitsOf_120 d a1 a2 a3 a4 a5 a6 (a7 + (1 : Int32)) ((zu r1.2.1 111 0 (zx (r1.2.1 91 0 (zx a7))) r1.1), r1.2.2))))))))) := zeqi d 179 12 120 [some (zr 11 0), some (zi a1), some (zi a2), some (zi a3), some (zi a4), some (zi a5), some (zi a6), some (zi a7), none] [] S
set_option maxRecDepth 100000 in
theorem eM_clears (d : Nat)  (S : ZS) : zM_clears (d + 1)  S =
  zM_clears_2 d (0 : Int32) S := zeqv d 180 12 0 [some (zr 11 0), none] [] S
set_option maxRecDepth 100000 in
theorem eM_clears_2 (d : Nat) (a1 : Int32) (S : ZS) : zM_clears_2 d a1 S =
  zif ((116 : Int32) ≤ a1) (
    zM_clears_23 d (0 : Int32) S) (
    zg (zin a1 116) (
    zg (zbl (0 : Int32)) (
    zM_clears_2 d (a1 + (1 : Int32)) ((zu S.1 80 0 (zx a1) (0 : Int32)), S.2)))) := zeqv d 180 12 2 [some (zr 11 0), some (zi a1)] [] S
set_option maxRecDepth 100000 in
theorem eM_clears_23 (d : Nat) (a1 : Int32) (S : ZS) : zM_clears_23 d a1 S =
  zif ((40 : Int32) ≤ a1) (
    some S) (
    zg (zin a1 40) (
    zg (zbl (0 : Int32)) (
    zM_clears_23 d (a1 + (1 : Int32)) ((zu S.1 81 0 (zx a1) (0 : Int32)), S.2)))) := zeqv d 180 12 23 [some (zr 11 0), some (zi a1)] [] S
set_option maxRecDepth 100000 in
theorem eM_digitOf (d : Nat) (a0 : Int32) (a1 : Int32) (a2 : Int32) (S : ZS) : zM_digitOf (d + 1) a0 a1 a2 S =
  zM_digitOf_7 d a1 a0 (a2 + (1 : Int32)) S := zeqi d 181 12 0 [some (zi a0), some (zi a1), some (zi a2), none, none] [] S
set_option maxRecDepth 100000 in
theorem eM_digitOf_7 (d : Nat) (a1 : Int32) (a3 : Int32) (a4 : Int32) (S : ZS) : zM_digitOf_7 d a1 a3 a4 S =
  zif (a1 ≤ a4) (
    some ((a3 - a3 / (10 : Int32) * (10 : Int32)), S)) (
    zM_digitOf_7 d a1 (a3 / (10 : Int32)) (a4 + (1 : Int32)) S) := zeqi d 181 12 7 [none, some (zi a1), none, some (zi a3), some (zi a4)] [] S
set_option maxRecDepth 100000 in
theorem eM_tries (d : Nat) (a1 : Int32) (S : ZS) : zM_tries (d + 1) a1 S =
  zg (zin a1 116) (
  zg (zbl (1 : Int32)) (
  zg (zin ((zu S.1 80 0 (zx a1) (1 : Int32)) 11 0 68) 8) (
  some ((zu (zu (zu S.1 80 0 (zx a1) (1 : Int32)) 112 0 (zx ((zu S.1 80 0 (zx a1) (1 : Int32)) 11 0 68)) a1) 11 0 68 (((zu (zu S.1 80 0 (zx a1) (1 : Int32)) 112 0 (zx ((zu S.1 80 0 (zx a1) (1 : Int32)) 11 0 68)) a1) 11 0 68) + (1 : Int32))), S.2)))) := zeqv d 182 12 0 [some (zr 11 0), some (zi a1)] [] S
set_option maxRecDepth 100000 in
theorem eM_meets (d : Nat) (a1 : Int32) (a2 : Int32) (a3 : Int32) (S : ZS) : zM_meets (d + 1) a1 a2 a3 S =
  (zM_isQuiet d a1 ((zu S.1 11 0 68 (0 : Int32)), S.2)).bind (fun r1 =>
  zif (r1.1 = 0) (
    some ((-1 : Int32), r1.2)) (
    zg (zin a1 40) (
    (zM_firstFree d (r1.2.1 67 0 (zx a1)) r1.2).bind (fun r2 =>
    zif (0 ≤ r2.1) (
      zg (zin a1 40) (
      zg (zbl (1 : Int32)) (
      (zM_tries d r2.1 ((zu r2.2.1 81 0 (zx a1) (1 : Int32)), r2.2.2)).bind (fun r3 =>
      zg (zin r2.1 116) (
      zif ((r3.1 66 0 (zx r2.1)) = 0) (
        zM_meets_74 d a2 a3 (0 : Int32) (0 : Int32) (0 : Int32) (0 : Int32) r3) (
        zM_meets_74 d a2 a3 (2 : Int32) (0 : Int32) (0 : Int32) (0 : Int32) r3)))))) (
      some ((7 : Int32), r2.2)))))) := zeqi d 183 12 0 [some (zr 11 0), some (zi a1), some (zi a2), some (zi a3), none, none, none, none, none, none, none, none] [] S
set_option maxRecDepth 100000 in
theorem eM_meets_74 (d : Nat) (a2 : Int32) (a3 : Int32) (a5 : Int32) (a6 : Int32) (a7 : Int32) (a8 : Int32) (S : ZS) : zM_meets_74 d a2 a3 a5 a6 a7 a8 S =
  zif (a3 ≤ a8) (
    some (a5, S)) (
    zif ((2 : Int32) ≤ a5) (
      some (a5, S)) (
      (zM_digitOf d a2 a3 a8 S).bind (fun r1 =>
      zg (zin ((r1.2.1 11 0 68) - (1 : Int32)) 8) (
      (zM_isEnding d (r1.2.1 112 0 (zx ((r1.2.1 11 0 68) - (1 : Int32)))) r1.2).bind (fun r2 =>
      zif (r2.1 = 0) (
        (zM_goesTo d (r1.2.1 112 0 (zx ((r1.2.1 11 0 68) - (1 : Int32)))) r1.1 r2.2).bind (fun r3 =>
        zif (r3.1 < 0) (
          zM_meets_138 d a2 a3 a6 a7 a8 r3.1 r3.2) (
          (zM_tries d r3.1 r3.2).bind (fun r4 =>
          zM_meets_138 d a2 a3 a6 a7 a8 r3.1 r4)))) (
        zif ((a6 + (1 : Int32)) = (1 : Int32)) (
          zM_meets_195 d a2 a3 (1 : Int32) (a6 + (1 : Int32)) r1.1 a8 r1.1 (r1.2.1 112 0 (zx ((r1.2.1 11 0 68) - (1 : Int32)))) r2.2) (
          zM_meets_195 d a2 a3 (1 : Int32) (a6 + (1 : Int32)) a7 a8 r1.1 (r1.2.1 112 0 (zx ((r1.2.1 11 0 68) - (1 : Int32)))) r2.2))))))) := zeqi d 183 12 74 [some (zr 11 0), none, some (zi a2), some (zi a3), none, some (zi a5), some (zi a6), some (zi a7), some (zi a8), none, none, none] [] S
set_option maxRecDepth 100000 in
theorem eM_meets_138 (d : Nat) (a2 : Int32) (a3 : Int32) (a6 : Int32) (a7 : Int32) (a8 : Int32) (a11 : Int32) (S : ZS) : zM_meets_138 d a2 a3 a6 a7 a8 a11 S =
  zif (a11 = (-1 : Int32)) (
    zM_meets_74 d a2 a3 (3 : Int32) a6 a7 (a8 + (1 : Int32)) S) (
    zif (a11 = (-2 : Int32)) (
      zM_meets_74 d a2 a3 (4 : Int32) a6 a7 (a8 + (1 : Int32)) S) (
      zg (zin a11 116) (
      zif ((S.1 66 0 (zx a11)) = 0) (
        zM_meets_74 d a2 a3 (1 : Int32) a6 a7 (a8 + (1 : Int32)) S) (
        zM_meets_74 d a2 a3 (2 : Int32) a6 a7 (a8 + (1 : Int32)) S)))) := zeqi d 183 12 138 [some (zr 11 0), none, some (zi a2), some (zi a3), none, none, some (zi a6), some (zi a7), some (zi a8), none, none, some (zi a11)] [] S
set_option maxRecDepth 100000 in
theorem eM_meets_195 (d : Nat) (a2 : Int32) (a3 : Int32) (a5 : Int32) (a6 : Int32) (a7 : Int32) (a8 : Int32) (a9 : Int32) (a10 : Int32) (S : ZS) : zM_meets_195 d a2 a3 a5 a6 a7 a8 a9 a10 S =
  zif (a10 < (100 : Int32)) (
    zif (a6 = (2 : Int32)) (
      (zM_lineOf d (a10 / (8 : Int32)) (((10 : Int32) * a7) + a9) S).bind (fun r1 =>
      zif (0 ≤ r1.1) (
        (zM_isQuiet d r1.1 r1.2).bind (fun r2 =>
        zif (r2.1 = 0) (
          zif ((3 : Int32) = (5 : Int32)) (
            zg (zin r1.1 40) (
            zg (zbl (1 : Int32)) (
            zM_meets_74 d a2 a3 (3 : Int32) a6 a7 (a8 + (1 : Int32)) ((zu r2.2.1 81 0 (zx r1.1) (1 : Int32)), r2.2.2)))) (
            zM_meets_74 d a2 a3 (3 : Int32) a6 a7 (a8 + (1 : Int32)) r2.2)) (
          zif ((5 : Int32) = (5 : Int32)) (
            zg (zin r1.1 40) (
            zg (zbl (1 : Int32)) (
            zM_meets_74 d a2 a3 (5 : Int32) a6 a7 (a8 + (1 : Int32)) ((zu r2.2.1 81 0 (zx r1.1) (1 : Int32)), r2.2.2)))) (
            zM_meets_74 d a2 a3 (5 : Int32) a6 a7 (a8 + (1 : Int32)) r2.2)))) (
        zif ((4 : Int32) = (5 : Int32)) (
          zg (zin r1.1 40) (
          zg (zbl (1 : Int32)) (
          zM_meets_74 d a2 a3 (4 : Int32) a6 a7 (a8 + (1 : Int32)) ((zu r1.2.1 81 0 (zx r1.1) (1 : Int32)), r1.2.2)))) (
          zM_meets_74 d a2 a3 (4 : Int32) a6 a7 (a8 + (1 : Int32)) r1.2)))) (
      zM_meets_74 d a2 a3 a5 a6 a7 (a8 + (1 : Int32)) S)) (
    zif (a6 = (3 : Int32)) (
      zM_meets_74 d a2 a3 (5 : Int32) a6 a7 (a8 + (1 : Int32)) S) (
      zM_meets_74 d a2 a3 a5 a6 a7 (a8 + (1 : Int32)) S)) := zeqi d 183 12 195 [some (zr 11 0), none, some (zi a2), some (zi a3), none, some (zi a5), some (zi a6), some (zi a7), some (zi a8), some (zi a9), some (zi a10), none] [] S
set_option maxRecDepth 100000 in
theorem eM_canTry (d : Nat) (a1 : Int32) (a2 : Int32) (a3 : Int32) (S : ZS) : zM_canTry (d + 1) a1 a2 a3 S =
  (zM_isLine d a1 S).bind (fun r1 =>
  zif (r1.1 = 0) (
    some ((0 : Int32), r1.2)) (
    zg (zin a1 40) (
    zif ((r1.2.1 70 0 (zx a1)) = 0) (
      (zM_within d a2 (0 : Int32) (99999 : Int32) r1.2).bind (fun r2 =>
      zif (r2.1 = 0) (
        some ((0 : Int32), r2.2)) (
        (zM_within d a3 (1 : Int32) (5 : Int32) r2.2).bind (fun r3 =>
        zif (r3.1 = 0) (
          some ((0 : Int32), r3.2)) (
          some ((1 : Int32), r3.2)))))) (
      some ((0 : Int32), r1.2))))) := zeqi d 184 12 0 [some (zr 11 0), some (zi a1), some (zi a2), some (zi a3)] [] S
set_option maxRecDepth 100000 in
theorem eM_would (d : Nat) (a1 : Int32) (a2 : Int32) (a3 : Int32) (S : ZS) : zM_would (d + 1) a1 a2 a3 S =
  (zM_canTry d a1 a2 a3 ((zu S.1 11 0 0 (0 : Int32)), S.2)).bind (fun r1 =>
  zif (r1.1 = 0) (
    some ((-1 : Int32), r1.2)) (
    (zM_clears d r1.2).bind (fun r2 =>
    (zM_meets d a1 a2 a3 r2).bind (fun r3 =>
    (zM_clears d r3.2).bind (fun r4 =>
    some (r3.1, r4)))))) := zeqi d 185 12 0 [some (zr 11 0), some (zi a1), some (zi a2), some (zi a3), none] [] S
set_option maxRecDepth 100000 in
theorem eM_block (d : Nat) (a1 : Int32) (a2 : Int32) (a3 : Int32) (a4 : Int32) (a5 : Int32) (a6 : Int32) (S : ZS) : zM_block (d + 1) a1 a2 a3 a4 a5 a6 S =
  (zM_canTry d a1 a2 a3 ((zu S.1 11 0 0 (0 : Int32)), S.2)).bind (fun r1 =>
  zif (r1.1 = 0) (
    some ((-1 : Int32), r1.2)) (
    (zM_canTry d a4 a5 a6 r1.2).bind (fun r2 =>
    zif (r2.1 = 0) (
      some ((-1 : Int32), r2.2)) (
      zif (a1 = a4) (
        some ((-1 : Int32), r2.2)) (
        (zM_clears d r2.2).bind (fun r3 =>
        (zM_meets d a1 a2 a3 r3).bind (fun r4 =>
        zif (r4.1 = (5 : Int32)) (
          zM_block_56 d a1 a2 a3 a4 a5 a6 (1 : Int32) r4.2) (
          zM_block_56 d a1 a2 a3 a4 a5 a6 (0 : Int32) r4.2)))))))) := zeqi d 186 12 0 [some (zr 11 0), some (zi a1), some (zi a2), some (zi a3), some (zi a4), some (zi a5), some (zi a6), none, none, none] [] S
set_option maxRecDepth 100000 in
theorem eM_block_56 (d : Nat) (a1 : Int32) (a2 : Int32) (a3 : Int32) (a4 : Int32) (a5 : Int32) (a6 : Int32) (s0 : Int32) (S : ZS) : zM_block_56 d a1 a2 a3 a4 a5 a6 s0 S =
  (zM_meets d a4 a5 a6 S).bind (fun r1 =>
  (zM_clears d r1.2).bind (fun r2 =>
  (zM_meets d a4 a5 a6 r2).bind (fun r3 =>
  zif (r3.1 = (5 : Int32)) (
    zif (s0 = 0) (
      zM_block_98 d a1 a2 a3 r1.1 (0 : Int32) r3.2) (
      zM_block_98 d a1 a2 a3 r1.1 (1 : Int32) r3.2)) (
    zM_block_98 d a1 a2 a3 r1.1 (0 : Int32) r3.2)))) := zeqi d 186 12 56 [some (zr 11 0), some (zi a1), some (zi a2), some (zi a3), some (zi a4), some (zi a5), some (zi a6), none, none, none] [zi s0] S
set_option maxRecDepth 100000 in
theorem eM_block_98 (d : Nat) (a1 : Int32) (a2 : Int32) (a3 : Int32) (a8 : Int32) (s0 : Int32) (S : ZS) : zM_block_98 d a1 a2 a3 a8 s0 S =
  (zM_meets d a1 a2 a3 S).bind (fun r1 =>
  (zM_clears d r1.2).bind (fun r2 =>
  zif (s0 = 0) (
    some ((-1 : Int32), r2)) (
    zif (a8 = (5 : Int32)) (
      zif (r1.1 = (5 : Int32)) (
        some (((0 : Int32) + (0 : Int32)), r2)) (
        some (((0 : Int32) + (2 : Int32)), r2))) (
      zif (r1.1 = (5 : Int32)) (
        some (((1 : Int32) + (0 : Int32)), r2)) (
        some (((1 : Int32) + (2 : Int32)), r2)))))) := zeqi d 186 12 98 [some (zr 11 0), some (zi a1), some (zi a2), some (zi a3), none, none, none, none, some (zi a8), none] [zi s0] S
set_option maxRecDepth 100000 in
theorem eM_mayUse (d : Nat) (a1 : Int32) (a2 : Int32) (S : ZS) : zM_mayUse (d + 1) a1 a2 S =
  zg (zin a1 116) (
  zif ((S.1 64 0 (zx a1)) < 0) (
    zM_mayUse_23 d a1 S) (
    zif (a2 < 0) (
      some ((0 : Int32), S)) (
      zg (zin a1 116) (
      zif ((S.1 64 0 (zx a1)) = a2) (
        zM_mayUse_23 d a1 S) (
        some ((0 : Int32), S)))))) := zeqi d 187 12 0 [some (zr 11 0), some (zi a1), some (zi a2)] [] S
set_option maxRecDepth 100000 in
theorem eM_mayUse_23 (d : Nat) (a1 : Int32) (S : ZS) : zM_mayUse_23 d a1 S =
  zg (zin a1 116) (
  zif ((S.1 65 0 (zx a1)) = 0) (
    zg (zin a1 116) (
    zif ((S.1 66 0 (zx a1)) = 0) (
      zg (zin a1 116) (
      zif ((S.1 80 0 (zx a1)) = 0) (
        some ((1 : Int32), S)) (
        some ((0 : Int32), S)))) (
      some ((0 : Int32), S)))) (
    some ((0 : Int32), S))) := zeqi d 187 12 23 [some (zr 11 0), some (zi a1), none] [] S
set_option maxRecDepth 100000 in
theorem eM_lays (d : Nat) (a1 : Int32) (a2 : Int32) (a3 : Int32) (a4 : Int32) (a5 : Int32) (a6 : Int32) (S : ZS) : zM_lays (d + 1) a1 a2 a3 a4 a5 a6 S =
  zg (zin a1 40) (
  zg (zin a4 12) (
  (zM_mayUse d (((8 : Int32) * ((zu S.1 11 0 72 (0 : Int32)) 67 0 (zx a1))) + ((zu S.1 11 0 72 (0 : Int32)) 113 0 (zx a4))) a5 ((zu S.1 11 0 72 (0 : Int32)), S.2)).bind (fun r1 =>
  zif (r1.1 = 0) (
    some ((0 : Int32), r1.2)) (
    (zM_takes d (((8 : Int32) * ((zu S.1 11 0 72 (0 : Int32)) 67 0 (zx a1))) + ((zu S.1 11 0 72 (0 : Int32)) 113 0 (zx a4))) r1.2).bind (fun r2 =>
    zM_lays_55 d a1 a2 a3 a4 a5 a6 (((8 : Int32) * ((zu S.1 11 0 72 (0 : Int32)) 67 0 (zx a1))) + ((zu S.1 11 0 72 (0 : Int32)) 113 0 (zx a4))) (1 : Int32) (0 : Int32) (0 : Int32) (0 : Int32) r2))))) := zeqi d 188 12 0 [some (zr 11 0), some (zi a1), some (zi a2), some (zi a3), some (zi a4), some (zi a5), some (zi a6), none, none, none, none, none, none, none, none] [] S
set_option maxRecDepth 100000 in
theorem eM_lays_55 (d : Nat) (a1 : Int32) (a2 : Int32) (a3 : Int32) (a4 : Int32) (a5 : Int32) (a6 : Int32) (a7 : Int32) (a8 : Int32) (a9 : Int32) (a10 : Int32) (a11 : Int32) (S : ZS) : zM_lays_55 d a1 a2 a3 a4 a5 a6 a7 a8 a9 a10 a11 S =
  zif (a3 ≤ a11) (
    some ((a8 - (1 : Int32)), S)) (
    (zM_digitOf d a2 a3 a11 S).bind (fun r1 =>
    (zM_isEnding d a7 r1.2).bind (fun r2 =>
    zif (r2.1 = 0) (
      zg (zin (a7 / (8 : Int32)) 12) (
      bif zz (r2.2.1 61 0 (zx (a7 / (8 : Int32)))) then none else
      zg (zin (a4 + a8) 12) (
      (zM_outletAt d (a7 / (8 : Int32)) ((a7 - a7 / (8 : Int32) * (8 : Int32)) - (a7 - a7 / (8 : Int32) * (8 : Int32)) / (r2.2.1 61 0 (zx (a7 / (8 : Int32)))) * (r2.2.1 61 0 (zx (a7 / (8 : Int32))))) r1.1 (r2.2.1 113 0 (zx (a4 + a8))) r2.2).bind (fun r3 =>
      zg (zin r3.1 960) (
      zif ((r3.2.1 62 0 (zx r3.1)) < 0) (
        some (a8, r3.2)) (
        (zM_mayUse d (r3.2.1 62 0 (zx r3.1)) a5 r3.2).bind (fun r4 =>
        zif (r4.1 = 0) (
          some (a8, r4.2)) (
          (zM_takes d (r3.2.1 62 0 (zx r3.1)) r4.2).bind (fun r5 =>
          zM_lays_55 d a1 a2 a3 a4 a5 a6 (r3.2.1 62 0 (zx r3.1)) (a8 + (1 : Int32)) a9 a10 (a11 + (1 : Int32)) r5))))))))) (
      zif ((a9 + (1 : Int32)) = (1 : Int32)) (
        zM_lays_170 d a1 a2 a3 a4 a5 a6 a7 a8 (a9 + (1 : Int32)) r1.1 a11 r1.1 r2.2) (
        zM_lays_170 d a1 a2 a3 a4 a5 a6 a7 a8 (a9 + (1 : Int32)) a10 a11 r1.1 r2.2))))) := zeqi d 188 12 55 [some (zr 11 0), some (zi a1), some (zi a2), some (zi a3), some (zi a4), some (zi a5), some (zi a6), some (zi a7), some (zi a8), some (zi a9), some (zi a10), some (zi a11), none, none, none] [] S
set_option maxRecDepth 100000 in
theorem eM_lays_170 (d : Nat) (a1 : Int32) (a2 : Int32) (a3 : Int32) (a4 : Int32) (a5 : Int32) (a6 : Int32) (a7 : Int32) (a8 : Int32) (a9 : Int32) (a10 : Int32) (a11 : Int32) (a12 : Int32) (S : ZS) : zM_lays_170 d a1 a2 a3 a4 a5 a6 a7 a8 a9 a10 a11 a12 S =
  zif (a7 < (100 : Int32)) (
    zM_lays_206 d a1 a2 a3 a4 a5 a6 a7 a8 a9 a10 a11 a12 S) (
    zif (a9 = (3 : Int32)) (
      zif (a6 = (-2 : Int32)) (
        some ((-1 : Int32), S)) (
        zif (a6 = (-3 : Int32)) (
          some ((-1 : Int32), S)) (
          some ((a8 - (1 : Int32)), S)))) (
      zM_lays_206 d a1 a2 a3 a4 a5 a6 a7 a8 a9 a10 a11 a12 S)) := zeqi d 188 12 170 [some (zr 11 0), some (zi a1), some (zi a2), some (zi a3), some (zi a4), some (zi a5), some (zi a6), some (zi a7), some (zi a8), some (zi a9), some (zi a10), some (zi a11), some (zi a12), none, none] [] S
set_option maxRecDepth 100000 in
theorem eM_lays_206 (d : Nat) (a1 : Int32) (a2 : Int32) (a3 : Int32) (a4 : Int32) (a5 : Int32) (a6 : Int32) (a7 : Int32) (a8 : Int32) (a9 : Int32) (a10 : Int32) (a11 : Int32) (a12 : Int32) (S : ZS) : zM_lays_206 d a1 a2 a3 a4 a5 a6 a7 a8 a9 a10 a11 a12 S =
  zif ((100 : Int32) ≤ a7) (
    zM_lays_55 d a1 a2 a3 a4 a5 a6 a7 a8 a9 a10 (a11 + (1 : Int32)) S) (
    zif (a9 = (2 : Int32)) (
      (zM_lineOf d (a7 / (8 : Int32)) (((10 : Int32) * a10) + a12) S).bind (fun r1 =>
      zif (r1.1 < 0) (
        zif ((0 : Int32) = 0) (
          some ((a8 - (1 : Int32)), r1.2)) (
          some ((-1 : Int32), r1.2))) (
        zif (a6 = (-2 : Int32)) (
          zg (zin r1.1 40) (
          zif ((r1.2.1 70 0 (zx r1.1)) = 0) (
            zif (r1.1 = a1) (
              zif ((0 : Int32) = 0) (
                some ((a8 - (1 : Int32)), r1.2)) (
                some ((-1 : Int32), r1.2))) (
              zif ((1 : Int32) = 0) (
                some ((a8 - (1 : Int32)), r1.2)) (
                some ((-1 : Int32), r1.2)))) (
            zif ((0 : Int32) = 0) (
              some ((a8 - (1 : Int32)), r1.2)) (
              some ((-1 : Int32), r1.2))))) (
          zif (a6 = r1.1) (
            zif ((1 : Int32) = 0) (
              some ((a8 - (1 : Int32)), r1.2)) (
              some ((-1 : Int32), r1.2))) (
            zif ((0 : Int32) = 0) (
              some ((a8 - (1 : Int32)), r1.2)) (
              some ((-1 : Int32), r1.2))))))) (
      zM_lays_55 d a1 a2 a3 a4 a5 a6 a7 a8 a9 a10 (a11 + (1 : Int32)) S)) := zeqi d 188 12 206 [some (zr 11 0), some (zi a1), some (zi a2), some (zi a3), some (zi a4), some (zi a5), some (zi a6), some (zi a7), some (zi a8), some (zi a9), some (zi a10), some (zi a11), some (zi a12), none, none] [] S
set_option maxRecDepth 100000 in
theorem eM_takes (d : Nat) (a1 : Int32) (S : ZS) : zM_takes (d + 1) a1 S =
  zg (zin a1 116) (
  zg (zbl (1 : Int32)) (
  zg (zin ((zu S.1 80 0 (zx a1) (1 : Int32)) 11 0 72) 16) (
  some ((zu (zu (zu S.1 80 0 (zx a1) (1 : Int32)) 114 0 (zx ((zu S.1 80 0 (zx a1) (1 : Int32)) 11 0 72)) a1) 11 0 72 (((zu (zu S.1 80 0 (zx a1) (1 : Int32)) 114 0 (zx ((zu S.1 80 0 (zx a1) (1 : Int32)) 11 0 72)) a1) 11 0 72) + (1 : Int32))), S.2)))) := zeqv d 189 12 0 [some (zr 11 0), some (zi a1)] [] S
set_option maxRecDepth 100000 in
theorem eM_gives (d : Nat)  (S : ZS) : zM_gives (d + 1)  S =
  zM_gives_2 d (0 : Int32) S := zeqv d 190 12 0 [some (zr 11 0), none] [] S
set_option maxRecDepth 100000 in
theorem eM_gives_2 (d : Nat) (a1 : Int32) (S : ZS) : zM_gives_2 d a1 S =
  zif ((S.1 11 0 72) ≤ a1) (
    some S) (
    zg (zin a1 16) (
    zg (zin (S.1 114 0 (zx a1)) 116) (
    zg (zbl (0 : Int32)) (
    zM_gives_2 d (a1 + (1 : Int32)) ((zu S.1 80 0 (zx (S.1 114 0 (zx a1))) (0 : Int32)), S.2))))) := zeqv d 190 12 2 [some (zr 11 0), some (zi a1)] [] S
set_option maxRecDepth 100000 in
theorem eM_counts (d : Nat) (a1 : Int32) (a2 : Int32) (a3 : Int32) (S : ZS) : zM_counts (d + 1) a1 a2 a3 S =
  zM_counts_5 d a1 a2 a3 (a3 + (1 : Int32)) S := zeqi d 191 12 0 [some (zr 11 0), some (zi a1), some (zi a2), some (zi a3), none] [] S
set_option maxRecDepth 100000 in
theorem eM_counts_5 (d : Nat) (a1 : Int32) (a2 : Int32) (a3 : Int32) (a4 : Int32) (S : ZS) : zM_counts_5 d a1 a2 a3 a4 S =
  zif ((6 : Int32) ≤ a4) (
    zM_counts_31 d a1 a2 a3 S) (
    zg (zin (a2 + a4) 12) (
    zM_counts_5 d a1 a2 a3 (a4 + (1 : Int32)) ((zu S.1 113 0 (zx (a2 + a4)) (0 : Int32)), S.2))) := zeqi d 191 12 5 [some (zr 11 0), some (zi a1), some (zi a2), some (zi a3), some (zi a4)] [] S
set_option maxRecDepth 100000 in
theorem eM_counts_31 (d : Nat) (a1 : Int32) (a2 : Int32) (a4 : Int32) (S : ZS) : zM_counts_31 d a1 a2 a4 S =
  zif (a4 < 0) (
    some ((0 : Int32), S)) (
    zg (zin (a2 + a4) 12) (
    zg (zin (a2 + a4) 12) (
    zg (zin (a2 + a4) 12) (
    zif (a4 = 0) (
      zg (zin a1 40) (
      zg (zin ((zu S.1 113 0 (zx (a2 + a4)) ((S.1 113 0 (zx (a2 + a4))) + (1 : Int32))) 67 0 (zx a1)) 12) (
      zif (((zu S.1 113 0 (zx (a2 + a4)) ((S.1 113 0 (zx (a2 + a4))) + (1 : Int32))) 60 0 (zx ((zu S.1 113 0 (zx (a2 + a4)) ((S.1 113 0 (zx (a2 + a4))) + (1 : Int32))) 67 0 (zx a1)))) ≤ ((zu S.1 113 0 (zx (a2 + a4)) ((S.1 113 0 (zx (a2 + a4))) + (1 : Int32))) 113 0 (zx (a2 + a4)))) (
        zg (zin (a2 + a4) 12) (
        zM_counts_31 d a1 a2 (a4 + (-1 : Int32)) ((zu (zu S.1 113 0 (zx (a2 + a4)) ((S.1 113 0 (zx (a2 + a4))) + (1 : Int32))) 113 0 (zx (a2 + a4)) (0 : Int32)), S.2))) (
        some ((1 : Int32), ((zu S.1 113 0 (zx (a2 + a4)) ((S.1 113 0 (zx (a2 + a4))) + (1 : Int32))), S.2)))))) (
      zif ((4 : Int32) ≤ ((zu S.1 113 0 (zx (a2 + a4)) ((S.1 113 0 (zx (a2 + a4))) + (1 : Int32))) 113 0 (zx (a2 + a4)))) (
        zg (zin (a2 + a4) 12) (
        zM_counts_31 d a1 a2 (a4 + (-1 : Int32)) ((zu (zu S.1 113 0 (zx (a2 + a4)) ((S.1 113 0 (zx (a2 + a4))) + (1 : Int32))) 113 0 (zx (a2 + a4)) (0 : Int32)), S.2))) (
        some ((1 : Int32), ((zu S.1 113 0 (zx (a2 + a4)) ((S.1 113 0 (zx (a2 + a4))) + (1 : Int32))), S.2)))))))) := zeqi d 191 12 31 [some (zr 11 0), some (zi a1), some (zi a2), none, some (zi a4)] [] S
set_option maxRecDepth 100000 in
theorem eM_canLay (d : Nat) (a1 : Int32) (a2 : Int32) (a3 : Int32) (a4 : Int32) (S : ZS) : zM_canLay (d + 1) a1 a2 a3 a4 S =
  zM_canLay_3 d a1 a2 a3 a4 (0 : Int32) S := zeqi d 192 12 0 [some (zr 11 0), some (zi a1), some (zi a2), some (zi a3), some (zi a4), none, none] [] S
set_option maxRecDepth 100000 in
theorem eM_canLay_3 (d : Nat) (a1 : Int32) (a2 : Int32) (a3 : Int32) (a4 : Int32) (a5 : Int32) (S : ZS) : zM_canLay_3 d a1 a2 a3 a4 a5 S =
  zif ((6 : Int32) ≤ a5) (
    zM_canLay_27 d a1 a2 a3 a4 (1 : Int32) S) (
    zg (zin a5 12) (
    zM_canLay_3 d a1 a2 a3 a4 (a5 + (1 : Int32)) ((zu S.1 113 0 (zx a5) (0 : Int32)), S.2))) := zeqi d 192 12 3 [some (zr 11 0), some (zi a1), some (zi a2), some (zi a3), some (zi a4), some (zi a5), none] [] S
set_option maxRecDepth 100000 in
theorem eM_canLay_27 (d : Nat) (a1 : Int32) (a2 : Int32) (a3 : Int32) (a4 : Int32) (a5 : Int32) (S : ZS) : zM_canLay_27 d a1 a2 a3 a4 a5 S =
  zif (a5 = 0) (
    some ((0 : Int32), S)) (
    (zM_lays d a1 a2 a3 (0 : Int32) a4 (-2 : Int32) S).bind (fun r1 =>
    (zM_gives d r1.2).bind (fun r2 =>
    zif (0 ≤ r1.1) (
      (zM_counts d a1 (0 : Int32) r1.1 r2).bind (fun r3 =>
      zM_canLay_27 d a1 a2 a3 a4 r3.1 r3.2)) (
      some ((1 : Int32), r2))))) := zeqi d 192 12 27 [some (zr 11 0), some (zi a1), some (zi a2), some (zi a3), some (zi a4), some (zi a5), none] [] S
set_option maxRecDepth 100000 in
theorem eM_canMove (d : Nat) (a1 : Int32) (a2 : Int32) (a3 : Int32) (a4 : Int32) (S : ZS) : zM_canMove (d + 1) a1 a2 a3 a4 S =
  zM_canMove_6 d a1 a2 a3 a4 (0 : Int32) (0 : Int32) S := zeqi d 193 12 0 [some (zr 11 0), some (zi a1), some (zi a2), some (zi a3), some (zi a4), none, none, none, none, none, none] [] S
set_option maxRecDepth 100000 in
theorem eM_canMove_6 (d : Nat) (a1 : Int32) (a2 : Int32) (a3 : Int32) (a4 : Int32) (a5 : Int32) (a6 : Int32) (S : ZS) : zM_canMove_6 d a1 a2 a3 a4 a5 a6 S =
  zg (zin a1 40) (
  zif ((S.1 73 0 (zx a1)) ≤ a6) (
    zM_canMove_45 d a1 a2 a3 a4 a5 (0 : Int32) S) (
    zg (zin (((5 : Int32) * a1) + a6) 200) (
    zM_canMove_6 d a1 a2 a3 a4 (((10 : Int32) * a5) + (S.1 74 0 (zx (((5 : Int32) * a1) + a6)))) (a6 + (1 : Int32)) S))) := zeqi d 193 12 6 [some (zr 11 0), some (zi a1), some (zi a2), some (zi a3), some (zi a4), some (zi a5), some (zi a6), none, none, none, none] [] S
set_option maxRecDepth 100000 in
theorem eM_canMove_45 (d : Nat) (a1 : Int32) (a2 : Int32) (a3 : Int32) (a4 : Int32) (a5 : Int32) (a6 : Int32) (S : ZS) : zM_canMove_45 d a1 a2 a3 a4 a5 a6 S =
  zif ((6 : Int32) ≤ a6) (
    zM_canMove_72 d a1 a2 a3 a4 a5 (1 : Int32) S) (
    zg (zin ((6 : Int32) + a6) 12) (
    zM_canMove_45 d a1 a2 a3 a4 a5 (a6 + (1 : Int32)) ((zu S.1 113 0 (zx ((6 : Int32) + a6)) (0 : Int32)), S.2))) := zeqi d 193 12 45 [some (zr 11 0), some (zi a1), some (zi a2), some (zi a3), some (zi a4), some (zi a5), some (zi a6), none, none, none, none] [] S
set_option maxRecDepth 100000 in
theorem eM_canMove_72 (d : Nat) (a1 : Int32) (a2 : Int32) (a3 : Int32) (a4 : Int32) (a5 : Int32) (a6 : Int32) (S : ZS) : zM_canMove_72 d a1 a2 a3 a4 a5 a6 S =
  zif (a6 = 0) (
    some ((0 : Int32), S)) (
    zg (zin a1 40) (
    zg (zin a1 40) (
    zif (0 ≤ (S.1 72 0 (zx a1))) (
      zg (zin a1 40) (
      (zM_lays d a1 a5 (S.1 73 0 (zx a1)) (6 : Int32) a1 (S.1 72 0 (zx a1)) S).bind (fun r1 =>
      zM_canMove_124 d a1 a2 a3 a4 a5 r1.1 (r1.2.1 11 0 72) (0 : Int32) r1.2))) (
      (zM_lays d a1 a5 (S.1 73 0 (zx a1)) (6 : Int32) a1 (-3 : Int32) S).bind (fun r2 =>
      zM_canMove_124 d a1 a2 a3 a4 a5 r2.1 (r2.2.1 11 0 72) (0 : Int32) r2.2))))) := zeqi d 193 12 72 [some (zr 11 0), some (zi a1), some (zi a2), some (zi a3), some (zi a4), some (zi a5), some (zi a6), none, none, none, none] [] S
set_option maxRecDepth 100000 in
theorem eM_canMove_124 (d : Nat) (a1 : Int32) (a2 : Int32) (a3 : Int32) (a4 : Int32) (a5 : Int32) (a7 : Int32) (a8 : Int32) (a9 : Int32) (S : ZS) : zM_canMove_124 d a1 a2 a3 a4 a5 a7 a8 a9 S =
  zif (a8 ≤ a9) (
    zif (0 ≤ a7) (
      zM_canMove_178 d a1 a2 a3 a4 a5 a7 a8 (0 : Int32) (0 : Int32) S) (
      (zM_canLay d a2 a3 a4 a1 S).bind (fun r1 =>
      zif (r1.1 = 0) (
        zM_canMove_178 d a1 a2 a3 a4 a5 a7 a8 (0 : Int32) (0 : Int32) r1.2) (
        zM_canMove_178 d a1 a2 a3 a4 a5 a7 a8 (1 : Int32) (0 : Int32) r1.2)))) (
    zg (zin a9 16) (
    zg (zin a9 16) (
    zM_canMove_124 d a1 a2 a3 a4 a5 a7 a8 (a9 + (1 : Int32)) ((zu S.1 115 0 (zx a9) (S.1 114 0 (zx a9))), S.2)))) := zeqi d 193 12 124 [some (zr 11 0), some (zi a1), some (zi a2), some (zi a3), some (zi a4), some (zi a5), none, some (zi a7), some (zi a8), some (zi a9), none] [] S
set_option maxRecDepth 100000 in
theorem eM_canMove_178 (d : Nat) (a1 : Int32) (a2 : Int32) (a3 : Int32) (a4 : Int32) (a5 : Int32) (a7 : Int32) (a8 : Int32) (a9 : Int32) (a10 : Int32) (S : ZS) : zM_canMove_178 d a1 a2 a3 a4 a5 a7 a8 a9 a10 S =
  zif (a8 ≤ a10) (
    zif (a9 = 0) (
      zif (0 ≤ a7) (
        (zM_counts d a1 (6 : Int32) a7 S).bind (fun r1 =>
        zM_canMove_72 d a1 a2 a3 a4 a5 r1.1 r1.2)) (
        (zM_counts d a1 (6 : Int32) (a8 - (1 : Int32)) S).bind (fun r2 =>
        zM_canMove_72 d a1 a2 a3 a4 a5 r2.1 r2.2))) (
      some ((1 : Int32), S))) (
    zg (zin a10 16) (
    zg (zin (S.1 115 0 (zx a10)) 116) (
    zg (zbl (0 : Int32)) (
    zM_canMove_178 d a1 a2 a3 a4 a5 a7 a8 a9 (a10 + (1 : Int32)) ((zu S.1 80 0 (zx (S.1 115 0 (zx a10))) (0 : Int32)), S.2))))) := zeqi d 193 12 178 [some (zr 11 0), some (zi a1), some (zi a2), some (zi a3), some (zi a4), some (zi a5), none, some (zi a7), some (zi a8), some (zi a9), some (zi a10)] [] S
set_option maxRecDepth 100000 in
theorem eM_laid (d : Nat) (a1 : Int32) (a2 : Int32) (a3 : Int32) (a4 : Int32) (S : ZS) : zM_laid (d + 1) a1 a2 a3 a4 S =
  (zM_canTry d a1 a2 a3 ((zu S.1 11 0 0 (0 : Int32)), S.2)).bind (fun r1 =>
  zif (r1.1 = 0) (
    some ((-1 : Int32), r1.2)) (
    (zM_within d a4 (0 : Int32) (1 : Int32) r1.2).bind (fun r2 =>
    zif (r2.1 = 0) (
      some ((-1 : Int32), r2.2)) (
      (zM_clears d r2.2).bind (fun r3 =>
      (zM_canLay d a1 a2 a3 (-1 : Int32) r3).bind (fun r4 =>
      zif (r4.1 = 0) (
        zM_laid_56 d a1 a2 a3 a4 (0 : Int32) r4.2) (
        zif (a4 = 0) (
          some ((0 : Int32), r4.2)) (
          some ((-1 : Int32), r4.2))))))))) := zeqi d 194 12 0 [some (zr 11 0), some (zi a1), some (zi a2), some (zi a3), some (zi a4), none] [] S
set_option maxRecDepth 100000 in
theorem eM_laid_56 (d : Nat) (a1 : Int32) (a2 : Int32) (a3 : Int32) (a4 : Int32) (a5 : Int32) (S : ZS) : zM_laid_56 d a1 a2 a3 a4 a5 S =
  zif ((S.1 11 0 11) ≤ a5) (
    some ((-1 : Int32), S)) (
    zg (zin a5 40) (
    zif ((S.1 70 0 (zx a5)) = (1 : Int32)) (
      zg (zin a5 40) (
      zif ((S.1 71 0 (zx a5)) < (5 : Int32)) (
        zM_laid_56 d a1 a2 a3 a4 (a5 + (1 : Int32)) S) (
        zg (zin a5 40) (
        zif ((5 : Int32) < (S.1 73 0 (zx a5))) (
          zM_laid_56 d a1 a2 a3 a4 (a5 + (1 : Int32)) S) (
          (zM_canMove d a5 a1 a2 a3 S).bind (fun r1 =>
          zif (r1.1 = 0) (
            zM_laid_56 d a1 a2 a3 a4 (a5 + (1 : Int32)) r1.2) (
            zif (a4 = 0) (
              some ((1 : Int32), r1.2)) (
              some (a5, r1.2))))))))) (
      zM_laid_56 d a1 a2 a3 a4 (a5 + (1 : Int32)) S))) := zeqi d 194 12 56 [some (zr 11 0), some (zi a1), some (zi a2), some (zi a3), some (zi a4), some (zi a5)] [] S
set_option maxRecDepth 100000 in
theorem eM_ways (d : Nat) (a0 : Int32) (a1 : Int32) (S : ZS) : zM_ways (d + 1) a0 a1 S =
  zif (a1 < 0) (
    some ((0 : Int32), S)) (
    zif (a1 ≤ a0) (
      zM_ways_15 d a0 a1 (1 : Int32) (1 : Int32) S) (
      some ((0 : Int32), S))) := zeqi d 195 12 0 [some (zi a0), some (zi a1), none, none] [] S
set_option maxRecDepth 100000 in
theorem eM_ways_15 (d : Nat) (a0 : Int32) (a1 : Int32) (a2 : Int32) (a3 : Int32) (S : ZS) : zM_ways_15 d a0 a1 a2 a3 S =
  zif (a1 < a3) (
    some (a2, S)) (
    bif zz a3 then none else
    zM_ways_15 d a0 a1 ((a2 * ((a0 - a1) + a3)) / a3) (a3 + (1 : Int32)) S) := zeqi d 195 12 15 [some (zi a0), some (zi a1), some (zi a2), some (zi a3)] [] S
set_option maxRecDepth 100000 in
theorem eM_losing (d : Nat) (a1 : Int32) (a2 : Int32) (a3 : Int32) (a4 : Int32) (S : ZS) : zM_losing (d + 1) a1 a2 a3 a4 S =
  zM_losing_13 d a1 a2 a3 (0 : Int32) (0 : Int32) a4 (0 : Int32) S := zeqi d 196 12 0 [some (zr 11 0), some (zi a1), some (zi a2), some (zi a3), some (zi a4), none, none, none, none, none, none, none, none, none] [] S
set_option maxRecDepth 100000 in
theorem eM_losing_13 (d : Nat) (a1 : Int32) (a2 : Int32) (a3 : Int32) (a5 : Int32) (a6 : Int32) (a7 : Int32) (a8 : Int32) (S : ZS) : zM_losing_13 d a1 a2 a3 a5 a6 a7 a8 S =
  zif ((232 : Int32) ≤ a8) (
    zM_losing_38 d a1 a2 a3 a5 a6 a7 (0 : Int32) S) (
    zg (zin a8 232) (
    zg (zbl (0 : Int32)) (
    zM_losing_13 d a1 a2 a3 a5 a6 a7 (a8 + (1 : Int32)) ((zu S.1 116 0 (zx a8) (0 : Int32)), S.2)))) := zeqi d 196 12 13 [some (zr 11 0), some (zi a1), some (zi a2), some (zi a3), none, some (zi a5), some (zi a6), some (zi a7), some (zi a8), none, none, none, none, none] [] S
set_option maxRecDepth 100000 in
theorem eM_losing_38 (d : Nat) (a1 : Int32) (a2 : Int32) (a3 : Int32) (a5 : Int32) (a6 : Int32) (a7 : Int32) (a8 : Int32) (S : ZS) : zM_losing_38 d a1 a2 a3 a5 a6 a7 a8 S =
  zg (zin a1 12) (
  zif ((S.1 61 0 (zx a1)) ≤ a8) (
    zM_losing_118 d a1 a3 a5 a6 a7 (0 : Int32) S) (
    zM_losing_52 d a1 a2 a3 a5 a6 a7 a8 (0 : Int32) S)) := zeqi d 196 12 38 [some (zr 11 0), some (zi a1), some (zi a2), some (zi a3), none, some (zi a5), some (zi a6), some (zi a7), some (zi a8), none, none, none, none, none] [] S
set_option maxRecDepth 100000 in
theorem eM_losing_52 (d : Nat) (a1 : Int32) (a2 : Int32) (a3 : Int32) (a5 : Int32) (a6 : Int32) (a7 : Int32) (a8 : Int32) (a9 : Int32) (S : ZS) : zM_losing_52 d a1 a2 a3 a5 a6 a7 a8 a9 S =
  zif ((4 : Int32) ≤ a9) (
    zM_losing_38 d a1 a2 a3 a5 a6 a7 (a8 + (1 : Int32)) S) (
    (zM_outletAt d a1 a8 a2 a9 S).bind (fun r1 =>
    zg (zin r1.1 960) (
    zif ((r1.2.1 62 0 (zx r1.1)) < 0) (
      zM_losing_52 d a1 a2 a3 a5 a6 a7 a8 (a9 + (1 : Int32)) r1.2) (
      zg (zin (r1.2.1 62 0 (zx r1.1)) 116) (
      zif ((r1.2.1 65 0 (zx (r1.2.1 62 0 (zx r1.1)))) = 0) (
        zg (zin (((116 : Int32) * a8) + (r1.2.1 62 0 (zx r1.1))) 232) (
        zg (zbl (1 : Int32)) (
        zM_losing_52 d a1 a2 a3 a5 a6 a7 a8 (a9 + (1 : Int32)) ((zu r1.2.1 116 0 (zx (((116 : Int32) * a8) + (r1.2.1 62 0 (zx r1.1)))) (1 : Int32)), r1.2.2)))) (
        zM_losing_52 d a1 a2 a3 a5 a6 a7 a8 (a9 + (1 : Int32)) r1.2)))))) := zeqi d 196 12 52 [some (zr 11 0), some (zi a1), some (zi a2), some (zi a3), none, some (zi a5), some (zi a6), some (zi a7), some (zi a8), some (zi a9), none, none, none, none] [] S
set_option maxRecDepth 100000 in
theorem eM_losing_118 (d : Nat) (a1 : Int32) (a3 : Int32) (a5 : Int32) (a6 : Int32) (a7 : Int32) (a8 : Int32) (S : ZS) : zM_losing_118 d a1 a3 a5 a6 a7 a8 S =
  zif ((116 : Int32) ≤ a8) (
    zg (zin a1 12) (
    zif ((S.1 61 0 (zx a1)) = (2 : Int32)) (
      zg (zin a1 12) (
      zg (zin a1 12) (
      zM_losing_233 d a3 a5 a6 a7 ((S.1 60 0 (zx a1)) / (2 : Int32)) ((S.1 60 0 (zx a1)) - ((S.1 60 0 (zx a1)) / (2 : Int32))) (0 : Int32) (0 : Int32) S))) (
      zg (zin a1 12) (
      zM_losing_233 d a3 a5 a6 a7 (0 : Int32) ((S.1 60 0 (zx a1)) - (0 : Int32)) (0 : Int32) (0 : Int32) S)))) (
    zg (zin a8 232) (
    zif ((S.1 116 0 (zx a8)) = 0) (
      zM_losing_154 d a1 a3 a5 a6 a7 a8 S) (
      zg (zin ((116 : Int32) + a8) 232) (
      zif ((S.1 116 0 (zx ((116 : Int32) + a8))) = 0) (
        zM_losing_154 d a1 a3 a5 a6 a7 a8 S) (
        zM_losing_118 d a1 a3 a5 a6 (a7 + (1 : Int32)) (a8 + (1 : Int32)) S))))) := zeqi d 196 12 118 [some (zr 11 0), some (zi a1), none, some (zi a3), none, some (zi a5), some (zi a6), some (zi a7), some (zi a8), none, none, none, none, none] [] S
set_option maxRecDepth 100000 in
theorem eM_losing_154 (d : Nat) (a1 : Int32) (a3 : Int32) (a5 : Int32) (a6 : Int32) (a7 : Int32) (a8 : Int32) (S : ZS) : zM_losing_154 d a1 a3 a5 a6 a7 a8 S =
  zg (zin a8 232) (
  zif ((S.1 116 0 (zx a8)) = 0) (
    zg (zin ((116 : Int32) + a8) 232) (
    zif ((S.1 116 0 (zx ((116 : Int32) + a8))) = 0) (
      zM_losing_118 d a1 a3 a5 a6 a7 (a8 + (1 : Int32)) S) (
      zM_losing_118 d a1 a3 a5 (a6 + (1 : Int32)) a7 (a8 + (1 : Int32)) S))) (
    zM_losing_118 d a1 a3 (a5 + (1 : Int32)) a6 a7 (a8 + (1 : Int32)) S)) := zeqi d 196 12 154 [some (zr 11 0), some (zi a1), none, some (zi a3), none, some (zi a5), some (zi a6), some (zi a7), some (zi a8), none, none, none, none, none] [] S
set_option maxRecDepth 100000 in
theorem eM_losing_233 (d : Nat) (a3 : Int32) (a5 : Int32) (a6 : Int32) (a7 : Int32) (a8 : Int32) (a9 : Int32) (a10 : Int32) (a11 : Int32) (S : ZS) : zM_losing_233 d a3 a5 a6 a7 a8 a9 a10 a11 S =
  zif (a3 < a11) (
    some (a10, S)) (
    (zci (zcall d) 1000 [zi (0 : Int32), zi (a11 - a5)] S).bind (fun r1 =>
    (zci (zcall d) 1000 [zi (0 : Int32), zi ((a3 - a11) - a6)] r1.2).bind (fun r2 =>
    zif ((r1.1 + r2.1) ≤ a7) (
      zM_losing_233 d a3 a5 a6 a7 a8 a9 a10 (a11 + (1 : Int32)) r2.2) (
      (zM_ways d a9 a11 r2.2).bind (fun r3 =>
      (zM_ways d a8 (a3 - a11) r3.2).bind (fun r4 =>
      zM_losing_233 d a3 a5 a6 a7 a8 a9 (a10 + (r3.1 * r4.1)) (a11 + (1 : Int32)) r4.2)))))) := zeqi d 196 12 233 [none, none, none, some (zi a3), none, some (zi a5), some (zi a6), some (zi a7), some (zi a8), some (zi a9), some (zi a10), some (zi a11), none, none] [] S
set_option maxRecDepth 100000 in
theorem eM_canLose (d : Nat) (a1 : Int32) (a2 : Int32) (a3 : Int32) (S : ZS) : zM_canLose (d + 1) a1 a2 a3 S =
  (zM_isSelectors d a1 S).bind (fun r1 =>
  zif (r1.1 = 0) (
    some ((0 : Int32), r1.2)) (
    (zM_within d a2 (0 : Int32) (9 : Int32) r1.2).bind (fun r2 =>
    zif (r2.1 = 0) (
      some ((0 : Int32), r2.2)) (
      zg (zin a1 12) (
      (zM_within d a3 (1 : Int32) (r2.2.1 60 0 (zx a1)) r2.2).bind (fun r3 =>
      zif (r3.1 = 0) (
        some ((0 : Int32), r3.2)) (
        some ((1 : Int32), r3.2)))))))) := zeqi d 197 12 0 [some (zr 11 0), some (zi a1), some (zi a2), some (zi a3)] [] S
set_option maxRecDepth 100000 in
theorem eM_lost (d : Nat) (a1 : Int32) (a2 : Int32) (a3 : Int32) (S : ZS) : zM_lost (d + 1) a1 a2 a3 S =
  (zM_canLose d a1 a2 a3 ((zu S.1 11 0 0 (0 : Int32)), S.2)).bind (fun r1 =>
  zif (r1.1 = 0) (
    some ((-1 : Int32), r1.2)) (
    (zM_losing d a1 a2 a3 (0 : Int32) r1.2).bind (fun r2 =>
    some (r2.1, r2.2)))) := zeqi d 198 12 0 [some (zr 11 0), some (zi a1), some (zi a2), some (zi a3)] [] S
set_option maxRecDepth 100000 in
theorem eM_more (d : Nat) (a1 : Int32) (a2 : Int32) (a3 : Int32) (a4 : Int32) (S : ZS) : zM_more (d + 1) a1 a2 a3 a4 S =
  (zM_canLose d a1 a2 a3 ((zu S.1 11 0 0 (0 : Int32)), S.2)).bind (fun r1 =>
  zif (r1.1 = 0) (
    some ((-1 : Int32), r1.2)) (
    (zM_within d a4 (0 : Int32) (1000 : Int32) r1.2).bind (fun r2 =>
    zif (r2.1 = 0) (
      some ((-1 : Int32), r2.2)) (
      zM_more_32 d a1 a2 a3 a4 (0 : Int32) r2.2)))) := zeqi d 199 12 0 [some (zr 11 0), some (zi a1), some (zi a2), some (zi a3), some (zi a4), none] [] S
set_option maxRecDepth 100000 in
theorem eM_more_32 (d : Nat) (a1 : Int32) (a2 : Int32) (a3 : Int32) (a4 : Int32) (a5 : Int32) (S : ZS) : zM_more_32 d a1 a2 a3 a4 a5 S =
  (zM_losing d a1 a2 a3 a5 S).bind (fun r1 =>
  zg (zin a1 12) (
  (zM_ways d (r1.2.1 60 0 (zx a1)) a3 r1.2).bind (fun r2 =>
  zif ((r1.1 * (1000 : Int32)) ≤ (a4 * r2.1)) (
    some (a5, r2.2)) (
    zM_more_32 d a1 a2 a3 a4 (a5 + (1 : Int32)) r2.2)))) := zeqi d 199 12 32 [some (zr 11 0), some (zi a1), some (zi a2), some (zi a3), some (zi a4), some (zi a5)] [] S
set_option maxRecDepth 100000 in
theorem eM_test (d : Nat) (a1 : Int32) (a2 : Int32) (a3 : Int32) (S : ZS) : zM_test (d + 1) a1 a2 a3 S =
  (zM_canTry d a1 a2 a3 ((zu S.1 11 0 0 (0 : Int32)), S.2)).bind (fun r1 =>
  zif (r1.1 = 0) (
    some ((-1 : Int32), r1.2)) (
    (zM_clears d r1.2).bind (fun r2 =>
    (zM_meets d a1 a2 a3 r2).bind (fun r3 =>
    (zM_clears d r3.2).bind (fun r4 =>
    zif (r3.1 = (2 : Int32)) (
      zM_test_46 d r3.1 r4) (
      zif (r3.1 = (5 : Int32)) (
        zM_test_46 d r3.1 r4) (
        some (r3.1, r4)))))))) := zeqi d 200 12 0 [some (zr 11 0), some (zi a1), some (zi a2), some (zi a3), none, none] [] S
set_option maxRecDepth 100000 in
theorem eM_test_46 (d : Nat) (a4 : Int32) (S : ZS) : zM_test_46 d a4 S =
  zif ((S.1 11 0 75) = (60 : Int32)) (
    some (a4, S)) (
    zif (a4 = (2 : Int32)) (
      zg (zin (S.1 11 0 75) 60) (
      zg (zbl (1 : Int32)) (
      zM_test_81 d a4 (0 : Int32) ((zu S.1 117 0 (zx (S.1 11 0 75)) (1 : Int32)), S.2)))) (
      zg (zin (S.1 11 0 75) 60) (
      zg (zbl (0 : Int32)) (
      zM_test_81 d a4 (0 : Int32) ((zu S.1 117 0 (zx (S.1 11 0 75)) (0 : Int32)), S.2))))) := zeqi d 200 12 46 [some (zr 11 0), none, none, none, some (zi a4), none] [] S
set_option maxRecDepth 100000 in
theorem eM_test_81 (d : Nat) (a4 : Int32) (a5 : Int32) (S : ZS) : zM_test_81 d a4 a5 S =
  zif ((96 : Int32) ≤ a5) (
    zM_test_113 d a4 (0 : Int32) S) (
    zg (zin (((96 : Int32) * (S.1 11 0 75)) + a5) 5760) (
    zg (zbl (0 : Int32)) (
    zM_test_81 d a4 (a5 + (1 : Int32)) ((zu S.1 118 0 (zx (((96 : Int32) * (S.1 11 0 75)) + a5)) (0 : Int32)), S.2)))) := zeqi d 200 12 81 [some (zr 11 0), none, none, none, some (zi a4), some (zi a5)] [] S
set_option maxRecDepth 100000 in
theorem eM_test_113 (d : Nat) (a4 : Int32) (a5 : Int32) (S : ZS) : zM_test_113 d a4 a5 S =
  zif ((S.1 11 0 68) ≤ a5) (
    some (a4, ((zu S.1 11 0 75 ((S.1 11 0 75) + (1 : Int32))), S.2))) (
    zg (zin a5 8) (
    zif ((96 : Int32) ≤ (S.1 112 0 (zx a5))) (
      zM_test_113 d a4 (a5 + (1 : Int32)) S) (
      zg (zin a5 8) (
      zg (zin (((96 : Int32) * (S.1 11 0 75)) + (S.1 112 0 (zx a5))) 5760) (
      zg (zbl (1 : Int32)) (
      zM_test_113 d a4 (a5 + (1 : Int32)) ((zu S.1 118 0 (zx (((96 : Int32) * (S.1 11 0 75)) + (S.1 112 0 (zx a5)))) (1 : Int32)), S.2))))))) := zeqi d 200 12 113 [some (zr 11 0), none, none, none, some (zi a4), some (zi a5)] [] S
set_option maxRecDepth 100000 in
theorem eM_explains (d : Nat) (a1 : Int32) (S : ZS) : zM_explains (d + 1) a1 S =
  zM_explains_2 d a1 (0 : Int32) S := zeqi d 201 12 0 [some (zr 11 0), some (zi a1), none, none, none] [] S
set_option maxRecDepth 100000 in
theorem eM_explains_2 (d : Nat) (a1 : Int32) (a2 : Int32) (S : ZS) : zM_explains_2 d a1 a2 S =
  zif ((S.1 11 0 75) ≤ a2) (
    some ((1 : Int32), S)) (
    zM_explains_15 d a1 a2 (0 : Int32) (0 : Int32) S) := zeqi d 201 12 2 [some (zr 11 0), some (zi a1), some (zi a2), none, none] [] S
set_option maxRecDepth 100000 in
theorem eM_explains_15 (d : Nat) (a1 : Int32) (a2 : Int32) (a3 : Int32) (a4 : Int32) (S : ZS) : zM_explains_15 d a1 a2 a3 a4 S =
  zif (a1 ≤ a4) (
    zg (zin a2 60) (
    zif (a3 = (S.1 117 0 (zx a2))) (
      zM_explains_2 d a1 (a2 + (1 : Int32)) S) (
      some ((0 : Int32), S)))) (
    zif (a3 = 0) (
      zg (zin a4 3) (
      zg (zin (((96 : Int32) * a2) + (S.1 119 0 (zx a4))) 5760) (
      zif ((S.1 118 0 (zx (((96 : Int32) * a2) + (S.1 119 0 (zx a4))))) = 0) (
        zM_explains_15 d a1 a2 (0 : Int32) (a4 + (1 : Int32)) S) (
        zM_explains_15 d a1 a2 (1 : Int32) (a4 + (1 : Int32)) S)))) (
      zM_explains_15 d a1 a2 (1 : Int32) (a4 + (1 : Int32)) S)) := zeqi d 201 12 15 [some (zr 11 0), some (zi a1), some (zi a2), some (zi a3), some (zi a4)] [] S
set_option maxRecDepth 100000 in
theorem eM_found (d : Nat) (a1 : Int32) (S : ZS) : zM_found (d + 1) a1 S =
  (zM_explains d a1 S).bind (fun r1 =>
  zif (r1.1 = 0) (
    some r1.2) (
    zif ((r1.2.1 11 0 81) = 0) (
      zM_found_18 d a1 (0 : Int32) r1.2) (
      zM_found_53 d a1 (0 : Int32) ((zu r1.2.1 11 0 81 ((r1.2.1 11 0 81) + (1 : Int32))), r1.2.2)))) := zeqv d 202 12 0 [some (zr 11 0), some (zi a1), none] [] S
set_option maxRecDepth 100000 in
theorem eM_found_18 (d : Nat) (a1 : Int32) (a2 : Int32) (S : ZS) : zM_found_18 d a1 a2 S =
  zif (a1 ≤ a2) (
    zM_found_53 d a1 (0 : Int32) ((zu S.1 11 0 81 ((S.1 11 0 81) + (1 : Int32))), S.2)) (
    zg (zin a2 3) (
    zg (zin a2 3) (
    zM_found_18 d a1 (a2 + (1 : Int32)) ((zu S.1 121 0 (zx a2) (S.1 119 0 (zx a2))), S.2)))) := zeqv d 202 12 18 [some (zr 11 0), some (zi a1), some (zi a2)] [] S
set_option maxRecDepth 100000 in
theorem eM_found_53 (d : Nat) (a1 : Int32) (a2 : Int32) (S : ZS) : zM_found_53 d a1 a2 S =
  zif (a1 ≤ a2) (
    some S) (
    zg (zin a2 3) (
    zg (zin (S.1 119 0 (zx a2)) 96) (
    zg (zin (S.1 119 0 (zx a2)) 96) (
    zM_found_53 d a1 (a2 + (1 : Int32)) ((zu S.1 120 0 (zx (S.1 119 0 (zx a2))) ((S.1 120 0 (zx (S.1 119 0 (zx a2)))) + (1 : Int32))), S.2))))) := zeqv d 202 12 53 [some (zr 11 0), some (zi a1), some (zi a2)] [] S
set_option maxRecDepth 100000 in
theorem eM_fewest (d : Nat)  (S : ZS) : zM_fewest (d + 1)  S =
  zM_fewest_7 d (0 : Int32) ((zu S.1 11 0 81 (0 : Int32)), S.2) := zeqi d 203 12 0 [some (zr 11 0), none, none, none] [] S
set_option maxRecDepth 100000 in
theorem eM_fewest_7 (d : Nat) (a1 : Int32) (S : ZS) : zM_fewest_7 d a1 S =
  zif ((96 : Int32) ≤ a1) (
    (zM_found d (0 : Int32) S).bind (fun r1 =>
    zif ((r1.1 11 0 81) ≤ 0) (
      zM_fewest_42 d (0 : Int32) r1) (
      some ((0 : Int32), r1)))) (
    zg (zin a1 96) (
    zM_fewest_7 d (a1 + (1 : Int32)) ((zu S.1 120 0 (zx a1) (0 : Int32)), S.2))) := zeqi d 203 12 7 [some (zr 11 0), some (zi a1), none, none] [] S
set_option maxRecDepth 100000 in
theorem eM_fewest_42 (d : Nat) (a1 : Int32) (S : ZS) : zM_fewest_42 d a1 S =
  zif ((96 : Int32) ≤ a1) (
    zif ((S.1 11 0 81) ≤ 0) (
      zM_fewest_88 d (0 : Int32) S) (
      some ((1 : Int32), S))) (
    (zM_isSwitch d a1 S).bind (fun r1 =>
    zif (r1.1 = 0) (
      zM_fewest_42 d (a1 + (1 : Int32)) r1.2) (
      zg (zin (0 : Int32) 3) (
      (zM_found d (1 : Int32) ((zu r1.2.1 119 0 (zx (0 : Int32)) a1), r1.2.2)).bind (fun r2 =>
      zM_fewest_42 d (a1 + (1 : Int32)) r2))))) := zeqi d 203 12 42 [some (zr 11 0), some (zi a1), none, none] [] S
set_option maxRecDepth 100000 in
theorem eM_fewest_88 (d : Nat) (a1 : Int32) (S : ZS) : zM_fewest_88 d a1 S =
  zif ((96 : Int32) ≤ a1) (
    zif ((S.1 11 0 81) ≤ 0) (
      zM_fewest_165 d (0 : Int32) S) (
      some ((2 : Int32), S))) (
    zM_fewest_98 d a1 (a1 + (1 : Int32)) S) := zeqi d 203 12 88 [some (zr 11 0), some (zi a1), none, none] [] S
set_option maxRecDepth 100000 in
theorem eM_fewest_98 (d : Nat) (a1 : Int32) (a2 : Int32) (S : ZS) : zM_fewest_98 d a1 a2 S =
  zif ((96 : Int32) ≤ a2) (
    zM_fewest_88 d (a1 + (1 : Int32)) S) (
    (zM_isSwitch d a1 S).bind (fun r1 =>
    zif (r1.1 = 0) (
      zM_fewest_88 d (a1 + (1 : Int32)) r1.2) (
      (zM_isSwitch d a2 r1.2).bind (fun r2 =>
      zif (r2.1 = 0) (
        zM_fewest_98 d a1 (a2 + (1 : Int32)) r2.2) (
        zg (zin (0 : Int32) 3) (
        zg (zin (1 : Int32) 3) (
        (zM_found d (2 : Int32) ((zu (zu r2.2.1 119 0 (zx (0 : Int32)) a1) 119 0 (zx (1 : Int32)) a2), r2.2.2)).bind (fun r3 =>
        zM_fewest_98 d a1 (a2 + (1 : Int32)) r3)))))))) := zeqi d 203 12 98 [some (zr 11 0), some (zi a1), some (zi a2), none] [] S
set_option maxRecDepth 100000 in
theorem eM_fewest_165 (d : Nat) (a1 : Int32) (S : ZS) : zM_fewest_165 d a1 S =
  zif ((96 : Int32) ≤ a1) (
    zif ((S.1 11 0 81) ≤ 0) (
      some ((-1 : Int32), S)) (
      some ((3 : Int32), S))) (
    zM_fewest_175 d a1 (a1 + (1 : Int32)) S) := zeqi d 203 12 165 [some (zr 11 0), some (zi a1), none, none] [] S
set_option maxRecDepth 100000 in
theorem eM_fewest_175 (d : Nat) (a1 : Int32) (a2 : Int32) (S : ZS) : zM_fewest_175 d a1 a2 S =
  zif ((96 : Int32) ≤ a2) (
    zM_fewest_165 d (a1 + (1 : Int32)) S) (
    (zM_isSwitch d a1 S).bind (fun r1 =>
    zif (r1.1 = 0) (
      zM_fewest_165 d (a1 + (1 : Int32)) r1.2) (
      zM_fewest_193 d a1 a2 (a2 + (1 : Int32)) r1.2))) := zeqi d 203 12 175 [some (zr 11 0), some (zi a1), some (zi a2), none] [] S
set_option maxRecDepth 100000 in
theorem eM_fewest_193 (d : Nat) (a1 : Int32) (a2 : Int32) (a3 : Int32) (S : ZS) : zM_fewest_193 d a1 a2 a3 S =
  zif ((96 : Int32) ≤ a3) (
    zM_fewest_175 d a1 (a2 + (1 : Int32)) S) (
    (zM_isSwitch d a2 S).bind (fun r1 =>
    zif (r1.1 = 0) (
      zM_fewest_175 d a1 (a2 + (1 : Int32)) r1.2) (
      (zM_isSwitch d a3 r1.2).bind (fun r2 =>
      zif (r2.1 = 0) (
        zM_fewest_193 d a1 a2 (a3 + (1 : Int32)) r2.2) (
        zg (zin (0 : Int32) 3) (
        zg (zin (1 : Int32) 3) (
        zg (zin (2 : Int32) 3) (
        (zM_found d (3 : Int32) ((zu (zu (zu r2.2.1 119 0 (zx (0 : Int32)) a1) 119 0 (zx (1 : Int32)) a2) 119 0 (zx (2 : Int32)) a3), r2.2.2)).bind (fun r3 =>
        zM_fewest_193 d a1 a2 (a3 + (1 : Int32)) r3))))))))) := zeqi d 203 12 193 [some (zr 11 0), some (zi a1), some (zi a2), some (zi a3)] [] S
set_option maxRecDepth 100000 in
theorem eM_explain (d : Nat) (a1 : Int32) (S : ZS) : zM_explain (d + 1) a1 S =
  (zM_within d a1 (0 : Int32) (3 : Int32) ((zu S.1 11 0 0 (0 : Int32)), S.2)).bind (fun r1 =>
  zif (r1.1 = 0) (
    some ((-1 : Int32), r1.2)) (
    (zM_fewest d r1.2).bind (fun r2 =>
    zif (a1 = 0) (
      some (r2.1, r2.2)) (
      zif (r2.1 < a1) (
        some ((-1 : Int32), r2.2)) (
        zg (zin (a1 - (1 : Int32)) 3) (
        some ((r2.2.1 121 0 (zx (a1 - (1 : Int32)))), r2.2))))))) := zeqi d 204 12 0 [some (zr 11 0), some (zi a1), none] [] S
set_option maxRecDepth 100000 in
theorem eM_sure (d : Nat) (a1 : Int32) (S : ZS) : zM_sure (d + 1) a1 S =
  (zM_isSwitch d a1 ((zu S.1 11 0 0 (0 : Int32)), S.2)).bind (fun r1 =>
  zif (r1.1 = 0) (
    some ((-1 : Int32), r1.2)) (
    (zM_fewest d r1.2).bind (fun r2 =>
    zif (0 ≤ r2.1) (
      zg (zin a1 96) (
      zif ((r2.2.1 120 0 (zx a1)) = (r2.2.1 11 0 81)) (
        some ((1 : Int32), r2.2)) (
        some ((0 : Int32), r2.2)))) (
      some ((-1 : Int32), r2.2))))) := zeqi d 205 12 0 [some (zr 11 0), some (zi a1)] [] S
set_option maxRecDepth 100000 in
theorem eM_forget (d : Nat)  (S : ZS) : zM_forget (d + 1)  S =
  some (((zu S.1 11 0 0 (0 : Int32)) 11 0 75), ((zu (zu S.1 11 0 0 (0 : Int32)) 11 0 75 (0 : Int32)), S.2)) := zeqi d 206 12 0 [some (zr 11 0), none] [] S
set_option maxRecDepth 100000 in
theorem eM_look (d : Nat) (a1 : Int32) (a2 : Int32) (S : ZS) : zM_look (d + 1) a1 a2 S =
  (zM_isLine d a1 ((zu S.1 11 0 0 (0 : Int32)), S.2)).bind (fun r1 =>
  zif (r1.1 = 0) (
    some ((0 : Int32), ((zu r1.2.1 11 0 0 (1 : Int32)), r1.2.2))) (
    (zM_within d a2 (0 : Int32) (5 : Int32) r1.2).bind (fun r2 =>
    zif (r2.1 = 0) (
      some ((0 : Int32), ((zu r2.2.1 11 0 0 (1 : Int32)), r2.2.2))) (
      zif (a2 = 0) (
        zg (zin a1 40) (
        some ((r2.2.1 70 0 (zx a1)), r2.2))) (
        zg (zin a1 40) (
        zif ((r2.2.1 70 0 (zx a1)) = (1 : Int32)) (
          zif (a2 = (1 : Int32)) (
            zg (zin a1 40) (
            some ((r2.2.1 71 0 (zx a1)), r2.2))) (
            zif (a2 = (2 : Int32)) (
              (zM_head d a1 r2.2).bind (fun r3 =>
              some (r3.1, r3.2))) (
              zif (a2 = (3 : Int32)) (
                zg (zin a1 40) (
                some ((r2.2.1 72 0 (zx a1)), r2.2))) (
                zif (a2 = (4 : Int32)) (
                  zg (zin a1 40) (
                  some ((r2.2.1 73 0 (zx a1)), r2.2))) (
                  zg (zin a1 40) (
                  some ((r2.2.1 77 0 (zx a1)), r2.2))))))) (
          some ((-1 : Int32), r2.2)))))))) := zeqi d 207 12 0 [some (zr 11 0), some (zi a1), some (zi a2)] [] S
set_option maxRecDepth 100000 in
theorem eM_path (d : Nat) (a1 : Int32) (a2 : Int32) (S : ZS) : zM_path (d + 1) a1 a2 S =
  (zM_isLine d a1 ((zu S.1 11 0 0 (0 : Int32)), S.2)).bind (fun r1 =>
  zif (r1.1 = 0) (
    some ((-1 : Int32), r1.2)) (
    zg (zin a1 40) (
    zif ((r1.2.1 70 0 (zx a1)) = (1 : Int32)) (
      zg (zin a1 40) (
      (zM_within d a2 (0 : Int32) ((r1.2.1 78 0 (zx a1)) - (1 : Int32)) r1.2).bind (fun r2 =>
      zif (r2.1 = 0) (
        some ((-1 : Int32), r2.2)) (
        zg (zin (((120 : Int32) * a1) + a2) 4800) (
        some ((r2.2.1 79 0 (zx (((120 : Int32) * a1) + a2))), r2.2)))))) (
      some ((-1 : Int32), r1.2))))) := zeqi d 208 12 0 [some (zr 11 0), some (zi a1), some (zi a2)] [] S
set_option maxRecDepth 100000 in
theorem eM_held (d : Nat) (a1 : Int32) (S : ZS) : zM_held (d + 1) a1 S =
  (zM_isEnd d a1 ((zu S.1 11 0 0 (0 : Int32)), S.2)).bind (fun r1 =>
  zif (r1.1 = 0) (
    some ((-1 : Int32), r1.2)) (
    zg (zin a1 116) (
    some ((r1.2.1 64 0 (zx a1)), r1.2)))) := zeqi d 209 12 0 [some (zr 11 0), some (zi a1)] [] S
set_option maxRecDepth 100000 in
theorem eM_book (d : Nat) (a1 : Int32) (a2 : Int32) (S : ZS) : zM_book (d + 1) a1 a2 S =
  (zM_within d a1 (0 : Int32) (((zu S.1 11 0 0 (0 : Int32)) 11 0 27) - (1 : Int32)) ((zu S.1 11 0 0 (0 : Int32)), S.2)).bind (fun r1 =>
  zif (r1.1 = 0) (
    some ((-1 : Int32), r1.2)) (
    (zM_within d a2 (0 : Int32) (3 : Int32) r1.2).bind (fun r2 =>
    zif (r2.1 = 0) (
      some ((-1 : Int32), r2.2)) (
      zif (a2 = 0) (
        zg (zin a1 200) (
        some ((r2.2.1 82 0 (zx a1)), r2.2))) (
        zif (a2 = (1 : Int32)) (
          (zM_unitsBy d a1 (99 : Int32) r2.2).bind (fun r3 =>
          some (r3.1, r3.2))) (
          zif (a2 = (2 : Int32)) (
            zg (zin a1 200) (
            some ((r2.2.1 84 0 (zx a1)), r2.2))) (
            zg (zin a1 200) (
            some ((r2.2.1 85 0 (zx a1)), r2.2))))))))) := zeqi d 210 12 0 [some (zr 11 0), some (zi a1), some (zi a2)] [] S
set_option maxRecDepth 100000 in
theorem eM_count (d : Nat) (a1 : Int32) (S : ZS) : zM_count (d + 1) a1 S =
  zif (a1 = (0 : Int32)) (
    some (((zu S.1 11 0 0 (0 : Int32)) 11 0 1), ((zu S.1 11 0 0 (0 : Int32)), S.2))) (
  zif (a1 = (1 : Int32)) (
    some (((zu S.1 11 0 0 (0 : Int32)) 11 0 2), ((zu S.1 11 0 0 (0 : Int32)), S.2))) (
  zif (a1 = (2 : Int32)) (
    some (((zu S.1 11 0 0 (0 : Int32)) 11 0 11), ((zu S.1 11 0 0 (0 : Int32)), S.2))) (
  zif (a1 = (3 : Int32)) (
    zM_count_93 d (0 : Int32) (0 : Int32) ((zu S.1 11 0 0 (0 : Int32)), S.2)) (
  zif (a1 = (4 : Int32)) (
    zM_count_124 d (0 : Int32) (0 : Int32) ((zu S.1 11 0 0 (0 : Int32)), S.2)) (
  zif (a1 = (5 : Int32)) (
    some (((zu S.1 11 0 0 (0 : Int32)) 11 0 27), ((zu S.1 11 0 0 (0 : Int32)), S.2))) (
  zif (a1 = (6 : Int32)) (
    some (((zu S.1 11 0 0 (0 : Int32)) 11 0 32), ((zu S.1 11 0 0 (0 : Int32)), S.2))) (
  zif (a1 = (7 : Int32)) (
    some (((zu S.1 11 0 0 (0 : Int32)) 11 0 75), ((zu S.1 11 0 0 (0 : Int32)), S.2))) (
  zif (a1 = (8 : Int32)) (
    zg (zin (0 : Int32) 2) (
    some (((zu S.1 11 0 0 (0 : Int32)) 90 0 (zx (0 : Int32))), ((zu S.1 11 0 0 (0 : Int32)), S.2)))) (
  zif (a1 = (9 : Int32)) (
    zg (zin (0 : Int32) 2) (
    some (((zu S.1 11 0 0 (0 : Int32)) 96 0 (zx (0 : Int32))), ((zu S.1 11 0 0 (0 : Int32)), S.2)))) (
  zif (a1 = (10 : Int32)) (
    some (((zu S.1 11 0 0 (0 : Int32)) 11 0 36), ((zu S.1 11 0 0 (0 : Int32)), S.2))) (
  zif (a1 = (11 : Int32)) (
    zM_count_186 d (0 : Int32) (0 : Int32) ((zu S.1 11 0 0 (0 : Int32)), S.2)) (
  zif (a1 = (12 : Int32)) (
    zM_count_214 d (0 : Int32) (100 : Int32) ((zu S.1 11 0 0 (0 : Int32)), S.2)) (
  some ((-1 : Int32), ((zu S.1 11 0 0 (0 : Int32)), S.2))))))))))))))) := zeqi d 211 12 0 [some (zr 11 0), some (zi a1), none, none] [] S
set_option maxRecDepth 100000 in
theorem eM_count_93 (d : Nat) (a2 : Int32) (a3 : Int32) (S : ZS) : zM_count_93 d a2 a3 S =
  zif ((S.1 11 0 11) ≤ a3) (
    some (a2, S)) (
    zg (zin a3 40) (
    zif ((S.1 70 0 (zx a3)) = (1 : Int32)) (
      zM_count_93 d (a2 + (1 : Int32)) (a3 + (1 : Int32)) S) (
      zM_count_93 d a2 (a3 + (1 : Int32)) S))) := zeqi d 211 12 93 [some (zr 11 0), none, some (zi a2), some (zi a3)] [] S
set_option maxRecDepth 100000 in
theorem eM_count_124 (d : Nat) (a2 : Int32) (a3 : Int32) (S : ZS) : zM_count_124 d a2 a3 S =
  zif ((96 : Int32) ≤ a3) (
    some (a2, S)) (
    zg (zin a3 116) (
    zif ((S.1 64 0 (zx a3)) < 0) (
      zM_count_124 d a2 (a3 + (1 : Int32)) S) (
      zM_count_124 d (a2 + (1 : Int32)) (a3 + (1 : Int32)) S))) := zeqi d 211 12 124 [some (zr 11 0), none, some (zi a2), some (zi a3)] [] S
set_option maxRecDepth 100000 in
theorem eM_count_186 (d : Nat) (a2 : Int32) (a3 : Int32) (S : ZS) : zM_count_186 d a2 a3 S =
  zif ((S.1 11 0 2) ≤ a3) (
    some (a2, S)) (
    zg (zin a3 12) (
    zM_count_186 d (a2 + (S.1 60 0 (zx a3))) (a3 + (1 : Int32)) S)) := zeqi d 211 12 186 [some (zr 11 0), none, some (zi a2), some (zi a3)] [] S
set_option maxRecDepth 100000 in
theorem eM_count_214 (d : Nat) (a2 : Int32) (a3 : Int32) (S : ZS) : zM_count_214 d a2 a3 S =
  zif ((116 : Int32) ≤ a3) (
    some (a2, S)) (
    zg (zin a3 116) (
    zif ((S.1 64 0 (zx a3)) < 0) (
      zM_count_214 d a2 (a3 + (1 : Int32)) S) (
      zM_count_214 d (a2 + (1 : Int32)) (a3 + (1 : Int32)) S))) := zeqi d 211 12 214 [some (zr 11 0), none, some (zi a2), some (zi a3)] [] S
set_option maxRecDepth 100000 in
theorem eY_law_23 (d : Nat) (a4 : Int32) (S : ZS) : zY_law_23 d a4 S =
  zif (((Int32.ofNat (S.1 16 1 0).toNatClampNeg) - (7 : Int32)) < a4) (
    some ((1 : Int32), S)) (
    zg (zin a4 (S.1 16 1 0).toNatClampNeg) (
    zif (((S.1 16 0 (zx a4)) &&& (31 : Int32)) = (0 : Int32)) (
      zg (zin (a4 + (1 : Int32)) (S.1 16 1 0).toNatClampNeg) (
      (zX_seconds d (S.1 16 0 (zx (a4 + (1 : Int32)))) S).bind (fun r1 =>
      zg (zin (a4 + (1 : Int32)) (r1.2.1 16 1 0).toNatClampNeg) (
      (zM_seconds d (r1.2.1 16 0 (zx (a4 + (1 : Int32)))) r1.2).bind (fun r2 =>
      zif (r1.1 = r2.1) (
        zY_law_23 d (a4 + (7 : Int32)) r2.2) (
        some ((0 : Int32), r2.2))))))) (
    zif (((S.1 16 0 (zx a4)) &&& (31 : Int32)) = (1 : Int32)) (
      zg (zin (a4 + (1 : Int32)) (S.1 16 1 0).toNatClampNeg) (
      zg (zin (a4 + (2 : Int32)) (S.1 16 1 0).toNatClampNeg) (
      zg (zin (a4 + (3 : Int32)) (S.1 16 1 0).toNatClampNeg) (
      (zX_rack d (S.1 16 0 (zx (a4 + (1 : Int32)))) (S.1 16 0 (zx (a4 + (2 : Int32)))) (S.1 16 0 (zx (a4 + (3 : Int32)))) S).bind (fun r3 =>
      zg (zin (a4 + (1 : Int32)) (r3.2.1 16 1 0).toNatClampNeg) (
      zg (zin (a4 + (2 : Int32)) (r3.2.1 16 1 0).toNatClampNeg) (
      zg (zin (a4 + (3 : Int32)) (r3.2.1 16 1 0).toNatClampNeg) (
      (zM_rack d (r3.2.1 16 0 (zx (a4 + (1 : Int32)))) (r3.2.1 16 0 (zx (a4 + (2 : Int32)))) (r3.2.1 16 0 (zx (a4 + (3 : Int32)))) r3.2).bind (fun r4 =>
      zif (r3.1 = r4.1) (
        zY_law_23 d (a4 + (7 : Int32)) r4.2) (
        some ((0 : Int32), r4.2))))))))))) (
    zif (((S.1 16 0 (zx a4)) &&& (31 : Int32)) = (2 : Int32)) (
      zg (zin (a4 + (1 : Int32)) (S.1 16 1 0).toNatClampNeg) (
      zg (zin (a4 + (2 : Int32)) (S.1 16 1 0).toNatClampNeg) (
      zg (zin (a4 + (3 : Int32)) (S.1 16 1 0).toNatClampNeg) (
      zg (zin (a4 + (4 : Int32)) (S.1 16 1 0).toNatClampNeg) (
      zg (zin (a4 + (5 : Int32)) (S.1 16 1 0).toNatClampNeg) (
      (zX_outlet d (S.1 16 0 (zx (a4 + (1 : Int32)))) (S.1 16 0 (zx (a4 + (2 : Int32)))) (S.1 16 0 (zx (a4 + (3 : Int32)))) (S.1 16 0 (zx (a4 + (4 : Int32)))) (S.1 16 0 (zx (a4 + (5 : Int32)))) S).bind (fun r5 =>
      zg (zin (a4 + (1 : Int32)) (r5.2.1 16 1 0).toNatClampNeg) (
      zg (zin (a4 + (2 : Int32)) (r5.2.1 16 1 0).toNatClampNeg) (
      zg (zin (a4 + (3 : Int32)) (r5.2.1 16 1 0).toNatClampNeg) (
      zg (zin (a4 + (4 : Int32)) (r5.2.1 16 1 0).toNatClampNeg) (
      zg (zin (a4 + (5 : Int32)) (r5.2.1 16 1 0).toNatClampNeg) (
      (zM_outlet d (r5.2.1 16 0 (zx (a4 + (1 : Int32)))) (r5.2.1 16 0 (zx (a4 + (2 : Int32)))) (r5.2.1 16 0 (zx (a4 + (3 : Int32)))) (r5.2.1 16 0 (zx (a4 + (4 : Int32)))) (r5.2.1 16 0 (zx (a4 + (5 : Int32)))) r5.2).bind (fun r6 =>
      zif (r5.1 = r6.1) (
        zY_law_23 d (a4 + (7 : Int32)) r6.2) (
        some ((0 : Int32), r6.2))))))))))))))) (
    zif (((S.1 16 0 (zx a4)) &&& (31 : Int32)) = (3 : Int32)) (
      zg (zin (a4 + (1 : Int32)) (S.1 16 1 0).toNatClampNeg) (
      zg (zin (a4 + (2 : Int32)) (S.1 16 1 0).toNatClampNeg) (
      (zX_zone d (S.1 16 0 (zx (a4 + (1 : Int32)))) (S.1 16 0 (zx (a4 + (2 : Int32)))) S).bind (fun r7 =>
      zg (zin (a4 + (1 : Int32)) (r7.2.1 16 1 0).toNatClampNeg) (
      zg (zin (a4 + (2 : Int32)) (r7.2.1 16 1 0).toNatClampNeg) (
      (zM_zone d (r7.2.1 16 0 (zx (a4 + (1 : Int32)))) (r7.2.1 16 0 (zx (a4 + (2 : Int32)))) r7.2).bind (fun r8 =>
      zif (r7.1 = r8.1) (
        zY_law_23 d (a4 + (7 : Int32)) r8.2) (
        some ((0 : Int32), r8.2))))))))) (
    zif (((S.1 16 0 (zx a4)) &&& (31 : Int32)) = (4 : Int32)) (
      zg (zin (a4 + (1 : Int32)) (S.1 16 1 0).toNatClampNeg) (
      zg (zin (a4 + (2 : Int32)) (S.1 16 1 0).toNatClampNeg) (
      zg (zin (a4 + (3 : Int32)) (S.1 16 1 0).toNatClampNeg) (
      (zX_line d (S.1 16 0 (zx (a4 + (1 : Int32)))) (S.1 16 0 (zx (a4 + (2 : Int32)))) (S.1 16 0 (zx (a4 + (3 : Int32)))) S).bind (fun r9 =>
      zg (zin (a4 + (1 : Int32)) (r9.2.1 16 1 0).toNatClampNeg) (
      zg (zin (a4 + (2 : Int32)) (r9.2.1 16 1 0).toNatClampNeg) (
      zg (zin (a4 + (3 : Int32)) (r9.2.1 16 1 0).toNatClampNeg) (
      (zM_line d (r9.2.1 16 0 (zx (a4 + (1 : Int32)))) (r9.2.1 16 0 (zx (a4 + (2 : Int32)))) (r9.2.1 16 0 (zx (a4 + (3 : Int32)))) r9.2).bind (fun r10 =>
      zif (r9.1 = r10.1) (
        zY_law_23 d (a4 + (7 : Int32)) r10.2) (
        some ((0 : Int32), r10.2))))))))))) (
    zif (((S.1 16 0 (zx a4)) &&& (31 : Int32)) = (5 : Int32)) (
      zg (zin (a4 + (1 : Int32)) (S.1 16 1 0).toNatClampNeg) (
      zg (zin (a4 + (2 : Int32)) (S.1 16 1 0).toNatClampNeg) (
      zif ((S.1 16 0 (zx (a4 + (2 : Int32)))) = 0) (
        zY_law_426 d a4 (0 : Int32) (S.1 16 0 (zx (a4 + (1 : Int32)))) S) (
        zY_law_426 d a4 (1 : Int32) (S.1 16 0 (zx (a4 + (1 : Int32)))) S)))) (
    zif (((S.1 16 0 (zx a4)) &&& (31 : Int32)) = (6 : Int32)) (
      zg (zin (a4 + (1 : Int32)) (S.1 16 1 0).toNatClampNeg) (
      zg (zin (a4 + (2 : Int32)) (S.1 16 1 0).toNatClampNeg) (
      zif ((S.1 16 0 (zx (a4 + (2 : Int32)))) = 0) (
        zY_law_479 d a4 (0 : Int32) (S.1 16 0 (zx (a4 + (1 : Int32)))) S) (
        zY_law_479 d a4 (1 : Int32) (S.1 16 0 (zx (a4 + (1 : Int32)))) S)))) (
    zif (((S.1 16 0 (zx a4)) &&& (31 : Int32)) = (7 : Int32)) (
      zg (zin (a4 + (1 : Int32)) (S.1 16 1 0).toNatClampNeg) (
      (zX_lift d (S.1 16 0 (zx (a4 + (1 : Int32)))) S).bind (fun r11 =>
      zg (zin (a4 + (1 : Int32)) (r11.2.1 16 1 0).toNatClampNeg) (
      (zM_lift d (r11.2.1 16 0 (zx (a4 + (1 : Int32)))) r11.2).bind (fun r12 =>
      zif (r11.1 = r12.1) (
        zY_law_23 d (a4 + (7 : Int32)) r12.2) (
        some ((0 : Int32), r12.2))))))) (
    zif (((S.1 16 0 (zx a4)) &&& (31 : Int32)) = (8 : Int32)) (
      zg (zin (a4 + (1 : Int32)) (S.1 16 1 0).toNatClampNeg) (
      zg (zin (a4 + (2 : Int32)) (S.1 16 1 0).toNatClampNeg) (
      (zX_dial d (S.1 16 0 (zx (a4 + (1 : Int32)))) (S.1 16 0 (zx (a4 + (2 : Int32)))) S).bind (fun r13 =>
      zg (zin (a4 + (1 : Int32)) (r13.2.1 16 1 0).toNatClampNeg) (
      zg (zin (a4 + (2 : Int32)) (r13.2.1 16 1 0).toNatClampNeg) (
      (zM_dial d (r13.2.1 16 0 (zx (a4 + (1 : Int32)))) (r13.2.1 16 0 (zx (a4 + (2 : Int32)))) r13.2).bind (fun r14 =>
      zif (r13.1 = r14.1) (
        zY_law_23 d (a4 + (7 : Int32)) r14.2) (
        some ((0 : Int32), r14.2))))))))) (
    zif (((S.1 16 0 (zx a4)) &&& (31 : Int32)) = (9 : Int32)) (
      zg (zin (a4 + (1 : Int32)) (S.1 16 1 0).toNatClampNeg) (
      (zX_answer d (S.1 16 0 (zx (a4 + (1 : Int32)))) S).bind (fun r15 =>
      zg (zin (a4 + (1 : Int32)) (r15.2.1 16 1 0).toNatClampNeg) (
      (zM_answer d (r15.2.1 16 0 (zx (a4 + (1 : Int32)))) r15.2).bind (fun r16 =>
      zif (r15.1 = r16.1) (
        zY_law_23 d (a4 + (7 : Int32)) r16.2) (
        some ((0 : Int32), r16.2))))))) (
    zif (((S.1 16 0 (zx a4)) &&& (31 : Int32)) = (10 : Int32)) (
      zg (zin (a4 + (1 : Int32)) (S.1 16 1 0).toNatClampNeg) (
      (zX_end d (S.1 16 0 (zx (a4 + (1 : Int32)))) S).bind (fun r17 =>
      zg (zin (a4 + (1 : Int32)) (r17.2.1 16 1 0).toNatClampNeg) (
      (zM_end d (r17.2.1 16 0 (zx (a4 + (1 : Int32)))) r17.2).bind (fun r18 =>
      zif (r17.1 = r18.1) (
        zY_law_23 d (a4 + (7 : Int32)) r18.2) (
        some ((0 : Int32), r18.2))))))) (
    zif (((S.1 16 0 (zx a4)) &&& (31 : Int32)) = (11 : Int32)) (
      zg (zin (a4 + (1 : Int32)) (S.1 16 1 0).toNatClampNeg) (
      zg (zin (a4 + (2 : Int32)) (S.1 16 1 0).toNatClampNeg) (
      zg (zin (a4 + (3 : Int32)) (S.1 16 1 0).toNatClampNeg) (
      zg (zin (a4 + (4 : Int32)) (S.1 16 1 0).toNatClampNeg) (
      zg (zin (a4 + (5 : Int32)) (S.1 16 1 0).toNatClampNeg) (
      zg (zin (a4 + (6 : Int32)) (S.1 16 1 0).toNatClampNeg) (
      (zX_feed d (((S.1 16 0 (zx (a4 + (1 : Int32)))).toInt64 <<< ((32 : Int32).toInt64 &&& 63)) ||| ((S.1 16 0 (zx (a4 + (2 : Int32)))).toInt64 &&& (4294967295 : Int64))) (((S.1 16 0 (zx (a4 + (3 : Int32)))).toInt64 <<< ((32 : Int32).toInt64 &&& 63)) ||| ((S.1 16 0 (zx (a4 + (4 : Int32)))).toInt64 &&& (4294967295 : Int64))) (((S.1 16 0 (zx (a4 + (5 : Int32)))).toInt64 <<< ((32 : Int32).toInt64 &&& 63)) ||| ((S.1 16 0 (zx (a4 + (6 : Int32)))).toInt64 &&& (4294967295 : Int64))) S).bind (fun r19 =>
      zg (zin (a4 + (1 : Int32)) (r19.2.1 16 1 0).toNatClampNeg) (
      zg (zin (a4 + (2 : Int32)) (r19.2.1 16 1 0).toNatClampNeg) (
      zg (zin (a4 + (3 : Int32)) (r19.2.1 16 1 0).toNatClampNeg) (
      zg (zin (a4 + (4 : Int32)) (r19.2.1 16 1 0).toNatClampNeg) (
      zg (zin (a4 + (5 : Int32)) (r19.2.1 16 1 0).toNatClampNeg) (
      zg (zin (a4 + (6 : Int32)) (r19.2.1 16 1 0).toNatClampNeg) (
      (zM_feed d (((r19.2.1 16 0 (zx (a4 + (1 : Int32)))).toInt64 <<< ((32 : Int32).toInt64 &&& 63)) ||| ((r19.2.1 16 0 (zx (a4 + (2 : Int32)))).toInt64 &&& (4294967295 : Int64))) (((r19.2.1 16 0 (zx (a4 + (3 : Int32)))).toInt64 <<< ((32 : Int32).toInt64 &&& 63)) ||| ((r19.2.1 16 0 (zx (a4 + (4 : Int32)))).toInt64 &&& (4294967295 : Int64))) (((r19.2.1 16 0 (zx (a4 + (5 : Int32)))).toInt64 <<< ((32 : Int32).toInt64 &&& 63)) ||| ((r19.2.1 16 0 (zx (a4 + (6 : Int32)))).toInt64 &&& (4294967295 : Int64))) r19.2).bind (fun r20 =>
      zif (r19.1 = r20.1) (
        zY_law_23 d (a4 + (7 : Int32)) r20.2) (
        some ((0 : Int32), r20.2))))))))))))))))) (
    zif (((S.1 16 0 (zx a4)) &&& (31 : Int32)) = (12 : Int32)) (
      (zX_tariff d S).bind (fun r21 =>
      (zM_tariff d r21.2).bind (fun r22 =>
      zif (r21.1 = r22.1) (
        zY_law_23 d (a4 + (7 : Int32)) r22.2) (
        some ((0 : Int32), r22.2))))) (
    zif (((S.1 16 0 (zx a4)) &&& (31 : Int32)) = (13 : Int32)) (
      zg (zin (a4 + (1 : Int32)) (S.1 16 1 0).toNatClampNeg) (
      zg (zin (a4 + (2 : Int32)) (S.1 16 1 0).toNatClampNeg) (
      (zX_word d (S.1 16 0 (zx (a4 + (1 : Int32)))) (S.1 16 0 (zx (a4 + (2 : Int32)))) S).bind (fun r23 =>
      zg (zin (a4 + (1 : Int32)) (r23.2.1 16 1 0).toNatClampNeg) (
      zg (zin (a4 + (2 : Int32)) (r23.2.1 16 1 0).toNatClampNeg) (
      (zM_word d (r23.2.1 16 0 (zx (a4 + (1 : Int32)))) (r23.2.1 16 0 (zx (a4 + (2 : Int32)))) r23.2).bind (fun r24 =>
      zif (r23.1 = r24.1) (
        zY_law_23 d (a4 + (7 : Int32)) r24.2) (
        some ((0 : Int32), r24.2))))))))) (
    zif (((S.1 16 0 (zx a4)) &&& (31 : Int32)) = (14 : Int32)) (
      zg (zin (a4 + (1 : Int32)) (S.1 16 1 0).toNatClampNeg) (
      zg (zin (a4 + (2 : Int32)) (S.1 16 1 0).toNatClampNeg) (
      zg (zin (a4 + (3 : Int32)) (S.1 16 1 0).toNatClampNeg) (
      zg (zin (a4 + (4 : Int32)) (S.1 16 1 0).toNatClampNeg) (
      (zX_bill d (S.1 16 0 (zx (a4 + (1 : Int32)))) (S.1 16 0 (zx (a4 + (2 : Int32)))) (S.1 16 0 (zx (a4 + (3 : Int32)))) (S.1 16 0 (zx (a4 + (4 : Int32)))) S).bind (fun r25 =>
      zg (zin (a4 + (1 : Int32)) (r25.2.1 16 1 0).toNatClampNeg) (
      zg (zin (a4 + (2 : Int32)) (r25.2.1 16 1 0).toNatClampNeg) (
      zg (zin (a4 + (3 : Int32)) (r25.2.1 16 1 0).toNatClampNeg) (
      zg (zin (a4 + (4 : Int32)) (r25.2.1 16 1 0).toNatClampNeg) (
      (zM_bill d (r25.2.1 16 0 (zx (a4 + (1 : Int32)))) (r25.2.1 16 0 (zx (a4 + (2 : Int32)))) (r25.2.1 16 0 (zx (a4 + (3 : Int32)))) (r25.2.1 16 0 (zx (a4 + (4 : Int32)))) r25.2).bind (fun r26 =>
      zif (r25.1 = r26.1) (
        zY_law_23 d (a4 + (7 : Int32)) r26.2) (
        some ((0 : Int32), r26.2))))))))))))) (
    zif (((S.1 16 0 (zx a4)) &&& (31 : Int32)) = (15 : Int32)) (
      zg (zin (a4 + (1 : Int32)) (S.1 16 1 0).toNatClampNeg) (
      zg (zin (a4 + (2 : Int32)) (S.1 16 1 0).toNatClampNeg) (
      zg (zin (a4 + (3 : Int32)) (S.1 16 1 0).toNatClampNeg) (
      (zX_would d (S.1 16 0 (zx (a4 + (1 : Int32)))) (S.1 16 0 (zx (a4 + (2 : Int32)))) (S.1 16 0 (zx (a4 + (3 : Int32)))) S).bind (fun r27 =>
      zg (zin (a4 + (1 : Int32)) (r27.2.1 16 1 0).toNatClampNeg) (
      zg (zin (a4 + (2 : Int32)) (r27.2.1 16 1 0).toNatClampNeg) (
      zg (zin (a4 + (3 : Int32)) (r27.2.1 16 1 0).toNatClampNeg) (
      (zM_would d (r27.2.1 16 0 (zx (a4 + (1 : Int32)))) (r27.2.1 16 0 (zx (a4 + (2 : Int32)))) (r27.2.1 16 0 (zx (a4 + (3 : Int32)))) r27.2).bind (fun r28 =>
      zif (r27.1 = r28.1) (
        zY_law_23 d (a4 + (7 : Int32)) r28.2) (
        some ((0 : Int32), r28.2))))))))))) (
    zif (((S.1 16 0 (zx a4)) &&& (31 : Int32)) = (16 : Int32)) (
      zg (zin (a4 + (1 : Int32)) (S.1 16 1 0).toNatClampNeg) (
      zg (zin (a4 + (2 : Int32)) (S.1 16 1 0).toNatClampNeg) (
      zg (zin (a4 + (3 : Int32)) (S.1 16 1 0).toNatClampNeg) (
      zg (zin (a4 + (4 : Int32)) (S.1 16 1 0).toNatClampNeg) (
      zg (zin (a4 + (5 : Int32)) (S.1 16 1 0).toNatClampNeg) (
      zg (zin (a4 + (6 : Int32)) (S.1 16 1 0).toNatClampNeg) (
      (zX_block d (S.1 16 0 (zx (a4 + (1 : Int32)))) (S.1 16 0 (zx (a4 + (2 : Int32)))) (S.1 16 0 (zx (a4 + (3 : Int32)))) (S.1 16 0 (zx (a4 + (4 : Int32)))) (S.1 16 0 (zx (a4 + (5 : Int32)))) (S.1 16 0 (zx (a4 + (6 : Int32)))) S).bind (fun r29 =>
      zg (zin (a4 + (1 : Int32)) (r29.2.1 16 1 0).toNatClampNeg) (
      zg (zin (a4 + (2 : Int32)) (r29.2.1 16 1 0).toNatClampNeg) (
      zg (zin (a4 + (3 : Int32)) (r29.2.1 16 1 0).toNatClampNeg) (
      zg (zin (a4 + (4 : Int32)) (r29.2.1 16 1 0).toNatClampNeg) (
      zg (zin (a4 + (5 : Int32)) (r29.2.1 16 1 0).toNatClampNeg) (
      zg (zin (a4 + (6 : Int32)) (r29.2.1 16 1 0).toNatClampNeg) (
      (zM_block d (r29.2.1 16 0 (zx (a4 + (1 : Int32)))) (r29.2.1 16 0 (zx (a4 + (2 : Int32)))) (r29.2.1 16 0 (zx (a4 + (3 : Int32)))) (r29.2.1 16 0 (zx (a4 + (4 : Int32)))) (r29.2.1 16 0 (zx (a4 + (5 : Int32)))) (r29.2.1 16 0 (zx (a4 + (6 : Int32)))) r29.2).bind (fun r30 =>
      zif (r29.1 = r30.1) (
        zY_law_23 d (a4 + (7 : Int32)) r30.2) (
        some ((0 : Int32), r30.2))))))))))))))))) (
    zif (((S.1 16 0 (zx a4)) &&& (31 : Int32)) = (17 : Int32)) (
      zg (zin (a4 + (1 : Int32)) (S.1 16 1 0).toNatClampNeg) (
      zg (zin (a4 + (2 : Int32)) (S.1 16 1 0).toNatClampNeg) (
      zg (zin (a4 + (3 : Int32)) (S.1 16 1 0).toNatClampNeg) (
      zg (zin (a4 + (4 : Int32)) (S.1 16 1 0).toNatClampNeg) (
      (zX_laid d (S.1 16 0 (zx (a4 + (1 : Int32)))) (S.1 16 0 (zx (a4 + (2 : Int32)))) (S.1 16 0 (zx (a4 + (3 : Int32)))) (S.1 16 0 (zx (a4 + (4 : Int32)))) S).bind (fun r31 =>
      zg (zin (a4 + (1 : Int32)) (r31.2.1 16 1 0).toNatClampNeg) (
      zg (zin (a4 + (2 : Int32)) (r31.2.1 16 1 0).toNatClampNeg) (
      zg (zin (a4 + (3 : Int32)) (r31.2.1 16 1 0).toNatClampNeg) (
      zg (zin (a4 + (4 : Int32)) (r31.2.1 16 1 0).toNatClampNeg) (
      (zM_laid d (r31.2.1 16 0 (zx (a4 + (1 : Int32)))) (r31.2.1 16 0 (zx (a4 + (2 : Int32)))) (r31.2.1 16 0 (zx (a4 + (3 : Int32)))) (r31.2.1 16 0 (zx (a4 + (4 : Int32)))) r31.2).bind (fun r32 =>
      zif (r31.1 = r32.1) (
        zY_law_23 d (a4 + (7 : Int32)) r32.2) (
        some ((0 : Int32), r32.2))))))))))))) (
    zif (((S.1 16 0 (zx a4)) &&& (31 : Int32)) = (18 : Int32)) (
      zg (zin (a4 + (1 : Int32)) (S.1 16 1 0).toNatClampNeg) (
      zg (zin (a4 + (2 : Int32)) (S.1 16 1 0).toNatClampNeg) (
      zg (zin (a4 + (3 : Int32)) (S.1 16 1 0).toNatClampNeg) (
      (zX_lost d (S.1 16 0 (zx (a4 + (1 : Int32)))) (S.1 16 0 (zx (a4 + (2 : Int32)))) (S.1 16 0 (zx (a4 + (3 : Int32)))) S).bind (fun r33 =>
      zg (zin (a4 + (1 : Int32)) (r33.2.1 16 1 0).toNatClampNeg) (
      zg (zin (a4 + (2 : Int32)) (r33.2.1 16 1 0).toNatClampNeg) (
      zg (zin (a4 + (3 : Int32)) (r33.2.1 16 1 0).toNatClampNeg) (
      (zM_lost d (r33.2.1 16 0 (zx (a4 + (1 : Int32)))) (r33.2.1 16 0 (zx (a4 + (2 : Int32)))) (r33.2.1 16 0 (zx (a4 + (3 : Int32)))) r33.2).bind (fun r34 =>
      zif (r33.1 = r34.1) (
        zY_law_23 d (a4 + (7 : Int32)) r34.2) (
        some ((0 : Int32), r34.2))))))))))) (
    zif (((S.1 16 0 (zx a4)) &&& (31 : Int32)) = (19 : Int32)) (
      zg (zin (a4 + (1 : Int32)) (S.1 16 1 0).toNatClampNeg) (
      zg (zin (a4 + (2 : Int32)) (S.1 16 1 0).toNatClampNeg) (
      zg (zin (a4 + (3 : Int32)) (S.1 16 1 0).toNatClampNeg) (
      zg (zin (a4 + (4 : Int32)) (S.1 16 1 0).toNatClampNeg) (
      (zX_more d (S.1 16 0 (zx (a4 + (1 : Int32)))) (S.1 16 0 (zx (a4 + (2 : Int32)))) (S.1 16 0 (zx (a4 + (3 : Int32)))) (S.1 16 0 (zx (a4 + (4 : Int32)))) S).bind (fun r35 =>
      zg (zin (a4 + (1 : Int32)) (r35.2.1 16 1 0).toNatClampNeg) (
      zg (zin (a4 + (2 : Int32)) (r35.2.1 16 1 0).toNatClampNeg) (
      zg (zin (a4 + (3 : Int32)) (r35.2.1 16 1 0).toNatClampNeg) (
      zg (zin (a4 + (4 : Int32)) (r35.2.1 16 1 0).toNatClampNeg) (
      (zM_more d (r35.2.1 16 0 (zx (a4 + (1 : Int32)))) (r35.2.1 16 0 (zx (a4 + (2 : Int32)))) (r35.2.1 16 0 (zx (a4 + (3 : Int32)))) (r35.2.1 16 0 (zx (a4 + (4 : Int32)))) r35.2).bind (fun r36 =>
      zif (r35.1 = r36.1) (
        zY_law_23 d (a4 + (7 : Int32)) r36.2) (
        some ((0 : Int32), r36.2))))))))))))) (
    zif (((S.1 16 0 (zx a4)) &&& (31 : Int32)) = (20 : Int32)) (
      zg (zin (a4 + (1 : Int32)) (S.1 16 1 0).toNatClampNeg) (
      zg (zin (a4 + (2 : Int32)) (S.1 16 1 0).toNatClampNeg) (
      zg (zin (a4 + (3 : Int32)) (S.1 16 1 0).toNatClampNeg) (
      (zX_test d (S.1 16 0 (zx (a4 + (1 : Int32)))) (S.1 16 0 (zx (a4 + (2 : Int32)))) (S.1 16 0 (zx (a4 + (3 : Int32)))) S).bind (fun r37 =>
      zg (zin (a4 + (1 : Int32)) (r37.2.1 16 1 0).toNatClampNeg) (
      zg (zin (a4 + (2 : Int32)) (r37.2.1 16 1 0).toNatClampNeg) (
      zg (zin (a4 + (3 : Int32)) (r37.2.1 16 1 0).toNatClampNeg) (
      (zM_test d (r37.2.1 16 0 (zx (a4 + (1 : Int32)))) (r37.2.1 16 0 (zx (a4 + (2 : Int32)))) (r37.2.1 16 0 (zx (a4 + (3 : Int32)))) r37.2).bind (fun r38 =>
      zif (r37.1 = r38.1) (
        zY_law_23 d (a4 + (7 : Int32)) r38.2) (
        some ((0 : Int32), r38.2))))))))))) (
    zif (((S.1 16 0 (zx a4)) &&& (31 : Int32)) = (21 : Int32)) (
      zg (zin (a4 + (1 : Int32)) (S.1 16 1 0).toNatClampNeg) (
      (zX_explain d (S.1 16 0 (zx (a4 + (1 : Int32)))) S).bind (fun r39 =>
      zg (zin (a4 + (1 : Int32)) (r39.2.1 16 1 0).toNatClampNeg) (
      (zM_explain d (r39.2.1 16 0 (zx (a4 + (1 : Int32)))) r39.2).bind (fun r40 =>
      zif (r39.1 = r40.1) (
        zY_law_23 d (a4 + (7 : Int32)) r40.2) (
        some ((0 : Int32), r40.2))))))) (
    zif (((S.1 16 0 (zx a4)) &&& (31 : Int32)) = (22 : Int32)) (
      zg (zin (a4 + (1 : Int32)) (S.1 16 1 0).toNatClampNeg) (
      (zX_sure d (S.1 16 0 (zx (a4 + (1 : Int32)))) S).bind (fun r41 =>
      zg (zin (a4 + (1 : Int32)) (r41.2.1 16 1 0).toNatClampNeg) (
      (zM_sure d (r41.2.1 16 0 (zx (a4 + (1 : Int32)))) r41.2).bind (fun r42 =>
      zif (r41.1 = r42.1) (
        zY_law_23 d (a4 + (7 : Int32)) r42.2) (
        some ((0 : Int32), r42.2))))))) (
    zif (((S.1 16 0 (zx a4)) &&& (31 : Int32)) = (23 : Int32)) (
      (zX_forget d S).bind (fun r43 =>
      (zM_forget d r43.2).bind (fun r44 =>
      zif (r43.1 = r44.1) (
        zY_law_23 d (a4 + (7 : Int32)) r44.2) (
        some ((0 : Int32), r44.2))))) (
    zif (((S.1 16 0 (zx a4)) &&& (31 : Int32)) = (24 : Int32)) (
      zg (zin (a4 + (1 : Int32)) (S.1 16 1 0).toNatClampNeg) (
      zg (zin (a4 + (2 : Int32)) (S.1 16 1 0).toNatClampNeg) (
      (zci (zcall d) 1008 [zr 10 0, zi (S.1 16 0 (zx (a4 + (1 : Int32)))), zi (S.1 16 0 (zx (a4 + (2 : Int32)))), zr 17 0] S).bind (fun r45 =>
      zg (zin (a4 + (1 : Int32)) (r45.2.1 16 1 0).toNatClampNeg) (
      zg (zin (a4 + (2 : Int32)) (r45.2.1 16 1 0).toNatClampNeg) (
      (zM_look d (r45.2.1 16 0 (zx (a4 + (1 : Int32)))) (r45.2.1 16 0 (zx (a4 + (2 : Int32)))) r45.2).bind (fun r46 =>
      (zM_thrown d r46.2).bind (fun r47 =>
      zif (r47.1 = r45.1) (
        zif (r45.1 = 0) (
          zg (zin (0 : Int32) 1) (
          zif ((lg_cmp (r47.2.2.1 17 0 (zx (0 : Int32))) r46.1.toInt64) = 0) (
            zY_law_23 d (a4 + (7 : Int32)) r47.2) (
            some ((0 : Int32), r47.2)))) (
          zY_law_23 d (a4 + (7 : Int32)) r47.2)) (
        some ((0 : Int32), r47.2)))))))))) (
    zif (((S.1 16 0 (zx a4)) &&& (31 : Int32)) = (25 : Int32)) (
      zg (zin (a4 + (1 : Int32)) (S.1 16 1 0).toNatClampNeg) (
      zg (zin (a4 + (2 : Int32)) (S.1 16 1 0).toNatClampNeg) (
      (zX_path d (S.1 16 0 (zx (a4 + (1 : Int32)))) (S.1 16 0 (zx (a4 + (2 : Int32)))) S).bind (fun r48 =>
      zg (zin (a4 + (1 : Int32)) (r48.2.1 16 1 0).toNatClampNeg) (
      zg (zin (a4 + (2 : Int32)) (r48.2.1 16 1 0).toNatClampNeg) (
      (zM_path d (r48.2.1 16 0 (zx (a4 + (1 : Int32)))) (r48.2.1 16 0 (zx (a4 + (2 : Int32)))) r48.2).bind (fun r49 =>
      zif (r48.1 = r49.1) (
        zY_law_23 d (a4 + (7 : Int32)) r49.2) (
        some ((0 : Int32), r49.2))))))))) (
    zif (((S.1 16 0 (zx a4)) &&& (31 : Int32)) = (26 : Int32)) (
      zg (zin (a4 + (1 : Int32)) (S.1 16 1 0).toNatClampNeg) (
      (zX_held d (S.1 16 0 (zx (a4 + (1 : Int32)))) S).bind (fun r50 =>
      zg (zin (a4 + (1 : Int32)) (r50.2.1 16 1 0).toNatClampNeg) (
      (zM_held d (r50.2.1 16 0 (zx (a4 + (1 : Int32)))) r50.2).bind (fun r51 =>
      zif (r50.1 = r51.1) (
        zY_law_23 d (a4 + (7 : Int32)) r51.2) (
        some ((0 : Int32), r51.2))))))) (
    zif (((S.1 16 0 (zx a4)) &&& (31 : Int32)) = (27 : Int32)) (
      zg (zin (a4 + (1 : Int32)) (S.1 16 1 0).toNatClampNeg) (
      zg (zin (a4 + (2 : Int32)) (S.1 16 1 0).toNatClampNeg) (
      (zX_book d (S.1 16 0 (zx (a4 + (1 : Int32)))) (S.1 16 0 (zx (a4 + (2 : Int32)))) S).bind (fun r52 =>
      zg (zin (a4 + (1 : Int32)) (r52.2.1 16 1 0).toNatClampNeg) (
      zg (zin (a4 + (2 : Int32)) (r52.2.1 16 1 0).toNatClampNeg) (
      (zM_book d (r52.2.1 16 0 (zx (a4 + (1 : Int32)))) (r52.2.1 16 0 (zx (a4 + (2 : Int32)))) r52.2).bind (fun r53 =>
      zif (r52.1 = r53.1) (
        zY_law_23 d (a4 + (7 : Int32)) r53.2) (
        some ((0 : Int32), r53.2))))))))) (
    zif (((S.1 16 0 (zx a4)) &&& (31 : Int32)) = (28 : Int32)) (
      zg (zin (a4 + (1 : Int32)) (S.1 16 1 0).toNatClampNeg) (
      (zX_count d (S.1 16 0 (zx (a4 + (1 : Int32)))) S).bind (fun r54 =>
      zg (zin (a4 + (1 : Int32)) (r54.2.1 16 1 0).toNatClampNeg) (
      (zM_count d (r54.2.1 16 0 (zx (a4 + (1 : Int32)))) r54.2).bind (fun r55 =>
      zif (r54.1 = r55.1) (
        zY_law_23 d (a4 + (7 : Int32)) r55.2) (
        some ((0 : Int32), r55.2))))))) (
    zY_law_23 d (a4 + (7 : Int32)) S))))))))))))))))))))))))))))))) := zeqi d 212 13 23 [some (zr 16 0), some (zr 10 0), some (zr 11 0), some (zr 17 0), some (zi a4), none, none] [] S
set_option maxRecDepth 100000 in
theorem eY_law_426 (d : Nat) (a4 : Int32) (s0 : Int32) (s1 : Int32) (S : ZS) : zY_law_426 d a4 s0 s1 S =
  (zX_out d s1 s0 S).bind (fun r1 =>
  zg (zin (a4 + (1 : Int32)) (r1.2.1 16 1 0).toNatClampNeg) (
  zg (zin (a4 + (2 : Int32)) (r1.2.1 16 1 0).toNatClampNeg) (
  zif ((r1.2.1 16 0 (zx (a4 + (2 : Int32)))) = 0) (
    (zM_out d (r1.2.1 16 0 (zx (a4 + (1 : Int32)))) (0 : Int32) r1.2).bind (fun r2 =>
    zif (r1.1 = r2.1) (
      zY_law_23 d (a4 + (7 : Int32)) r2.2) (
      some ((0 : Int32), r2.2)))) (
    (zM_out d (r1.2.1 16 0 (zx (a4 + (1 : Int32)))) (1 : Int32) r1.2).bind (fun r3 =>
    zif (r1.1 = r3.1) (
      zY_law_23 d (a4 + (7 : Int32)) r3.2) (
      some ((0 : Int32), r3.2))))))) := zeqi d 212 13 426 [some (zr 16 0), some (zr 10 0), some (zr 11 0), some (zr 17 0), some (zi a4), none, none] [zi s0, zi s1, zr 10 0] S
set_option maxRecDepth 100000 in
theorem eY_law_479 (d : Nat) (a4 : Int32) (s0 : Int32) (s1 : Int32) (S : ZS) : zY_law_479 d a4 s0 s1 S =
  (zX_faulty d s1 s0 S).bind (fun r1 =>
  zg (zin (a4 + (1 : Int32)) (r1.2.1 16 1 0).toNatClampNeg) (
  zg (zin (a4 + (2 : Int32)) (r1.2.1 16 1 0).toNatClampNeg) (
  zif ((r1.2.1 16 0 (zx (a4 + (2 : Int32)))) = 0) (
    (zM_faulty d (r1.2.1 16 0 (zx (a4 + (1 : Int32)))) (0 : Int32) r1.2).bind (fun r2 =>
    zif (r1.1 = r2.1) (
      zY_law_23 d (a4 + (7 : Int32)) r2.2) (
      some ((0 : Int32), r2.2)))) (
    (zM_faulty d (r1.2.1 16 0 (zx (a4 + (1 : Int32)))) (1 : Int32) r1.2).bind (fun r3 =>
    zif (r1.1 = r3.1) (
      zY_law_23 d (a4 + (7 : Int32)) r3.2) (
      some ((0 : Int32), r3.2))))))) := zeqi d 212 13 479 [some (zr 16 0), some (zr 10 0), some (zr 11 0), some (zr 17 0), some (zi a4), none, none] [zi s0, zi s1, zr 10 0] S
end
