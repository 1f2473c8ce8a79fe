section
-- ===== PART A: goes FIRST, ahead of the names: the tables' words, and 'selects' of the private methods out of them =====
/-- a private method of a class that the tables say can be made, by its rows of tables_1 -/
def lw_okq (q : MethodName × Nat) : Prop := (q.1.cls ≠ "java/lang/invoke/MethodHandle" ∧ q.1.cls ≠ "java/lang/invoke/VarHandle") ∧ Cond.instantiable q.1.cls q.2 ∈ tables_1 ∧ Cond.privateMethod q.1 ∈ tables_1 ∧ Cond.instanceMethod q.1 ∈ tables_1
theorem lw_p0 : lw_okq (⟨"TownExchange$Calls", "hold", "(LTownExchange$Line;II)V"⟩, 4) := ⟨⟨by decide +kernel, by decide +kernel⟩, List.mem_of_getElem? (i := 85) (by decide +kernel), List.mem_of_getElem? (i := 526) (by decide +kernel), List.mem_of_getElem? (i := 527) (by decide +kernel)⟩
theorem lw_p1 : lw_okq (⟨"TownExchange$Calls", "stepFinal", "(LTownExchange$Line;I)V"⟩, 4) := ⟨⟨by decide +kernel, by decide +kernel⟩, List.mem_of_getElem? (i := 85) (by decide +kernel), List.mem_of_getElem? (i := 563) (by decide +kernel), List.mem_of_getElem? (i := 564) (by decide +kernel)⟩
theorem lw_p2 : lw_okq (⟨"TownExchange$Calls", "hunt", "(LTownExchange$Line;II)V"⟩, 4) := ⟨⟨by decide +kernel, by decide +kernel⟩, List.mem_of_getElem? (i := 85) (by decide +kernel), List.mem_of_getElem? (i := 572) (by decide +kernel), List.mem_of_getElem? (i := 573) (by decide +kernel)⟩
theorem lw_p3 : lw_okq (⟨"TownExchange$Tariff", "firstMet", "()I"⟩, 13) := ⟨⟨by decide +kernel, by decide +kernel⟩, List.mem_of_getElem? (i := 288) (by decide +kernel), List.mem_of_getElem? (i := 611) (by decide +kernel), List.mem_of_getElem? (i := 612) (by decide +kernel)⟩
theorem lw_p4 : lw_okq (⟨"TownExchange$Tariff", "resultOf", "(II)I"⟩, 13) := ⟨⟨by decide +kernel, by decide +kernel⟩, List.mem_of_getElem? (i := 288) (by decide +kernel), List.mem_of_getElem? (i := 615) (by decide +kernel), List.mem_of_getElem? (i := 616) (by decide +kernel)⟩
theorem lw_p5 : lw_okq (⟨"TownExchange$Tariff", "operand", "(I)I"⟩, 13) := ⟨⟨by decide +kernel, by decide +kernel⟩, List.mem_of_getElem? (i := 288) (by decide +kernel), List.mem_of_getElem? (i := 619) (by decide +kernel), List.mem_of_getElem? (i := 620) (by decide +kernel)⟩
theorem lw_p6 : lw_okq (⟨"TownExchange", "today", "()I"⟩, 10) := ⟨⟨by decide +kernel, by decide +kernel⟩, List.mem_of_getElem? (i := 28) (by decide +kernel), List.mem_of_getElem? (i := 627) (by decide +kernel), List.mem_of_getElem? (i := 628) (by decide +kernel)⟩
theorem lw_p7 : lw_okq (⟨"TownExchange$Tape", "runFrom", "(ICC)I"⟩, 6) := ⟨⟨by decide +kernel, by decide +kernel⟩, List.mem_of_getElem? (i := 260) (by decide +kernel), List.mem_of_getElem? (i := 676) (by decide +kernel), List.mem_of_getElem? (i := 677) (by decide +kernel)⟩
theorem lw_p8 : lw_okq (⟨"TownExchange$Tape", "wordRead", "()LTownExchange$Word;"⟩, 6) := ⟨⟨by decide +kernel, by decide +kernel⟩, List.mem_of_getElem? (i := 260) (by decide +kernel), List.mem_of_getElem? (i := 683) (by decide +kernel), List.mem_of_getElem? (i := 684) (by decide +kernel)⟩
theorem lw_p9 : lw_okq (⟨"TownExchange$Tariff", "passFirst", "()Z"⟩, 13) := ⟨⟨by decide +kernel, by decide +kernel⟩, List.mem_of_getElem? (i := 288) (by decide +kernel), List.mem_of_getElem? (i := 806) (by decide +kernel), List.mem_of_getElem? (i := 807) (by decide +kernel)⟩
theorem lw_p10 : lw_okq (⟨"TownExchange$Tariff", "fail", "(I)Z"⟩, 13) := ⟨⟨by decide +kernel, by decide +kernel⟩, List.mem_of_getElem? (i := 288) (by decide +kernel), List.mem_of_getElem? (i := 812) (by decide +kernel), List.mem_of_getElem? (i := 813) (by decide +kernel)⟩
theorem lw_p11 : lw_okq (⟨"TownExchange$Tariff", "readLet", "()Z"⟩, 13) := ⟨⟨by decide +kernel, by decide +kernel⟩, List.mem_of_getElem? (i := 288) (by decide +kernel), List.mem_of_getElem? (i := 817) (by decide +kernel), List.mem_of_getElem? (i := 818) (by decide +kernel)⟩
theorem lw_p12 : lw_okq (⟨"TownExchange$Tariff", "slotOf", "(J)I"⟩, 13) := ⟨⟨by decide +kernel, by decide +kernel⟩, List.mem_of_getElem? (i := 288) (by decide +kernel), List.mem_of_getElem? (i := 830) (by decide +kernel), List.mem_of_getElem? (i := 831) (by decide +kernel)⟩
theorem lw_p13 : lw_okq (⟨"TownExchange$Tariff", "passSign", "(C)Z"⟩, 13) := ⟨⟨by decide +kernel, by decide +kernel⟩, List.mem_of_getElem? (i := 288) (by decide +kernel), List.mem_of_getElem? (i := 834) (by decide +kernel), List.mem_of_getElem? (i := 835) (by decide +kernel)⟩
theorem lw_p14 : lw_okq (⟨"TownExchange$Tariff", "readOperations", "(II)Z"⟩, 13) := ⟨⟨by decide +kernel, by decide +kernel⟩, List.mem_of_getElem? (i := 288) (by decide +kernel), List.mem_of_getElem? (i := 842) (by decide +kernel), List.mem_of_getElem? (i := 843) (by decide +kernel)⟩
theorem lw_p15 : lw_okq (⟨"TownExchange$Tariff", "readPart", "(I)Z"⟩, 13) := ⟨⟨by decide +kernel, by decide +kernel⟩, List.mem_of_getElem? (i := 288) (by decide +kernel), List.mem_of_getElem? (i := 846) (by decide +kernel), List.mem_of_getElem? (i := 847) (by decide +kernel)⟩
def lw_privs_1 : List (MethodName × Nat) := [(⟨"TownExchange$Calls", "hold", "(LTownExchange$Line;II)V"⟩, 4), (⟨"TownExchange$Calls", "stepFinal", "(LTownExchange$Line;I)V"⟩, 4), (⟨"TownExchange$Calls", "hunt", "(LTownExchange$Line;II)V"⟩, 4), (⟨"TownExchange$Tariff", "firstMet", "()I"⟩, 13), (⟨"TownExchange$Tariff", "resultOf", "(II)I"⟩, 13), (⟨"TownExchange$Tariff", "operand", "(I)I"⟩, 13), (⟨"TownExchange", "today", "()I"⟩, 10), (⟨"TownExchange$Tape", "runFrom", "(ICC)I"⟩, 6), (⟨"TownExchange$Tape", "wordRead", "()LTownExchange$Word;"⟩, 6), (⟨"TownExchange$Tariff", "passFirst", "()Z"⟩, 13), (⟨"TownExchange$Tariff", "fail", "(I)Z"⟩, 13), (⟨"TownExchange$Tariff", "readLet", "()Z"⟩, 13), (⟨"TownExchange$Tariff", "slotOf", "(J)I"⟩, 13), (⟨"TownExchange$Tariff", "passSign", "(C)Z"⟩, 13), (⟨"TownExchange$Tariff", "readOperations", "(II)Z"⟩, 13), (⟨"TownExchange$Tariff", "readPart", "(I)Z"⟩, 13)]
theorem lw_r1 : ∀ q ∈ lw_privs_1, lw_okq q := List.forall_mem_cons.mpr ⟨lw_p0, List.forall_mem_cons.mpr ⟨lw_p1, List.forall_mem_cons.mpr ⟨lw_p2, List.forall_mem_cons.mpr ⟨lw_p3, List.forall_mem_cons.mpr ⟨lw_p4, List.forall_mem_cons.mpr ⟨lw_p5, List.forall_mem_cons.mpr ⟨lw_p6, List.forall_mem_cons.mpr ⟨lw_p7, List.forall_mem_cons.mpr ⟨lw_p8, List.forall_mem_cons.mpr ⟨lw_p9, List.forall_mem_cons.mpr ⟨lw_p10, List.forall_mem_cons.mpr ⟨lw_p11, List.forall_mem_cons.mpr ⟨lw_p12, List.forall_mem_cons.mpr ⟨lw_p13, List.forall_mem_cons.mpr ⟨lw_p14, List.forall_mem_cons.mpr ⟨lw_p15, fun _ h => absurd h List.not_mem_nil⟩⟩⟩⟩⟩⟩⟩⟩⟩⟩⟩⟩⟩⟩⟩⟩
theorem lw_p16 : lw_okq (⟨"TownExchange$Tariff", "readWithin", "(ZI)Z"⟩, 13) := ⟨⟨by decide +kernel, by decide +kernel⟩, List.mem_of_getElem? (i := 288) (by decide +kernel), List.mem_of_getElem? (i := 860) (by decide +kernel), List.mem_of_getElem? (i := 861) (by decide +kernel)⟩
theorem lw_p17 : lw_okq (⟨"TownExchange$Tariff", "put", "(I)V"⟩, 13) := ⟨⟨by decide +kernel, by decide +kernel⟩, List.mem_of_getElem? (i := 288) (by decide +kernel), List.mem_of_getElem? (i := 864) (by decide +kernel), List.mem_of_getElem? (i := 865) (by decide +kernel)⟩
theorem lw_p18 : lw_okq (⟨"TownExchange$Tariff", "operationAt", "(I)I"⟩, 13) := ⟨⟨by decide +kernel, by decide +kernel⟩, List.mem_of_getElem? (i := 288) (by decide +kernel), List.mem_of_getElem? (i := 872) (by decide +kernel), List.mem_of_getElem? (i := 873) (by decide +kernel)⟩
theorem lw_p19 : lw_okq (⟨"TownExchange$Tariff", "readUnit", "()Z"⟩, 13) := ⟨⟨by decide +kernel, by decide +kernel⟩, List.mem_of_getElem? (i := 288) (by decide +kernel), List.mem_of_getElem? (i := 880) (by decide +kernel), List.mem_of_getElem? (i := 881) (by decide +kernel)⟩
theorem lw_p20 : lw_okq (⟨"TownExchange$Tariff", "isNumberWithin", "(II)Z"⟩, 13) := ⟨⟨by decide +kernel, by decide +kernel⟩, List.mem_of_getElem? (i := 288) (by decide +kernel), List.mem_of_getElem? (i := 884) (by decide +kernel), List.mem_of_getElem? (i := 885) (by decide +kernel)⟩
theorem lw_p21 : lw_okq (⟨"TownExchange$Tariff", "passWord", "(LTownExchange$Word;)Z"⟩, 13) := ⟨⟨by decide +kernel, by decide +kernel⟩, List.mem_of_getElem? (i := 288) (by decide +kernel), List.mem_of_getElem? (i := 890) (by decide +kernel), List.mem_of_getElem? (i := 891) (by decide +kernel)⟩
theorem lw_p22 : lw_okq (⟨"TownExchange$Ledger", "unitsKnown", "(II)I"⟩, 9) := ⟨⟨by decide +kernel, by decide +kernel⟩, List.mem_of_getElem? (i := 224) (by decide +kernel), List.mem_of_getElem? (i := 914) (by decide +kernel), List.mem_of_getElem? (i := 915) (by decide +kernel)⟩
theorem lw_p23 : lw_okq (⟨"TownExchange", "mayDial", "(III)Z"⟩, 10) := ⟨⟨by decide +kernel, by decide +kernel⟩, List.mem_of_getElem? (i := 28) (by decide +kernel), List.mem_of_getElem? (i := 922) (by decide +kernel), List.mem_of_getElem? (i := 923) (by decide +kernel)⟩
theorem lw_p24 : lw_okq (⟨"TownExchange", "blocksNext", "(IIIIII)Z"⟩, 10) := ⟨⟨by decide +kernel, by decide +kernel⟩, List.mem_of_getElem? (i := 28) (by decide +kernel), List.mem_of_getElem? (i := 943) (by decide +kernel), List.mem_of_getElem? (i := 944) (by decide +kernel)⟩
theorem lw_p25 : lw_okq (⟨"TownExchange$Relay", "canLay", "(LTownExchange$Wish;)Z"⟩, 6) := ⟨⟨by decide +kernel, by decide +kernel⟩, List.mem_of_getElem? (i := 111) (by decide +kernel), List.mem_of_getElem? (i := 961) (by decide +kernel), List.mem_of_getElem? (i := 962) (by decide +kernel)⟩
theorem lw_p26 : lw_okq (⟨"TownExchange$Relay", "layOver", "(LTownExchange$Wish;II)Z"⟩, 6) := ⟨⟨by decide +kernel, by decide +kernel⟩, List.mem_of_getElem? (i := 111) (by decide +kernel), List.mem_of_getElem? (i := 965) (by decide +kernel), List.mem_of_getElem? (i := 966) (by decide +kernel)⟩
theorem lw_p27 : lw_okq (⟨"TownExchange$Relay", "goesOn", "(LTownExchange$Wish;II)Z"⟩, 6) := ⟨⟨by decide +kernel, by decide +kernel⟩, List.mem_of_getElem? (i := 111) (by decide +kernel), List.mem_of_getElem? (i := 971) (by decide +kernel), List.mem_of_getElem? (i := 972) (by decide +kernel)⟩
theorem lw_p28 : lw_okq (⟨"TownExchange$Relay", "restIsLaid", "(LTownExchange$Wish;)Z"⟩, 6) := ⟨⟨by decide +kernel, by decide +kernel⟩, List.mem_of_getElem? (i := 111) (by decide +kernel), List.mem_of_getElem? (i := 980) (by decide +kernel), List.mem_of_getElem? (i := 981) (by decide +kernel)⟩
theorem lw_p29 : lw_okq (⟨"TownExchange$Relay", "laysBoth", "(LTownExchange$Line;)Z"⟩, 6) := ⟨⟨by decide +kernel, by decide +kernel⟩, List.mem_of_getElem? (i := 111) (by decide +kernel), List.mem_of_getElem? (i := 995) (by decide +kernel), List.mem_of_getElem? (i := 996) (by decide +kernel)⟩
theorem lw_p30 : lw_okq (⟨"TownExchange$Loss", "countEnd", "(IIII)V"⟩, 4) := ⟨⟨by decide +kernel, by decide +kernel⟩, List.mem_of_getElem? (i := 163) (by decide +kernel), List.mem_of_getElem? (i := 1016) (by decide +kernel), List.mem_of_getElem? (i := 1017) (by decide +kernel)⟩
theorem lw_p31 : lw_okq (⟨"TownExchange$Loss", "leadsWithin", "(IIIII)Z"⟩, 4) := ⟨⟨by decide +kernel, by decide +kernel⟩, List.mem_of_getElem? (i := 163) (by decide +kernel), List.mem_of_getElem? (i := 1025) (by decide +kernel), List.mem_of_getElem? (i := 1026) (by decide +kernel)⟩
def lw_privs_2 : List (MethodName × Nat) := [(⟨"TownExchange$Tariff", "readWithin", "(ZI)Z"⟩, 13), (⟨"TownExchange$Tariff", "put", "(I)V"⟩, 13), (⟨"TownExchange$Tariff", "operationAt", "(I)I"⟩, 13), (⟨"TownExchange$Tariff", "readUnit", "()Z"⟩, 13), (⟨"TownExchange$Tariff", "isNumberWithin", "(II)Z"⟩, 13), (⟨"TownExchange$Tariff", "passWord", "(LTownExchange$Word;)Z"⟩, 13), (⟨"TownExchange$Ledger", "unitsKnown", "(II)I"⟩, 9), (⟨"TownExchange", "mayDial", "(III)Z"⟩, 10), (⟨"TownExchange", "blocksNext", "(IIIIII)Z"⟩, 10), (⟨"TownExchange$Relay", "canLay", "(LTownExchange$Wish;)Z"⟩, 6), (⟨"TownExchange$Relay", "layOver", "(LTownExchange$Wish;II)Z"⟩, 6), (⟨"TownExchange$Relay", "goesOn", "(LTownExchange$Wish;II)Z"⟩, 6), (⟨"TownExchange$Relay", "restIsLaid", "(LTownExchange$Wish;)Z"⟩, 6), (⟨"TownExchange$Relay", "laysBoth", "(LTownExchange$Line;)Z"⟩, 6), (⟨"TownExchange$Loss", "countEnd", "(IIII)V"⟩, 4), (⟨"TownExchange$Loss", "leadsWithin", "(IIIII)Z"⟩, 4)]
theorem lw_r2 : ∀ q ∈ lw_privs_2, lw_okq q := List.forall_mem_cons.mpr ⟨lw_p16, List.forall_mem_cons.mpr ⟨lw_p17, List.forall_mem_cons.mpr ⟨lw_p18, List.forall_mem_cons.mpr ⟨lw_p19, List.forall_mem_cons.mpr ⟨lw_p20, List.forall_mem_cons.mpr ⟨lw_p21, List.forall_mem_cons.mpr ⟨lw_p22, List.forall_mem_cons.mpr ⟨lw_p23, List.forall_mem_cons.mpr ⟨lw_p24, List.forall_mem_cons.mpr ⟨lw_p25, List.forall_mem_cons.mpr ⟨lw_p26, List.forall_mem_cons.mpr ⟨lw_p27, List.forall_mem_cons.mpr ⟨lw_p28, List.forall_mem_cons.mpr ⟨lw_p29, List.forall_mem_cons.mpr ⟨lw_p30, List.forall_mem_cons.mpr ⟨lw_p31, fun _ h => absurd h List.not_mem_nil⟩⟩⟩⟩⟩⟩⟩⟩⟩⟩⟩⟩⟩⟩⟩⟩
theorem lw_p32 : lw_okq (⟨"TownExchange$Trouble", "markSound", "()V"⟩, 11) := ⟨⟨by decide +kernel, by decide +kernel⟩, List.mem_of_getElem? (i := 182) (by decide +kernel), List.mem_of_getElem? (i := 1064) (by decide +kernel), List.mem_of_getElem? (i := 1065) (by decide +kernel)⟩
theorem lw_p33 : lw_okq (⟨"TownExchange$Trouble", "choose", "(II)V"⟩, 11) := ⟨⟨by decide +kernel, by decide +kernel⟩, List.mem_of_getElem? (i := 182) (by decide +kernel), List.mem_of_getElem? (i := 1068) (by decide +kernel), List.mem_of_getElem? (i := 1069) (by decide +kernel)⟩
theorem lw_p34 : lw_okq (⟨"TownExchange$Trouble", "firstUnexplained", "(I)I"⟩, 11) := ⟨⟨by decide +kernel, by decide +kernel⟩, List.mem_of_getElem? (i := 182) (by decide +kernel), List.mem_of_getElem? (i := 1072) (by decide +kernel), List.mem_of_getElem? (i := 1073) (by decide +kernel)⟩
theorem lw_p35 : lw_okq (⟨"TownExchange$Trouble", "isExplained", "(II)Z"⟩, 11) := ⟨⟨by decide +kernel, by decide +kernel⟩, List.mem_of_getElem? (i := 182) (by decide +kernel), List.mem_of_getElem? (i := 1076) (by decide +kernel), List.mem_of_getElem? (i := 1077) (by decide +kernel)⟩
theorem lw_p36 : lw_okq (⟨"TownExchange$Trouble", "addSet", "(I)V"⟩, 11) := ⟨⟨by decide +kernel, by decide +kernel⟩, List.mem_of_getElem? (i := 182) (by decide +kernel), List.mem_of_getElem? (i := 1080) (by decide +kernel), List.mem_of_getElem? (i := 1081) (by decide +kernel)⟩
theorem lw_p37 : lw_okq (⟨"TownExchange$Trouble", "comesFirst", "(I)Z"⟩, 11) := ⟨⟨by decide +kernel, by decide +kernel⟩, List.mem_of_getElem? (i := 182) (by decide +kernel), List.mem_of_getElem? (i := 1084) (by decide +kernel), List.mem_of_getElem? (i := 1085) (by decide +kernel)⟩
theorem lw_p38 : lw_okq (⟨"java/lang/Throwable", "fillInStackTrace", "(I)Ljava/lang/Throwable;"⟩, 6) := ⟨⟨by decide +kernel, by decide +kernel⟩, List.mem_of_getElem? (i := 1179) (by decide +kernel), List.mem_of_getElem? (i := 1177) (by decide +kernel), List.mem_of_getElem? (i := 1178) (by decide +kernel)⟩
theorem lw_p39 : lw_okq (⟨"TownExchangeModel", "isSelectors", "(I)Z"⟩, 82) := ⟨⟨by decide +kernel, by decide +kernel⟩, List.mem_of_getElem? (i := 1213) (by decide +kernel), List.mem_of_getElem? (i := 1487) (by decide +kernel), List.mem_of_getElem? (i := 1488) (by decide +kernel)⟩
theorem lw_p40 : lw_okq (⟨"TownExchangeModel", "isEnd", "(I)Z"⟩, 82) := ⟨⟨by decide +kernel, by decide +kernel⟩, List.mem_of_getElem? (i := 1213) (by decide +kernel), List.mem_of_getElem? (i := 1491) (by decide +kernel), List.mem_of_getElem? (i := 1492) (by decide +kernel)⟩
theorem lw_p41 : lw_okq (⟨"TownExchangeModel", "isSwitch", "(I)Z"⟩, 82) := ⟨⟨by decide +kernel, by decide +kernel⟩, List.mem_of_getElem? (i := 1213) (by decide +kernel), List.mem_of_getElem? (i := 1495) (by decide +kernel), List.mem_of_getElem? (i := 1496) (by decide +kernel)⟩
theorem lw_p42 : lw_okq (⟨"TownExchangeModel", "lineOf", "(II)I"⟩, 82) := ⟨⟨by decide +kernel, by decide +kernel⟩, List.mem_of_getElem? (i := 1213) (by decide +kernel), List.mem_of_getElem? (i := 1510) (by decide +kernel), List.mem_of_getElem? (i := 1511) (by decide +kernel)⟩
theorem lw_p43 : lw_okq (⟨"TownExchangeModel", "isLine", "(I)Z"⟩, 82) := ⟨⟨by decide +kernel, by decide +kernel⟩, List.mem_of_getElem? (i := 1213) (by decide +kernel), List.mem_of_getElem? (i := 1526) (by decide +kernel), List.mem_of_getElem? (i := 1527) (by decide +kernel)⟩
theorem lw_p44 : lw_okq (⟨"TownExchangeModel", "firstFree", "(I)I"⟩, 82) := ⟨⟨by decide +kernel, by decide +kernel⟩, List.mem_of_getElem? (i := 1213) (by decide +kernel), List.mem_of_getElem? (i := 1530) (by decide +kernel), List.mem_of_getElem? (i := 1531) (by decide +kernel)⟩
theorem lw_p45 : lw_okq (⟨"TownExchangeModel", "isFree", "(I)Z"⟩, 82) := ⟨⟨by decide +kernel, by decide +kernel⟩, List.mem_of_getElem? (i := 1213) (by decide +kernel), List.mem_of_getElem? (i := 1534) (by decide +kernel), List.mem_of_getElem? (i := 1535) (by decide +kernel)⟩
theorem lw_p46 : lw_okq (⟨"TownExchangeModel", "hold", "(II)V"⟩, 82) := ⟨⟨by decide +kernel, by decide +kernel⟩, List.mem_of_getElem? (i := 1213) (by decide +kernel), List.mem_of_getElem? (i := 1538) (by decide +kernel), List.mem_of_getElem? (i := 1539) (by decide +kernel)⟩
theorem lw_p47 : lw_okq (⟨"TownExchangeModel", "head", "(I)I"⟩, 82) := ⟨⟨by decide +kernel, by decide +kernel⟩, List.mem_of_getElem? (i := 1213) (by decide +kernel), List.mem_of_getElem? (i := 1546) (by decide +kernel), List.mem_of_getElem? (i := 1547) (by decide +kernel)⟩
def lw_privs_3 : List (MethodName × Nat) := [(⟨"TownExchange$Trouble", "markSound", "()V"⟩, 11), (⟨"TownExchange$Trouble", "choose", "(II)V"⟩, 11), (⟨"TownExchange$Trouble", "firstUnexplained", "(I)I"⟩, 11), (⟨"TownExchange$Trouble", "isExplained", "(II)Z"⟩, 11), (⟨"TownExchange$Trouble", "addSet", "(I)V"⟩, 11), (⟨"TownExchange$Trouble", "comesFirst", "(I)Z"⟩, 11), (⟨"java/lang/Throwable", "fillInStackTrace", "(I)Ljava/lang/Throwable;"⟩, 6), (⟨"TownExchangeModel", "isSelectors", "(I)Z"⟩, 82), (⟨"TownExchangeModel", "isEnd", "(I)Z"⟩, 82), (⟨"TownExchangeModel", "isSwitch", "(I)Z"⟩, 82), (⟨"TownExchangeModel", "lineOf", "(II)I"⟩, 82), (⟨"TownExchangeModel", "isLine", "(I)Z"⟩, 82), (⟨"TownExchangeModel", "firstFree", "(I)I"⟩, 82), (⟨"TownExchangeModel", "isFree", "(I)Z"⟩, 82), (⟨"TownExchangeModel", "hold", "(II)V"⟩, 82), (⟨"TownExchangeModel", "head", "(I)I"⟩, 82)]
theorem lw_r3 : ∀ q ∈ lw_privs_3, lw_okq q := List.forall_mem_cons.mpr ⟨lw_p32, List.forall_mem_cons.mpr ⟨lw_p33, List.forall_mem_cons.mpr ⟨lw_p34, List.forall_mem_cons.mpr ⟨lw_p35, List.forall_mem_cons.mpr ⟨lw_p36, List.forall_mem_cons.mpr ⟨lw_p37, List.forall_mem_cons.mpr ⟨lw_p38, List.forall_mem_cons.mpr ⟨lw_p39, List.forall_mem_cons.mpr ⟨lw_p40, List.forall_mem_cons.mpr ⟨lw_p41, List.forall_mem_cons.mpr ⟨lw_p42, List.forall_mem_cons.mpr ⟨lw_p43, List.forall_mem_cons.mpr ⟨lw_p44, List.forall_mem_cons.mpr ⟨lw_p45, List.forall_mem_cons.mpr ⟨lw_p46, List.forall_mem_cons.mpr ⟨lw_p47, fun _ h => absurd h List.not_mem_nil⟩⟩⟩⟩⟩⟩⟩⟩⟩⟩⟩⟩⟩⟩⟩⟩
theorem lw_p48 : lw_okq (⟨"TownExchangeModel", "isEnding", "(I)Z"⟩, 82) := ⟨⟨by decide +kernel, by decide +kernel⟩, List.mem_of_getElem? (i := 1213) (by decide +kernel), List.mem_of_getElem? (i := 1550) (by decide +kernel), List.mem_of_getElem? (i := 1551) (by decide +kernel)⟩
theorem lw_p49 : lw_okq (⟨"TownExchangeModel", "goesTo", "(II)I"⟩, 82) := ⟨⟨by decide +kernel, by decide +kernel⟩, List.mem_of_getElem? (i := 1213) (by decide +kernel), List.mem_of_getElem? (i := 1554) (by decide +kernel), List.mem_of_getElem? (i := 1555) (by decide +kernel)⟩
theorem lw_p50 : lw_okq (⟨"TownExchangeModel", "unitsOf", "(I)I"⟩, 82) := ⟨⟨by decide +kernel, by decide +kernel⟩, List.mem_of_getElem? (i := 1213) (by decide +kernel), List.mem_of_getElem? (i := 1566) (by decide +kernel), List.mem_of_getElem? (i := 1567) (by decide +kernel)⟩
theorem lw_p51 : lw_okq (⟨"TownExchangeModel", "worth", "(I)I"⟩, 82) := ⟨⟨by decide +kernel, by decide +kernel⟩, List.mem_of_getElem? (i := 1213) (by decide +kernel), List.mem_of_getElem? (i := 1571) (by decide +kernel), List.mem_of_getElem? (i := 1572) (by decide +kernel)⟩
theorem lw_p52 : lw_okq (⟨"TownExchangeModel", "opens", "(I)V"⟩, 82) := ⟨⟨by decide +kernel, by decide +kernel⟩, List.mem_of_getElem? (i := 1213) (by decide +kernel), List.mem_of_getElem? (i := 1575) (by decide +kernel), List.mem_of_getElem? (i := 1576) (by decide +kernel)⟩
theorem lw_p53 : lw_okq (⟨"TownExchangeModel", "sums", "(I)V"⟩, 82) := ⟨⟨by decide +kernel, by decide +kernel⟩, List.mem_of_getElem? (i := 1213) (by decide +kernel), List.mem_of_getElem? (i := 1579) (by decide +kernel), List.mem_of_getElem? (i := 1580) (by decide +kernel)⟩
theorem lw_p54 : lw_okq (⟨"TownExchangeModel", "tests", "(I)V"⟩, 82) := ⟨⟨by decide +kernel, by decide +kernel⟩, List.mem_of_getElem? (i := 1213) (by decide +kernel), List.mem_of_getElem? (i := 1583) (by decide +kernel), List.mem_of_getElem? (i := 1584) (by decide +kernel)⟩
theorem lw_p55 : lw_okq (⟨"TownExchangeModel", "unitsBy", "(II)I"⟩, 82) := ⟨⟨by decide +kernel, by decide +kernel⟩, List.mem_of_getElem? (i := 1213) (by decide +kernel), List.mem_of_getElem? (i := 1595) (by decide +kernel), List.mem_of_getElem? (i := 1596) (by decide +kernel)⟩
theorem lw_p56 : lw_okq (⟨"TownExchangeModel", "next", "()V"⟩, 82) := ⟨⟨by decide +kernel, by decide +kernel⟩, List.mem_of_getElem? (i := 1213) (by decide +kernel), List.mem_of_getElem? (i := 1608) (by decide +kernel), List.mem_of_getElem? (i := 1609) (by decide +kernel)⟩
theorem lw_p57 : lw_okq (⟨"TownExchangeModel", "signAt", "(I)I"⟩, 82) := ⟨⟨by decide +kernel, by decide +kernel⟩, List.mem_of_getElem? (i := 1213) (by decide +kernel), List.mem_of_getElem? (i := 1612) (by decide +kernel), List.mem_of_getElem? (i := 1613) (by decide +kernel)⟩
theorem lw_p58 : lw_okq (⟨"TownExchangeModel", "readsLine", "()Z"⟩, 82) := ⟨⟨by decide +kernel, by decide +kernel⟩, List.mem_of_getElem? (i := 1213) (by decide +kernel), List.mem_of_getElem? (i := 1618) (by decide +kernel), List.mem_of_getElem? (i := 1619) (by decide +kernel)⟩
theorem lw_p59 : lw_okq (⟨"TownExchangeModel", "isWord", "(J)Z"⟩, 82) := ⟨⟨by decide +kernel, by decide +kernel⟩, List.mem_of_getElem? (i := 1213) (by decide +kernel), List.mem_of_getElem? (i := 1623) (by decide +kernel), List.mem_of_getElem? (i := 1624) (by decide +kernel)⟩
theorem lw_p60 : lw_okq (⟨"TownExchangeModel", "fails", "(I)Z"⟩, 82) := ⟨⟨by decide +kernel, by decide +kernel⟩, List.mem_of_getElem? (i := 1213) (by decide +kernel), List.mem_of_getElem? (i := 1628) (by decide +kernel), List.mem_of_getElem? (i := 1629) (by decide +kernel)⟩
theorem lw_p61 : lw_okq (⟨"TownExchangeModel", "isOwn", "()Z"⟩, 82) := ⟨⟨by decide +kernel, by decide +kernel⟩, List.mem_of_getElem? (i := 1213) (by decide +kernel), List.mem_of_getElem? (i := 1632) (by decide +kernel), List.mem_of_getElem? (i := 1633) (by decide +kernel)⟩
theorem lw_p62 : lw_okq (⟨"TownExchangeModel", "fact", "()I"⟩, 82) := ⟨⟨by decide +kernel, by decide +kernel⟩, List.mem_of_getElem? (i := 1213) (by decide +kernel), List.mem_of_getElem? (i := 1641) (by decide +kernel), List.mem_of_getElem? (i := 1642) (by decide +kernel)⟩
theorem lw_p63 : lw_okq (⟨"TownExchangeModel", "nameAt", "()I"⟩, 82) := ⟨⟨by decide +kernel, by decide +kernel⟩, List.mem_of_getElem? (i := 1213) (by decide +kernel), List.mem_of_getElem? (i := 1651) (by decide +kernel), List.mem_of_getElem? (i := 1652) (by decide +kernel)⟩
def lw_privs_4 : List (MethodName × Nat) := [(⟨"TownExchangeModel", "isEnding", "(I)Z"⟩, 82), (⟨"TownExchangeModel", "goesTo", "(II)I"⟩, 82), (⟨"TownExchangeModel", "unitsOf", "(I)I"⟩, 82), (⟨"TownExchangeModel", "worth", "(I)I"⟩, 82), (⟨"TownExchangeModel", "opens", "(I)V"⟩, 82), (⟨"TownExchangeModel", "sums", "(I)V"⟩, 82), (⟨"TownExchangeModel", "tests", "(I)V"⟩, 82), (⟨"TownExchangeModel", "unitsBy", "(II)I"⟩, 82), (⟨"TownExchangeModel", "next", "()V"⟩, 82), (⟨"TownExchangeModel", "signAt", "(I)I"⟩, 82), (⟨"TownExchangeModel", "readsLine", "()Z"⟩, 82), (⟨"TownExchangeModel", "isWord", "(J)Z"⟩, 82), (⟨"TownExchangeModel", "fails", "(I)Z"⟩, 82), (⟨"TownExchangeModel", "isOwn", "()Z"⟩, 82), (⟨"TownExchangeModel", "fact", "()I"⟩, 82), (⟨"TownExchangeModel", "nameAt", "()I"⟩, 82)]
theorem lw_r4 : ∀ q ∈ lw_privs_4, lw_okq q := List.forall_mem_cons.mpr ⟨lw_p48, List.forall_mem_cons.mpr ⟨lw_p49, List.forall_mem_cons.mpr ⟨lw_p50, List.forall_mem_cons.mpr ⟨lw_p51, List.forall_mem_cons.mpr ⟨lw_p52, List.forall_mem_cons.mpr ⟨lw_p53, List.forall_mem_cons.mpr ⟨lw_p54, List.forall_mem_cons.mpr ⟨lw_p55, List.forall_mem_cons.mpr ⟨lw_p56, List.forall_mem_cons.mpr ⟨lw_p57, List.forall_mem_cons.mpr ⟨lw_p58, List.forall_mem_cons.mpr ⟨lw_p59, List.forall_mem_cons.mpr ⟨lw_p60, List.forall_mem_cons.mpr ⟨lw_p61, List.forall_mem_cons.mpr ⟨lw_p62, List.forall_mem_cons.mpr ⟨lw_p63, fun _ h => absurd h List.not_mem_nil⟩⟩⟩⟩⟩⟩⟩⟩⟩⟩⟩⟩⟩⟩⟩⟩
theorem lw_p64 : lw_okq (⟨"TownExchangeModel", "isSign", "(I)Z"⟩, 82) := ⟨⟨by decide +kernel, by decide +kernel⟩, List.mem_of_getElem? (i := 1213) (by decide +kernel), List.mem_of_getElem? (i := 1655) (by decide +kernel), List.mem_of_getElem? (i := 1656) (by decide +kernel)⟩
theorem lw_p65 : lw_okq (⟨"TownExchangeModel", "reads", "(I)Z"⟩, 82) := ⟨⟨by decide +kernel, by decide +kernel⟩, List.mem_of_getElem? (i := 1213) (by decide +kernel), List.mem_of_getElem? (i := 1659) (by decide +kernel), List.mem_of_getElem? (i := 1660) (by decide +kernel)⟩
theorem lw_p66 : lw_okq (⟨"TownExchangeModel", "puts", "(I)V"⟩, 82) := ⟨⟨by decide +kernel, by decide +kernel⟩, List.mem_of_getElem? (i := 1213) (by decide +kernel), List.mem_of_getElem? (i := 1663) (by decide +kernel), List.mem_of_getElem? (i := 1664) (by decide +kernel)⟩
theorem lw_p67 : lw_okq (⟨"TownExchangeModel", "canTry", "(III)Z"⟩, 82) := ⟨⟨by decide +kernel, by decide +kernel⟩, List.mem_of_getElem? (i := 1213) (by decide +kernel), List.mem_of_getElem? (i := 1671) (by decide +kernel), List.mem_of_getElem? (i := 1672) (by decide +kernel)⟩
theorem lw_p68 : lw_okq (⟨"TownExchangeModel", "clears", "()V"⟩, 82) := ⟨⟨by decide +kernel, by decide +kernel⟩, List.mem_of_getElem? (i := 1213) (by decide +kernel), List.mem_of_getElem? (i := 1676) (by decide +kernel), List.mem_of_getElem? (i := 1677) (by decide +kernel)⟩
theorem lw_p69 : lw_okq (⟨"TownExchangeModel", "meets", "(III)I"⟩, 82) := ⟨⟨by decide +kernel, by decide +kernel⟩, List.mem_of_getElem? (i := 1213) (by decide +kernel), List.mem_of_getElem? (i := 1680) (by decide +kernel), List.mem_of_getElem? (i := 1681) (by decide +kernel)⟩
theorem lw_p70 : lw_okq (⟨"TownExchangeModel", "isQuiet", "(I)Z"⟩, 82) := ⟨⟨by decide +kernel, by decide +kernel⟩, List.mem_of_getElem? (i := 1213) (by decide +kernel), List.mem_of_getElem? (i := 1684) (by decide +kernel), List.mem_of_getElem? (i := 1685) (by decide +kernel)⟩
theorem lw_p71 : lw_okq (⟨"TownExchangeModel", "tries", "(I)V"⟩, 82) := ⟨⟨by decide +kernel, by decide +kernel⟩, List.mem_of_getElem? (i := 1213) (by decide +kernel), List.mem_of_getElem? (i := 1688) (by decide +kernel), List.mem_of_getElem? (i := 1689) (by decide +kernel)⟩
theorem lw_p72 : lw_okq (⟨"TownExchangeModel", "canLay", "(IIII)Z"⟩, 82) := ⟨⟨by decide +kernel, by decide +kernel⟩, List.mem_of_getElem? (i := 1213) (by decide +kernel), List.mem_of_getElem? (i := 1703) (by decide +kernel), List.mem_of_getElem? (i := 1704) (by decide +kernel)⟩
theorem lw_p73 : lw_okq (⟨"TownExchangeModel", "lays", "(IIIIII)I"⟩, 82) := ⟨⟨by decide +kernel, by decide +kernel⟩, List.mem_of_getElem? (i := 1213) (by decide +kernel), List.mem_of_getElem? (i := 1707) (by decide +kernel), List.mem_of_getElem? (i := 1708) (by decide +kernel)⟩
theorem lw_p74 : lw_okq (⟨"TownExchangeModel", "mayUse", "(II)Z"⟩, 82) := ⟨⟨by decide +kernel, by decide +kernel⟩, List.mem_of_getElem? (i := 1213) (by decide +kernel), List.mem_of_getElem? (i := 1711) (by decide +kernel), List.mem_of_getElem? (i := 1712) (by decide +kernel)⟩
theorem lw_p75 : lw_okq (⟨"TownExchangeModel", "takes", "(I)V"⟩, 82) := ⟨⟨by decide +kernel, by decide +kernel⟩, List.mem_of_getElem? (i := 1213) (by decide +kernel), List.mem_of_getElem? (i := 1715) (by decide +kernel), List.mem_of_getElem? (i := 1716) (by decide +kernel)⟩
theorem lw_p76 : lw_okq (⟨"TownExchangeModel", "gives", "()V"⟩, 82) := ⟨⟨by decide +kernel, by decide +kernel⟩, List.mem_of_getElem? (i := 1213) (by decide +kernel), List.mem_of_getElem? (i := 1719) (by decide +kernel), List.mem_of_getElem? (i := 1720) (by decide +kernel)⟩
theorem lw_p77 : lw_okq (⟨"TownExchangeModel", "counts", "(III)Z"⟩, 82) := ⟨⟨by decide +kernel, by decide +kernel⟩, List.mem_of_getElem? (i := 1213) (by decide +kernel), List.mem_of_getElem? (i := 1723) (by decide +kernel), List.mem_of_getElem? (i := 1724) (by decide +kernel)⟩
theorem lw_p78 : lw_okq (⟨"TownExchangeModel", "canMove", "(IIII)Z"⟩, 82) := ⟨⟨by decide +kernel, by decide +kernel⟩, List.mem_of_getElem? (i := 1213) (by decide +kernel), List.mem_of_getElem? (i := 1727) (by decide +kernel), List.mem_of_getElem? (i := 1728) (by decide +kernel)⟩
theorem lw_p79 : lw_okq (⟨"TownExchangeModel", "canLose", "(III)Z"⟩, 82) := ⟨⟨by decide +kernel, by decide +kernel⟩, List.mem_of_getElem? (i := 1213) (by decide +kernel), List.mem_of_getElem? (i := 1735) (by decide +kernel), List.mem_of_getElem? (i := 1736) (by decide +kernel)⟩
def lw_privs_5 : List (MethodName × Nat) := [(⟨"TownExchangeModel", "isSign", "(I)Z"⟩, 82), (⟨"TownExchangeModel", "reads", "(I)Z"⟩, 82), (⟨"TownExchangeModel", "puts", "(I)V"⟩, 82), (⟨"TownExchangeModel", "canTry", "(III)Z"⟩, 82), (⟨"TownExchangeModel", "clears", "()V"⟩, 82), (⟨"TownExchangeModel", "meets", "(III)I"⟩, 82), (⟨"TownExchangeModel", "isQuiet", "(I)Z"⟩, 82), (⟨"TownExchangeModel", "tries", "(I)V"⟩, 82), (⟨"TownExchangeModel", "canLay", "(IIII)Z"⟩, 82), (⟨"TownExchangeModel", "lays", "(IIIIII)I"⟩, 82), (⟨"TownExchangeModel", "mayUse", "(II)Z"⟩, 82), (⟨"TownExchangeModel", "takes", "(I)V"⟩, 82), (⟨"TownExchangeModel", "gives", "()V"⟩, 82), (⟨"TownExchangeModel", "counts", "(III)Z"⟩, 82), (⟨"TownExchangeModel", "canMove", "(IIII)Z"⟩, 82), (⟨"TownExchangeModel", "canLose", "(III)Z"⟩, 82)]
theorem lw_r5 : ∀ q ∈ lw_privs_5, lw_okq q := List.forall_mem_cons.mpr ⟨lw_p64, List.forall_mem_cons.mpr ⟨lw_p65, List.forall_mem_cons.mpr ⟨lw_p66, List.forall_mem_cons.mpr ⟨lw_p67, List.forall_mem_cons.mpr ⟨lw_p68, List.forall_mem_cons.mpr ⟨lw_p69, List.forall_mem_cons.mpr ⟨lw_p70, List.forall_mem_cons.mpr ⟨lw_p71, List.forall_mem_cons.mpr ⟨lw_p72, List.forall_mem_cons.mpr ⟨lw_p73, List.forall_mem_cons.mpr ⟨lw_p74, List.forall_mem_cons.mpr ⟨lw_p75, List.forall_mem_cons.mpr ⟨lw_p76, List.forall_mem_cons.mpr ⟨lw_p77, List.forall_mem_cons.mpr ⟨lw_p78, List.forall_mem_cons.mpr ⟨lw_p79, fun _ h => absurd h List.not_mem_nil⟩⟩⟩⟩⟩⟩⟩⟩⟩⟩⟩⟩⟩⟩⟩⟩
theorem lw_p80 : lw_okq (⟨"TownExchangeModel", "losing", "(IIII)I"⟩, 82) := ⟨⟨by decide +kernel, by decide +kernel⟩, List.mem_of_getElem? (i := 1213) (by decide +kernel), List.mem_of_getElem? (i := 1739) (by decide +kernel), List.mem_of_getElem? (i := 1740) (by decide +kernel)⟩
theorem lw_p81 : lw_okq (⟨"TownExchangeModel", "fewest", "()I"⟩, 82) := ⟨⟨by decide +kernel, by decide +kernel⟩, List.mem_of_getElem? (i := 1213) (by decide +kernel), List.mem_of_getElem? (i := 1759) (by decide +kernel), List.mem_of_getElem? (i := 1760) (by decide +kernel)⟩
theorem lw_p82 : lw_okq (⟨"TownExchangeModel", "found", "(I)V"⟩, 82) := ⟨⟨by decide +kernel, by decide +kernel⟩, List.mem_of_getElem? (i := 1213) (by decide +kernel), List.mem_of_getElem? (i := 1763) (by decide +kernel), List.mem_of_getElem? (i := 1764) (by decide +kernel)⟩
theorem lw_p83 : lw_okq (⟨"TownExchangeModel", "explains", "(I)Z"⟩, 82) := ⟨⟨by decide +kernel, by decide +kernel⟩, List.mem_of_getElem? (i := 1213) (by decide +kernel), List.mem_of_getElem? (i := 1767) (by decide +kernel), List.mem_of_getElem? (i := 1768) (by decide +kernel)⟩
def lw_privs_6 : List (MethodName × Nat) := [(⟨"TownExchangeModel", "losing", "(IIII)I"⟩, 82), (⟨"TownExchangeModel", "fewest", "()I"⟩, 82), (⟨"TownExchangeModel", "found", "(I)V"⟩, 82), (⟨"TownExchangeModel", "explains", "(I)Z"⟩, 82)]
theorem lw_r6 : ∀ q ∈ lw_privs_6, lw_okq q := List.forall_mem_cons.mpr ⟨lw_p80, List.forall_mem_cons.mpr ⟨lw_p81, List.forall_mem_cons.mpr ⟨lw_p82, List.forall_mem_cons.mpr ⟨lw_p83, fun _ h => absurd h List.not_mem_nil⟩⟩⟩⟩
def lw_privs : List (MethodName × Nat) := lw_privs_1 ++ (lw_privs_2 ++ (lw_privs_3 ++ (lw_privs_4 ++ (lw_privs_5 ++ (lw_privs_6)))))
def lw_tbl : List Cond := k2_sels lw_privs ++ tables_1
theorem lw_privs_ok : ∀ q ∈ lw_privs, lw_okq q := by
  show ∀ q ∈ lw_privs_1 ++ (lw_privs_2 ++ (lw_privs_3 ++ (lw_privs_4 ++ (lw_privs_5 ++ (lw_privs_6))))), lw_okq q
  exact List.forall_mem_append.mpr ⟨lw_r1, List.forall_mem_append.mpr ⟨lw_r2, List.forall_mem_append.mpr ⟨lw_r3, List.forall_mem_append.mpr ⟨lw_r4, List.forall_mem_append.mpr ⟨lw_r5, lw_r6⟩⟩⟩⟩⟩
end
section
/-! ===== BEGIN words of one list among another's, by their places ===== -/
theorem goodIn_r {big : List Cond} (ws : List Cond) (ps : List Nat) (hp : ws = ps.filterMap (fun i => big[i]?)) (h : ws.all goodWord = true) : GoodIn big ws := by
  intro w hw
  have h1 := List.all_eq_true.mp h w hw
  rw [hp] at hw
  obtain ⟨i, -, hi⟩ := List.mem_filterMap.mp hw
  have hm : w ∈ big := by first | exact List.mem_of_getElem? hi | exact List.getElem?_mem hi
  exact ⟨hm, good_of_word h1⟩
theorem goodIn_app {big a b : List Cond} (ha : GoodIn big a) (hb : GoodIn big b) : GoodIn big (a ++ b) := fun w h => (List.mem_append.mp h).elim (ha w) (hb w)
theorem goodIn_ca {big a b : List Cond} {c : Cond} (ha : GoodIn big (c :: a)) (hb : GoodIn big b) : GoodIn big (c :: (a ++ b)) := fun w h => (List.mem_cons.mp h).elim (fun e => ha w (List.mem_cons.mpr (Or.inl e))) (fun h => (List.mem_append.mp h).elim (fun h => ha w (List.mem_cons.mpr (Or.inr h))) (hb w))
theorem goodIn_sub {big ws : List Cond} (hm : ∀ w ∈ ws, w ∈ big) (h : ws.all goodWord = true) : GoodIn big ws := fun w hw => ⟨hm w hw, good_of_word (List.all_eq_true.mp h w hw)⟩
/-! ===== END ===== -/
/-! ===== BEGIN printed: names, fields, word lists, decode rows ===== -/
def RX0 : String := "TownExchange$Calls"
def TX0 : u_T := fun k => match k with
  | 0 => ("TownExchange$Calls", "plant", "LTownExchange$Plant;", true)
  | 1 => ("TownExchange$Calls", "lines", "[LTownExchange$Line;", true)
  | 2 => ("TownExchange$Calls", "numbered", "[I", true)
  | _ => ("TownExchange$Calls", "size", "I", false)
def tyX0 : Nat → FieldType := fun k => match k with
  | 0 => .object "TownExchange$Plant"
  | 1 => .array (.object "TownExchange$Line")
  | 2 => .array .int
  | _ => .int
abbrev wsX00 : List Cond := u_ws RX0 TX0 4
theorem nmX0 : ∀ a, a < 4 → ∀ b, b < 4 → a ≠ b → (TX0 a).2.1 ≠ (TX0 b).2.1 := by decide +kernel
theorem tyX0_ok : ∀ k, k < 4 → parseFieldDescriptor (TX0 k).2.2.1 = some (tyX0 k) := by decide +kernel
abbrev cX0_init : ByteArray := prog_2_method_1_code
def yX0_init : MethodName := ⟨RX0, "<init>", "(LTownExchange$Plant;)V"⟩
abbrev cX0_addLine : ByteArray := prog_2_method_2_code
def yX0_addLine : MethodName := ⟨RX0, "addLine", "(III)I"⟩
abbrev cX0_isLine : ByteArray := prog_2_method_3_code
def yX0_isLine : MethodName := ⟨RX0, "isLine", "(I)Z"⟩
abbrev cX0_isQuiet : ByteArray := prog_2_method_4_code
def yX0_isQuiet : MethodName := ⟨RX0, "isQuiet", "(I)Z"⟩
abbrev cX0_isCalling : ByteArray := prog_2_method_5_code
def yX0_isCalling : MethodName := ⟨RX0, "isCalling", "(I)Z"⟩
abbrev cX0_callingLines : ByteArray := prog_2_method_6_code
def yX0_callingLines : MethodName := ⟨RX0, "callingLines", "()I"⟩
abbrev cX0_lineAt : ByteArray := prog_2_method_7_code
def yX0_lineAt : MethodName := ⟨RX0, "lineAt", "(II)I"⟩
abbrev cX0_take : ByteArray := prog_2_method_8_code
def yX0_take : MethodName := ⟨RX0, "take", "(LTownExchange$Line;)I"⟩
abbrev cX0_step : ByteArray := prog_2_method_9_code
def yX0_step : MethodName := ⟨RX0, "step", "(LTownExchange$Line;I)I"⟩
abbrev cX0_stepFinal : ByteArray := prog_2_method_10_code
def yX0_stepFinal : MethodName := ⟨RX0, "stepFinal", "(LTownExchange$Line;I)V"⟩
abbrev cX0_hunt : ByteArray := prog_2_method_11_code
def yX0_hunt : MethodName := ⟨RX0, "hunt", "(LTownExchange$Line;II)V"⟩
abbrev cX0_hold : ByteArray := prog_2_method_12_code
def yX0_hold : MethodName := ⟨RX0, "hold", "(LTownExchange$Line;II)V"⟩
abbrev cX0_make : ByteArray := prog_2_method_13_code
def yX0_make : MethodName := ⟨RX0, "make", "(LTownExchange$Line;II)I"⟩
abbrev cX0_release : ByteArray := prog_2_method_14_code
def yX0_release : MethodName := ⟨RX0, "release", "(LTownExchange$Line;)V"⟩
abbrev cX0_setHolder : ByteArray := prog_2_method_15_code
def yX0_setHolder : MethodName := ⟨RX0, "setHolder", "(LTownExchange$Line;I)V"⟩
def RX1 : String := "TownExchange$Ledger"
def TX1 : u_T := fun k => match k with
  | 0 => ("TownExchange$Ledger", "size", "I", false)
  | 1 => ("TownExchange$Ledger", "callers", "[I", true)
  | 2 => ("TownExchange$Ledger", "units", "[I", true)
  | 3 => ("TownExchange$Ledger", "days", "[I", true)
  | 4 => ("TownExchange$Ledger", "ended", "[I", true)
  | 5 => ("TownExchange$Ledger", "words", "I", false)
  | 6 => ("TownExchange$Ledger", "wordCalls", "[I", true)
  | 7 => ("TownExchange$Ledger", "wordUnits", "[I", true)
  | _ => ("TownExchange$Ledger", "wordDays", "[I", true)
def tyX1 : Nat → FieldType := fun k => match k with
  | 0 => .int
  | 1 => .array .int
  | 2 => .array .int
  | 3 => .array .int
  | 4 => .array .int
  | 5 => .int
  | 6 => .array .int
  | 7 => .array .int
  | _ => .array .int
abbrev wsX10 : List Cond := u_ws RX1 TX1 9
theorem nmX1 : ∀ a, a < 9 → ∀ b, b < 9 → a ≠ b → (TX1 a).2.1 ≠ (TX1 b).2.1 := by decide +kernel
theorem tyX1_ok : ∀ k, k < 9 → parseFieldDescriptor (TX1 k).2.2.1 = some (tyX1 k) := by decide +kernel
abbrev cX1_init : ByteArray := prog_3_method_1_code
def yX1_init : MethodName := ⟨RX1, "<init>", "()V"⟩
abbrev cX1_write : ByteArray := prog_3_method_2_code
def yX1_write : MethodName := ⟨RX1, "write", "(IIII)V"⟩
abbrev cX1_tell : ByteArray := prog_3_method_3_code
def yX1_tell : MethodName := ⟨RX1, "tell", "(III)Z"⟩
abbrev cX1_sum : ByteArray := prog_3_method_4_code
def yX1_sum : MethodName := ⟨RX1, "sum", "(IIII)I"⟩
abbrev cX1_unitsKnown : ByteArray := prog_3_method_5_code
def yX1_unitsKnown : MethodName := ⟨RX1, "unitsKnown", "(II)I"⟩
abbrev cX1_show : ByteArray := prog_3_method_6_code
def yX1_show : MethodName := ⟨RX1, "show", "(II)I"⟩
def RX2 : String := "TownExchange$Line"
def TX2 : u_T := fun k => match k with
  | 0 => ("TownExchange$Line", "index", "I", true)
  | 1 => ("TownExchange$Line", "home", "I", true)
  | 2 => ("TownExchange$Line", "condition", "I", false)
  | 3 => ("TownExchange$Line", "state", "I", false)
  | 4 => ("TownExchange$Line", "holds", "[I", true)
  | 5 => ("TownExchange$Line", "held", "I", false)
  | 6 => ("TownExchange$Line", "taken", "I", false)
  | 7 => ("TownExchange$Line", "digits", "[I", true)
  | 8 => ("TownExchange$Line", "atHead", "I", false)
  | 9 => ("TownExchange$Line", "numberAtHead", "I", false)
  | 10 => ("TownExchange$Line", "partner", "I", false)
  | _ => ("TownExchange$Line", "answeredAt", "I", false)
def tyX2 : Nat → FieldType := fun k => match k with
  | 0 => .int
  | 1 => .int
  | 2 => .int
  | 3 => .int
  | 4 => .array .int
  | 5 => .int
  | 6 => .int
  | 7 => .array .int
  | 8 => .int
  | 9 => .int
  | 10 => .int
  | _ => .int
abbrev wsX20 : List Cond := u_ws RX2 TX2 12
theorem nmX2 : ∀ a, a < 12 → ∀ b, b < 12 → a ≠ b → (TX2 a).2.1 ≠ (TX2 b).2.1 := by decide +kernel
theorem tyX2_ok : ∀ k, k < 12 → parseFieldDescriptor (TX2 k).2.2.1 = some (tyX2 k) := by decide +kernel
abbrev cX2_init : ByteArray := prog_4_method_1_code
def yX2_init : MethodName := ⟨RX2, "<init>", "(II)V"⟩
abbrev cX2_head : ByteArray := prog_4_method_2_code
def yX2_head : MethodName := ⟨RX2, "head", "()I"⟩
abbrev cX2_ofCall : ByteArray := prog_4_method_3_code
def yX2_ofCall : MethodName := ⟨RX2, "ofCall", "(I)I"⟩
abbrev cX2_noteDigit : ByteArray := prog_4_method_4_code
def yX2_noteDigit : MethodName := ⟨RX2, "noteDigit", "(I)V"⟩
abbrev cX2_addHeld : ByteArray := prog_4_method_5_code
def yX2_addHeld : MethodName := ⟨RX2, "addHeld", "(I)V"⟩
abbrev cX2_clear : ByteArray := prog_4_method_6_code
def yX2_clear : MethodName := ⟨RX2, "clear", "()V"⟩
def RX3 : String := "TownExchange$Loss"
def TX3 : u_T := fun k => match k with
  | 0 => ("TownExchange$Loss", "plant", "LTownExchange$Plant;", true)
  | 1 => ("TownExchange$Loss", "own", "[I", true)
  | 2 => ("TownExchange$Loss", "wanting", "[I", true)
  | _ => ("TownExchange$Loss", "shared", "I", false)
def tyX3 : Nat → FieldType := fun k => match k with
  | 0 => .object "TownExchange$Plant"
  | 1 => .array .int
  | 2 => .array .int
  | _ => .int
abbrev wsX30 : List Cond := u_ws RX3 TX3 4
theorem nmX3 : ∀ a, a < 4 → ∀ b, b < 4 → a ≠ b → (TX3 a).2.1 ≠ (TX3 b).2.1 := by decide +kernel
theorem tyX3_ok : ∀ k, k < 4 → parseFieldDescriptor (TX3 k).2.2.1 = some (tyX3 k) := by decide +kernel
abbrev cX3_init : ByteArray := prog_5_method_1_code
def yX3_init : MethodName := ⟨RX3, "<init>", "(LTownExchange$Plant;)V"⟩
abbrev cX3_measure : ByteArray := prog_5_method_2_code
def yX3_measure : MethodName := ⟨RX3, "measure", "(III)Z"⟩
abbrev cX3_countEnd : ByteArray := prog_5_method_3_code
def yX3_countEnd : MethodName := ⟨RX3, "countEnd", "(IIII)V"⟩
abbrev cX3_leadsWithin : ByteArray := prog_5_method_4_code
def yX3_leadsWithin : MethodName := ⟨RX3, "leadsWithin", "(IIIII)Z"⟩
abbrev cX3_waysLost : ByteArray := prog_5_method_5_code
def yX3_waysLost : MethodName := ⟨RX3, "waysLost", "(II)I"⟩
abbrev cX3_sharedMore : ByteArray := prog_5_method_6_code
def yX3_sharedMore : MethodName := ⟨RX3, "sharedMore", "(II)I"⟩
abbrev cX3_ways : ByteArray := prog_5_method_7_code
def yX3_ways : MethodName := ⟨RX3, "ways", "(II)I"⟩
def RX4 : String := "TownExchange$Plant"
def TX4 : u_T := fun k => match k with
  | 0 => ("TownExchange$Plant", "racks", "I", false)
  | 1 => ("TownExchange$Plant", "kinds", "[I", true)
  | 2 => ("TownExchange$Plant", "switches", "[I", true)
  | 3 => ("TownExchange$Plant", "sections", "[I", true)
  | 4 => ("TownExchange$Plant", "outlets", "[I", true)
  | 5 => ("TownExchange$Plant", "out", "[Z", true)
  | 6 => ("TownExchange$Plant", "faulty", "[Z", true)
  | 7 => ("TownExchange$Plant", "holders", "[I", true)
  | _ => ("TownExchange$Plant", "zones", "[I", true)
def tyX4 : Nat → FieldType := fun k => match k with
  | 0 => .int
  | 1 => .array .int
  | 2 => .array .int
  | 3 => .array .int
  | 4 => .array .int
  | 5 => .array .boolean
  | 6 => .array .boolean
  | 7 => .array .int
  | _ => .array .int
abbrev wsX40 : List Cond := u_ws RX4 TX4 9
theorem nmX4 : ∀ a, a < 9 → ∀ b, b < 9 → a ≠ b → (TX4 a).2.1 ≠ (TX4 b).2.1 := by decide +kernel
theorem tyX4_ok : ∀ k, k < 9 → parseFieldDescriptor (TX4 k).2.2.1 = some (tyX4 k) := by decide +kernel
abbrev cX4_init : ByteArray := prog_6_method_1_code
def yX4_init : MethodName := ⟨RX4, "<init>", "()V"⟩
abbrev cX4_addRack : ByteArray := prog_6_method_2_code
def yX4_addRack : MethodName := ⟨RX4, "addRack", "(III)I"⟩
abbrev cX4_lead : ByteArray := prog_6_method_3_code
def yX4_lead : MethodName := ⟨RX4, "lead", "(IIIII)Z"⟩
abbrev cX4_tellZone : ByteArray := prog_6_method_4_code
def yX4_tellZone : MethodName := ⟨RX4, "tellZone", "(II)Z"⟩
abbrev cX4_isRackOf : ByteArray := prog_6_method_5_code
def yX4_isRackOf : MethodName := ⟨RX4, "isRackOf", "(II)Z"⟩
abbrev cX4_isLevel : ByteArray := prog_6_method_6_code
def yX4_isLevel : MethodName := ⟨RX4, "isLevel", "(II)Z"⟩
abbrev cX4_isSwitch : ByteArray := prog_6_method_7_code
def yX4_isSwitch : MethodName := ⟨RX4, "isSwitch", "(I)Z"⟩
abbrev cX4_isEnd : ByteArray := prog_6_method_8_code
def yX4_isEnd : MethodName := ⟨RX4, "isEnd", "(I)Z"⟩
abbrev cX4_isJunction : ByteArray := prog_6_method_9_code
def yX4_isJunction : MethodName := ⟨RX4, "isJunction", "(I)Z"⟩
abbrev cX4_isFinal : ByteArray := prog_6_method_10_code
def yX4_isFinal : MethodName := ⟨RX4, "isFinal", "(I)Z"⟩
abbrev cX4_zoneOf : ByteArray := prog_6_method_11_code
def yX4_zoneOf : MethodName := ⟨RX4, "zoneOf", "(I)I"⟩
abbrev cX4_spot : ByteArray := prog_6_method_12_code
def yX4_spot : MethodName := ⟨RX4, "spot", "(III)I"⟩
abbrev cX4_leadsTo : ByteArray := prog_6_method_13_code
def yX4_leadsTo : MethodName := ⟨RX4, "leadsTo", "(IIII)I"⟩
abbrev cX4_leadsFrom : ByteArray := prog_6_method_14_code
def yX4_leadsFrom : MethodName := ⟨RX4, "leadsFrom", "(III)I"⟩
abbrev cX4_isOut : ByteArray := prog_6_method_15_code
def yX4_isOut : MethodName := ⟨RX4, "isOut", "(I)Z"⟩
abbrev cX4_isFaulty : ByteArray := prog_6_method_16_code
def yX4_isFaulty : MethodName := ⟨RX4, "isFaulty", "(I)Z"⟩
abbrev cX4_canTake : ByteArray := prog_6_method_17_code
def yX4_canTake : MethodName := ⟨RX4, "canTake", "(I)Z"⟩
abbrev cX4_heldWithin : ByteArray := prog_6_method_18_code
def yX4_heldWithin : MethodName := ⟨RX4, "heldWithin", "(II)I"⟩
abbrev cX4_allSwitches : ByteArray := prog_6_method_19_code
def yX4_allSwitches : MethodName := ⟨RX4, "allSwitches", "()I"⟩
def RX5 : String := "TownExchange$Relay"
def TX5 : u_T := fun k => match k with
  | 0 => ("TownExchange$Relay", "plant", "LTownExchange$Plant;", true)
  | 1 => ("TownExchange$Relay", "calls", "LTownExchange$Calls;", true)
  | 2 => ("TownExchange$Relay", "wanted", "LTownExchange$Wish;", true)
  | 3 => ("TownExchange$Relay", "moved", "LTownExchange$Wish;", true)
  | 4 => ("TownExchange$Relay", "together", "Z", false)
  | _ => ("TownExchange$Relay", "movedLine", "I", false)
def tyX5 : Nat → FieldType := fun k => match k with
  | 0 => .object "TownExchange$Plant"
  | 1 => .object "TownExchange$Calls"
  | 2 => .object "TownExchange$Wish"
  | 3 => .object "TownExchange$Wish"
  | 4 => .boolean
  | _ => .int
abbrev wsX50 : List Cond := u_ws RX5 TX5 6
theorem nmX5 : ∀ a, a < 6 → ∀ b, b < 6 → a ≠ b → (TX5 a).2.1 ≠ (TX5 b).2.1 := by decide +kernel
theorem tyX5_ok : ∀ k, k < 6 → parseFieldDescriptor (TX5 k).2.2.1 = some (tyX5 k) := by decide +kernel
abbrev cX5_init : ByteArray := prog_7_method_1_code
def yX5_init : MethodName := ⟨RX5, "<init>", "(LTownExchange$Plant;LTownExchange$Calls;)V"⟩
abbrev cX5_fewestMoved : ByteArray := prog_7_method_2_code
def yX5_fewestMoved : MethodName := ⟨RX5, "fewestMoved", "(III)I"⟩
abbrev cX5_canMove : ByteArray := prog_7_method_3_code
def yX5_canMove : MethodName := ⟨RX5, "canMove", "(LTownExchange$Line;)Z"⟩
abbrev cX5_laysBoth : ByteArray := prog_7_method_4_code
def yX5_laysBoth : MethodName := ⟨RX5, "laysBoth", "(LTownExchange$Line;)Z"⟩
abbrev cX5_canLay : ByteArray := prog_7_method_5_code
def yX5_canLay : MethodName := ⟨RX5, "canLay", "(LTownExchange$Wish;)Z"⟩
abbrev cX5_layOver : ByteArray := prog_7_method_6_code
def yX5_layOver : MethodName := ⟨RX5, "layOver", "(LTownExchange$Wish;II)Z"⟩
abbrev cX5_goesOn : ByteArray := prog_7_method_7_code
def yX5_goesOn : MethodName := ⟨RX5, "goesOn", "(LTownExchange$Wish;II)Z"⟩
abbrev cX5_restIsLaid : ByteArray := prog_7_method_8_code
def yX5_restIsLaid : MethodName := ⟨RX5, "restIsLaid", "(LTownExchange$Wish;)Z"⟩
def RX6 : String := "TownExchange$Tape"
def TX6 : u_T := fun k => match k with
  | 0 => ("TownExchange$Tape", "signs", "[C", true)
  | 1 => ("TownExchange$Tape", "size", "I", false)
  | 2 => ("TownExchange$Tape", "kind", "I", false)
  | 3 => ("TownExchange$Tape", "place", "I", false)
  | 4 => ("TownExchange$Tape", "length", "I", false)
  | _ => ("TownExchange$Tape", "word", "LTownExchange$Word;", false)
def tyX6 : Nat → FieldType := fun k => match k with
  | 0 => .array .char
  | 1 => .int
  | 2 => .int
  | 3 => .int
  | 4 => .int
  | _ => .object "TownExchange$Word"
abbrev wsX60 : List Cond := u_ws RX6 TX6 6
theorem nmX6 : ∀ a, a < 6 → ∀ b, b < 6 → a ≠ b → (TX6 a).2.1 ≠ (TX6 b).2.1 := by decide +kernel
theorem tyX6_ok : ∀ k, k < 6 → parseFieldDescriptor (TX6 k).2.2.1 = some (tyX6 k) := by decide +kernel
abbrev cX6_init : ByteArray := prog_8_method_1_code
def yX6_init : MethodName := ⟨RX6, "<init>", "()V"⟩
abbrev cX6_addSigns : ByteArray := prog_8_method_2_code
def yX6_addSigns : MethodName := ⟨RX6, "addSigns", "(J)V"⟩
abbrev cX6_rewind : ByteArray := prog_8_method_3_code
def yX6_rewind : MethodName := ⟨RX6, "rewind", "()V"⟩
abbrev cX6_next : ByteArray := prog_8_method_4_code
def yX6_next : MethodName := ⟨RX6, "next", "()V"⟩
abbrev cX6_runFrom : ByteArray := prog_8_method_5_code
def yX6_runFrom : MethodName := ⟨RX6, "runFrom", "(ICC)I"⟩
abbrev cX6_isAtEnd : ByteArray := prog_8_method_6_code
def yX6_isAtEnd : MethodName := ⟨RX6, "isAtEnd", "()Z"⟩
abbrev cX6_isNumber : ByteArray := prog_8_method_7_code
def yX6_isNumber : MethodName := ⟨RX6, "isNumber", "()Z"⟩
abbrev cX6_isSign : ByteArray := prog_8_method_8_code
def yX6_isSign : MethodName := ⟨RX6, "isSign", "(C)Z"⟩
abbrev cX6_isWord : ByteArray := prog_8_method_9_code
def yX6_isWord : MethodName := ⟨RX6, "isWord", "(LTownExchange$Word;)Z"⟩
abbrev cX6_isName : ByteArray := prog_8_method_10_code
def yX6_isName : MethodName := ⟨RX6, "isName", "()Z"⟩
abbrev cX6_value : ByteArray := prog_8_method_11_code
def yX6_value : MethodName := ⟨RX6, "value", "()I"⟩
abbrev cX6_wordRead : ByteArray := prog_8_method_12_code
def yX6_wordRead : MethodName := ⟨RX6, "wordRead", "()LTownExchange$Word;"⟩
abbrev cX6_number : ByteArray := prog_8_method_13_code
def yX6_number : MethodName := ⟨RX6, "number", "()I"⟩
abbrev cX6_letters : ByteArray := prog_8_method_14_code
def yX6_letters : MethodName := ⟨RX6, "letters", "()J"⟩
def RX7 : String := "TownExchange$Tariff"
def TX7 : u_T := fun k => match k with
  | 0 => ("TownExchange$Tariff", "tape", "LTownExchange$Tape;", true)
  | 1 => ("TownExchange$Tariff", "fault", "I", false)
  | 2 => ("TownExchange$Tariff", "lines", "I", false)
  | 3 => ("TownExchange$Tariff", "lineUnits", "[I", true)
  | 4 => ("TownExchange$Tariff", "lineEach", "[I", true)
  | 5 => ("TownExchange$Tariff", "codeBeyond", "[I", true)
  | 6 => ("TownExchange$Tariff", "code", "[I", true)
  | 7 => ("TownExchange$Tariff", "codeSize", "I", false)
  | 8 => ("TownExchange$Tariff", "names", "I", false)
  | 9 => ("TownExchange$Tariff", "nameLetters", "[J", true)
  | 10 => ("TownExchange$Tariff", "nameValues", "[I", true)
  | 11 => ("TownExchange$Tariff", "values", "[I", true)
  | _ => ("TownExchange$Tariff", "stack", "[I", true)
def tyX7 : Nat → FieldType := fun k => match k with
  | 0 => .object "TownExchange$Tape"
  | 1 => .int
  | 2 => .int
  | 3 => .array .int
  | 4 => .array .int
  | 5 => .array .int
  | 6 => .array .int
  | 7 => .int
  | 8 => .int
  | 9 => .array .long
  | 10 => .array .int
  | 11 => .array .int
  | _ => .array .int
abbrev wsX70 : List Cond := u_ws RX7 TX7 13
theorem nmX7 : ∀ a, a < 13 → ∀ b, b < 13 → a ≠ b → (TX7 a).2.1 ≠ (TX7 b).2.1 := by decide +kernel
theorem tyX7_ok : ∀ k, k < 13 → parseFieldDescriptor (TX7 k).2.2.1 = some (tyX7 k) := by decide +kernel
abbrev cX7_init : ByteArray := prog_9_method_1_code
def yX7_init : MethodName := ⟨RX7, "<init>", "(LTownExchange$Tape;)V"⟩
abbrev cX7_readTape : ByteArray := prog_9_method_2_code
def yX7_readTape : MethodName := ⟨RX7, "readTape", "()I"⟩
abbrev cX7_passFirst : ByteArray := prog_9_method_3_code
def yX7_passFirst : MethodName := ⟨RX7, "passFirst", "()Z"⟩
abbrev cX7_readLet : ByteArray := prog_9_method_4_code
def yX7_readLet : MethodName := ⟨RX7, "readLet", "()Z"⟩
abbrev cX7_readUnit : ByteArray := prog_9_method_5_code
def yX7_readUnit : MethodName := ⟨RX7, "readUnit", "()Z"⟩
abbrev cX7_fail : ByteArray := prog_9_method_6_code
def yX7_fail : MethodName := ⟨RX7, "fail", "(I)Z"⟩
abbrev cX7_passSign : ByteArray := prog_9_method_7_code
def yX7_passSign : MethodName := ⟨RX7, "passSign", "(C)Z"⟩
abbrev cX7_passWord : ByteArray := prog_9_method_8_code
def yX7_passWord : MethodName := ⟨RX7, "passWord", "(LTownExchange$Word;)Z"⟩
abbrev cX7_isNumberWithin : ByteArray := prog_9_method_9_code
def yX7_isNumberWithin : MethodName := ⟨RX7, "isNumberWithin", "(II)Z"⟩
abbrev cX7_slotOf : ByteArray := prog_9_method_10_code
def yX7_slotOf : MethodName := ⟨RX7, "slotOf", "(J)I"⟩
abbrev cX7_readOperations : ByteArray := prog_9_method_11_code
def yX7_readOperations : MethodName := ⟨RX7, "readOperations", "(II)Z"⟩
abbrev cX7_operationAt : ByteArray := prog_9_method_12_code
def yX7_operationAt : MethodName := ⟨RX7, "operationAt", "(I)I"⟩
abbrev cX7_readPart : ByteArray := prog_9_method_13_code
def yX7_readPart : MethodName := ⟨RX7, "readPart", "(I)Z"⟩
abbrev cX7_readWithin : ByteArray := prog_9_method_14_code
def yX7_readWithin : MethodName := ⟨RX7, "readWithin", "(ZI)Z"⟩
abbrev cX7_put : ByteArray := prog_9_method_15_code
def yX7_put : MethodName := ⟨RX7, "put", "(I)V"⟩
abbrev cX7_unitsOf : ByteArray := prog_9_method_16_code
def yX7_unitsOf : MethodName := ⟨RX7, "unitsOf", "(IIII)I"⟩
abbrev cX7_firstMet : ByteArray := prog_9_method_17_code
def yX7_firstMet : MethodName := ⟨RX7, "firstMet", "()I"⟩
abbrev cX7_resultOf : ByteArray := prog_9_method_18_code
def yX7_resultOf : MethodName := ⟨RX7, "resultOf", "(II)I"⟩
abbrev cX7_operand : ByteArray := prog_9_method_19_code
def yX7_operand : MethodName := ⟨RX7, "operand", "(I)I"⟩
abbrev cX7_joined : ByteArray := prog_9_method_20_code
def yX7_joined : MethodName := ⟨RX7, "joined", "(III)I"⟩
def RX8 : String := "TownExchange$Trouble"
def TX8 : u_T := fun k => match k with
  | 0 => ("TownExchange$Trouble", "plant", "LTownExchange$Plant;", true)
  | 1 => ("TownExchange$Trouble", "tests", "I", false)
  | 2 => ("TownExchange$Trouble", "met", "[I", true)
  | 3 => ("TownExchange$Trouble", "metSize", "[I", true)
  | 4 => ("TownExchange$Trouble", "failed", "[Z", true)
  | 5 => ("TownExchange$Trouble", "sound", "[Z", true)
  | 6 => ("TownExchange$Trouble", "chosen", "[I", true)
  | 7 => ("TownExchange$Trouble", "sorted", "[I", true)
  | 8 => ("TownExchange$Trouble", "best", "[I", true)
  | 9 => ("TownExchange$Trouble", "found", "I", false)
  | _ => ("TownExchange$Trouble", "foundWith", "[I", true)
def tyX8 : Nat → FieldType := fun k => match k with
  | 0 => .object "TownExchange$Plant"
  | 1 => .int
  | 2 => .array .int
  | 3 => .array .int
  | 4 => .array .boolean
  | 5 => .array .boolean
  | 6 => .array .int
  | 7 => .array .int
  | 8 => .array .int
  | 9 => .int
  | _ => .array .int
abbrev wsX80 : List Cond := u_ws RX8 TX8 11
theorem nmX8 : ∀ a, a < 11 → ∀ b, b < 11 → a ≠ b → (TX8 a).2.1 ≠ (TX8 b).2.1 := by decide +kernel
theorem tyX8_ok : ∀ k, k < 11 → parseFieldDescriptor (TX8 k).2.2.1 = some (tyX8 k) := by decide +kernel
abbrev cX8_init : ByteArray := prog_10_method_1_code
def yX8_init : MethodName := ⟨RX8, "<init>", "(LTownExchange$Plant;)V"⟩
abbrev cX8_note : ByteArray := prog_10_method_2_code
def yX8_note : MethodName := ⟨RX8, "note", "(LTownExchange$Line;Z)V"⟩
abbrev cX8_fewest : ByteArray := prog_10_method_3_code
def yX8_fewest : MethodName := ⟨RX8, "fewest", "()I"⟩
abbrev cX8_isInAllSets : ByteArray := prog_10_method_4_code
def yX8_isInAllSets : MethodName := ⟨RX8, "isInAllSets", "(I)Z"⟩
abbrev cX8_markSound : ByteArray := prog_10_method_5_code
def yX8_markSound : MethodName := ⟨RX8, "markSound", "()V"⟩
abbrev cX8_choose : ByteArray := prog_10_method_6_code
def yX8_choose : MethodName := ⟨RX8, "choose", "(II)V"⟩
abbrev cX8_firstUnexplained : ByteArray := prog_10_method_7_code
def yX8_firstUnexplained : MethodName := ⟨RX8, "firstUnexplained", "(I)I"⟩
abbrev cX8_isExplained : ByteArray := prog_10_method_8_code
def yX8_isExplained : MethodName := ⟨RX8, "isExplained", "(II)Z"⟩
abbrev cX8_addSet : ByteArray := prog_10_method_9_code
def yX8_addSet : MethodName := ⟨RX8, "addSet", "(I)V"⟩
abbrev cX8_comesFirst : ByteArray := prog_10_method_10_code
def yX8_comesFirst : MethodName := ⟨RX8, "comesFirst", "(I)Z"⟩
def RX9 : String := "TownExchange$Wish"
def TX9 : u_T := fun k => match k with
  | 0 => ("TownExchange$Wish", "line", "I", false)
  | 1 => ("TownExchange$Wish", "home", "I", false)
  | 2 => ("TownExchange$Wish", "goal", "I", false)
  | 3 => ("TownExchange$Wish", "many", "I", false)
  | _ => ("TownExchange$Wish", "digits", "[I", true)
def tyX9 : Nat → FieldType := fun k => match k with
  | 0 => .int
  | 1 => .int
  | 2 => .int
  | 3 => .int
  | _ => .array .int
abbrev wsX90 : List Cond := u_ws RX9 TX9 5
theorem nmX9 : ∀ a, a < 5 → ∀ b, b < 5 → a ≠ b → (TX9 a).2.1 ≠ (TX9 b).2.1 := by decide +kernel
theorem tyX9_ok : ∀ k, k < 5 → parseFieldDescriptor (TX9 k).2.2.1 = some (tyX9 k) := by decide +kernel
abbrev cX9_init : ByteArray := prog_11_method_1_code
def yX9_init : MethodName := ⟨RX9, "<init>", "()V"⟩
abbrev cX9_toRing : ByteArray := prog_11_method_2_code
def yX9_toRing : MethodName := ⟨RX9, "toRing", "(LTownExchange$Line;II)V"⟩
abbrev cX9_again : ByteArray := prog_11_method_3_code
def yX9_again : MethodName := ⟨RX9, "again", "(LTownExchange$Line;)V"⟩
abbrev cX9_ringsOverJunction : ByteArray := prog_11_method_4_code
def yX9_ringsOverJunction : MethodName := ⟨RX9, "ringsOverJunction", "(I)Z"⟩
abbrev cX9_ringsAtFinal : ByteArray := prog_11_method_5_code
def yX9_ringsAtFinal : MethodName := ⟨RX9, "ringsAtFinal", "(LTownExchange$Calls;II)Z"⟩
def RX10 : String := "TownExchange$Word"
def TX10 : u_T := fun k => match k with
  | _ => ("", "", "", false)
def tyX10 : Nat → FieldType := fun k => match k with
  | _ => .int
abbrev wsX100 : List Cond := u_ws RX10 TX10 0
theorem nmX10 : ∀ a, a < 0 → ∀ b, b < 0 → a ≠ b → (TX10 a).2.1 ≠ (TX10 b).2.1 := by decide +kernel
theorem tyX10_ok : ∀ k, k < 0 → parseFieldDescriptor (TX10 k).2.2.1 = some (tyX10 k) := by decide +kernel
def RX11 : String := "TownExchange"
def TX11 : u_T := fun k => match k with
  | 0 => ("TownExchange", "plant", "LTownExchange$Plant;", true)
  | 1 => ("TownExchange", "calls", "LTownExchange$Calls;", true)
  | 2 => ("TownExchange", "relay", "LTownExchange$Relay;", true)
  | 3 => ("TownExchange", "loss", "LTownExchange$Loss;", true)
  | 4 => ("TownExchange", "trouble", "LTownExchange$Trouble;", true)
  | 5 => ("TownExchange", "ledger", "LTownExchange$Ledger;", true)
  | 6 => ("TownExchange", "tape", "LTownExchange$Tape;", true)
  | 7 => ("TownExchange", "tariff", "LTownExchange$Tariff;", false)
  | 8 => ("TownExchange", "spareTariff", "LTownExchange$Tariff;", false)
  | _ => ("TownExchange", "now", "I", false)
def tyX11 : Nat → FieldType := fun k => match k with
  | 0 => .object "TownExchange$Plant"
  | 1 => .object "TownExchange$Calls"
  | 2 => .object "TownExchange$Relay"
  | 3 => .object "TownExchange$Loss"
  | 4 => .object "TownExchange$Trouble"
  | 5 => .object "TownExchange$Ledger"
  | 6 => .object "TownExchange$Tape"
  | 7 => .object "TownExchange$Tariff"
  | 8 => .object "TownExchange$Tariff"
  | _ => .int
abbrev wsX110 : List Cond := u_ws RX11 TX11 10
theorem nmX11 : ∀ a, a < 10 → ∀ b, b < 10 → a ≠ b → (TX11 a).2.1 ≠ (TX11 b).2.1 := by decide +kernel
theorem tyX11_ok : ∀ k, k < 10 → parseFieldDescriptor (TX11 k).2.2.1 = some (tyX11 k) := by decide +kernel
abbrev cX11_init : ByteArray := prog_1_method_1_code
def yX11_init : MethodName := ⟨RX11, "<init>", "()V"⟩
abbrev cX11_seconds : ByteArray := prog_1_method_2_code
def yX11_seconds : MethodName := ⟨RX11, "seconds", "(I)I"⟩
abbrev cX11_rack : ByteArray := prog_1_method_3_code
def yX11_rack : MethodName := ⟨RX11, "rack", "(III)I"⟩
abbrev cX11_outlet : ByteArray := prog_1_method_4_code
def yX11_outlet : MethodName := ⟨RX11, "outlet", "(IIIII)Z"⟩
abbrev cX11_zone : ByteArray := prog_1_method_5_code
def yX11_zone : MethodName := ⟨RX11, "zone", "(II)Z"⟩
abbrev cX11_line : ByteArray := prog_1_method_6_code
def yX11_line : MethodName := ⟨RX11, "line", "(III)I"⟩
abbrev cX11_out : ByteArray := prog_1_method_7_code
def yX11_out : MethodName := ⟨RX11, "out", "(IZ)Z"⟩
abbrev cX11_faulty : ByteArray := prog_1_method_8_code
def yX11_faulty : MethodName := ⟨RX11, "faulty", "(IZ)Z"⟩
abbrev cX11_lift : ByteArray := prog_1_method_9_code
def yX11_lift : MethodName := ⟨RX11, "lift", "(I)I"⟩
abbrev cX11_dial : ByteArray := prog_1_method_10_code
def yX11_dial : MethodName := ⟨RX11, "dial", "(II)I"⟩
abbrev cX11_answer : ByteArray := prog_1_method_11_code
def yX11_answer : MethodName := ⟨RX11, "answer", "(I)Z"⟩
abbrev cX11_end : ByteArray := prog_1_method_12_code
def yX11_end : MethodName := ⟨RX11, "end", "(I)I"⟩
abbrev cX11_feed : ByteArray := prog_1_method_13_code
def yX11_feed : MethodName := ⟨RX11, "feed", "(JJJ)I"⟩
abbrev cX11_tariff : ByteArray := prog_1_method_14_code
def yX11_tariff : MethodName := ⟨RX11, "tariff", "()I"⟩
abbrev cX11_word : ByteArray := prog_1_method_15_code
def yX11_word : MethodName := ⟨RX11, "word", "(II)Z"⟩
abbrev cX11_bill : ByteArray := prog_1_method_16_code
def yX11_bill : MethodName := ⟨RX11, "bill", "(IIII)I"⟩
abbrev cX11_would : ByteArray := prog_1_method_17_code
def yX11_would : MethodName := ⟨RX11, "would", "(III)I"⟩
abbrev cX11_block : ByteArray := prog_1_method_18_code
def yX11_block : MethodName := ⟨RX11, "block", "(IIIIII)I"⟩
abbrev cX11_laid : ByteArray := prog_1_method_19_code
def yX11_laid : MethodName := ⟨RX11, "laid", "(IIII)I"⟩
abbrev cX11_lost : ByteArray := prog_1_method_20_code
def yX11_lost : MethodName := ⟨RX11, "lost", "(III)I"⟩
abbrev cX11_more : ByteArray := prog_1_method_21_code
def yX11_more : MethodName := ⟨RX11, "more", "(IIII)I"⟩
abbrev cX11_test : ByteArray := prog_1_method_22_code
def yX11_test : MethodName := ⟨RX11, "test", "(III)I"⟩
abbrev cX11_explain : ByteArray := prog_1_method_23_code
def yX11_explain : MethodName := ⟨RX11, "explain", "(I)I"⟩
abbrev cX11_sure : ByteArray := prog_1_method_24_code
def yX11_sure : MethodName := ⟨RX11, "sure", "(I)I"⟩
abbrev cX11_forget : ByteArray := prog_1_method_25_code
def yX11_forget : MethodName := ⟨RX11, "forget", "()I"⟩
abbrev cX11_look : ByteArray := prog_1_method_26_code
def yX11_look : MethodName := ⟨RX11, "look", "(II)I"⟩
abbrev cX11_path : ByteArray := prog_1_method_27_code
def yX11_path : MethodName := ⟨RX11, "path", "(II)I"⟩
abbrev cX11_held : ByteArray := prog_1_method_28_code
def yX11_held : MethodName := ⟨RX11, "held", "(I)I"⟩
abbrev cX11_book : ByteArray := prog_1_method_29_code
def yX11_book : MethodName := ⟨RX11, "book", "(II)I"⟩
abbrev cX11_count : ByteArray := prog_1_method_30_code
def yX11_count : MethodName := ⟨RX11, "count", "(I)I"⟩
abbrev cX11_today : ByteArray := prog_1_method_31_code
def yX11_today : MethodName := ⟨RX11, "today", "()I"⟩
abbrev cX11_mayDial : ByteArray := prog_1_method_32_code
def yX11_mayDial : MethodName := ⟨RX11, "mayDial", "(III)Z"⟩
abbrev cX11_blocksNext : ByteArray := prog_1_method_33_code
def yX11_blocksNext : MethodName := ⟨RX11, "blocksNext", "(IIIIII)Z"⟩
abbrev cX11_digitAt : ByteArray := prog_1_method_34_code
def yX11_digitAt : MethodName := ⟨RX11, "digitAt", "(III)I"⟩
def RX12 : String := "TownExchangeModel"
def TX12 : u_T := fun k => match k with
  | 0 => ("TownExchangeModel", "thrown", "I", false)
  | 1 => ("TownExchangeModel", "now", "I", false)
  | 2 => ("TownExchangeModel", "racks", "I", false)
  | 3 => ("TownExchangeModel", "kind", "[I", true)
  | 4 => ("TownExchangeModel", "switches", "[I", true)
  | 5 => ("TownExchangeModel", "sections", "[I", true)
  | 6 => ("TownExchangeModel", "outlet", "[I", true)
  | 7 => ("TownExchangeModel", "zone", "[I", true)
  | 8 => ("TownExchangeModel", "holder", "[I", true)
  | 9 => ("TownExchangeModel", "isOut", "[Z", true)
  | 10 => ("TownExchangeModel", "isFaulty", "[Z", true)
  | 11 => ("TownExchangeModel", "lines", "I", false)
  | 12 => ("TownExchangeModel", "home", "[I", true)
  | 13 => ("TownExchangeModel", "last", "[I", true)
  | 14 => ("TownExchangeModel", "number", "[I", true)
  | 15 => ("TownExchangeModel", "is", "[I", true)
  | 16 => ("TownExchangeModel", "state", "[I", true)
  | 17 => ("TownExchangeModel", "rings", "[I", true)
  | 18 => ("TownExchangeModel", "taken", "[I", true)
  | 19 => ("TownExchangeModel", "digits", "[I", true)
  | 20 => ("TownExchangeModel", "atEnd", "[I", true)
  | 21 => ("TownExchangeModel", "firstAt", "[I", true)
  | 22 => ("TownExchangeModel", "answered", "[I", true)
  | 23 => ("TownExchangeModel", "holds", "[I", true)
  | 24 => ("TownExchangeModel", "path", "[I", true)
  | 25 => ("TownExchangeModel", "triedEnd", "[Z", true)
  | 26 => ("TownExchangeModel", "triedLine", "[Z", true)
  | 27 => ("TownExchangeModel", "calls", "I", false)
  | 28 => ("TownExchangeModel", "callLine", "[I", true)
  | 29 => ("TownExchangeModel", "callUnits", "[I", true)
  | 30 => ("TownExchangeModel", "callDay", "[I", true)
  | 31 => ("TownExchangeModel", "callEnd", "[I", true)
  | 32 => ("TownExchangeModel", "words", "I", false)
  | 33 => ("TownExchangeModel", "wordCall", "[I", true)
  | 34 => ("TownExchangeModel", "wordUnits", "[I", true)
  | 35 => ("TownExchangeModel", "wordDay", "[I", true)
  | 36 => ("TownExchangeModel", "taped", "I", false)
  | 37 => ("TownExchangeModel", "tape", "[I", true)
  | 38 => ("TownExchangeModel", "size", "I", false)
  | 39 => ("TownExchangeModel", "place", "I", false)
  | 40 => ("TownExchangeModel", "begin", "I", false)
  | 41 => ("TownExchangeModel", "token", "I", false)
  | 42 => ("TownExchangeModel", "word", "J", false)
  | 43 => ("TownExchangeModel", "told", "I", false)
  | 44 => ("TownExchangeModel", "wrong", "I", false)
  | 45 => ("TownExchangeModel", "tariffLines", "[I", true)
  | 46 => ("TownExchangeModel", "lineName", "[I", true)
  | 47 => ("TownExchangeModel", "lineUnits", "[I", true)
  | 48 => ("TownExchangeModel", "lineEach", "[I", true)
  | 49 => ("TownExchangeModel", "lineFrom", "[I", true)
  | 50 => ("TownExchangeModel", "lineTo", "[I", true)
  | 51 => ("TownExchangeModel", "names", "[I", true)
  | 52 => ("TownExchangeModel", "name", "[J", true)
  | 53 => ("TownExchangeModel", "codes", "[I", true)
  | 54 => ("TownExchangeModel", "code", "I", false)
  | 55 => ("TownExchangeModel", "opened", "[I", true)
  | 56 => ("TownExchangeModel", "compared", "[Z", true)
  | 57 => ("TownExchangeModel", "kept", "[I", true)
  | 58 => ("TownExchangeModel", "keptBy", "[I", true)
  | 59 => ("TownExchangeModel", "first", "[I", true)
  | 60 => ("TownExchangeModel", "against", "[I", true)
  | 61 => ("TownExchangeModel", "sum", "[I", true)
  | 62 => ("TownExchangeModel", "sumBy", "[I", true)
  | 63 => ("TownExchangeModel", "term", "[I", true)
  | 64 => ("TownExchangeModel", "times", "[Z", true)
  | 65 => ("TownExchangeModel", "byNot", "[I", true)
  | 66 => ("TownExchangeModel", "valueOf", "[I", true)
  | 67 => ("TownExchangeModel", "named", "[I", true)
  | 68 => ("TownExchangeModel", "wouldHold", "I", false)
  | 69 => ("TownExchangeModel", "would", "[I", true)
  | 70 => ("TownExchangeModel", "choice", "[I", true)
  | 71 => ("TownExchangeModel", "laidBy", "[I", true)
  | 72 => ("TownExchangeModel", "laidCount", "I", false)
  | 73 => ("TownExchangeModel", "kepts", "[I", true)
  | 74 => ("TownExchangeModel", "isEndOf", "[Z", true)
  | 75 => ("TownExchangeModel", "tests", "I", false)
  | 76 => ("TownExchangeModel", "failed", "[Z", true)
  | 77 => ("TownExchangeModel", "testHolds", "[Z", true)
  | 78 => ("TownExchangeModel", "set", "[I", true)
  | 79 => ("TownExchangeModel", "sets", "[I", true)
  | 80 => ("TownExchangeModel", "leastSet", "[I", true)
  | _ => ("TownExchangeModel", "setCount", "I", false)
def tyX12 : Nat → FieldType := fun k => match k with
  | 0 => .int
  | 1 => .int
  | 2 => .int
  | 3 => .array .int
  | 4 => .array .int
  | 5 => .array .int
  | 6 => .array .int
  | 7 => .array .int
  | 8 => .array .int
  | 9 => .array .boolean
  | 10 => .array .boolean
  | 11 => .int
  | 12 => .array .int
  | 13 => .array .int
  | 14 => .array .int
  | 15 => .array .int
  | 16 => .array .int
  | 17 => .array .int
  | 18 => .array .int
  | 19 => .array .int
  | 20 => .array .int
  | 21 => .array .int
  | 22 => .array .int
  | 23 => .array .int
  | 24 => .array .int
  | 25 => .array .boolean
  | 26 => .array .boolean
  | 27 => .int
  | 28 => .array .int
  | 29 => .array .int
  | 30 => .array .int
  | 31 => .array .int
  | 32 => .int
  | 33 => .array .int
  | 34 => .array .int
  | 35 => .array .int
  | 36 => .int
  | 37 => .array .int
  | 38 => .int
  | 39 => .int
  | 40 => .int
  | 41 => .int
  | 42 => .long
  | 43 => .int
  | 44 => .int
  | 45 => .array .int
  | 46 => .array .int
  | 47 => .array .int
  | 48 => .array .int
  | 49 => .array .int
  | 50 => .array .int
  | 51 => .array .int
  | 52 => .array .long
  | 53 => .array .int
  | 54 => .int
  | 55 => .array .int
  | 56 => .array .boolean
  | 57 => .array .int
  | 58 => .array .int
  | 59 => .array .int
  | 60 => .array .int
  | 61 => .array .int
  | 62 => .array .int
  | 63 => .array .int
  | 64 => .array .boolean
  | 65 => .array .int
  | 66 => .array .int
  | 67 => .array .int
  | 68 => .int
  | 69 => .array .int
  | 70 => .array .int
  | 71 => .array .int
  | 72 => .int
  | 73 => .array .int
  | 74 => .array .boolean
  | 75 => .int
  | 76 => .array .boolean
  | 77 => .array .boolean
  | 78 => .array .int
  | 79 => .array .int
  | 80 => .array .int
  | _ => .int
abbrev wsX120 : List Cond := u_ws RX12 TX12 82
theorem nmX12 : ∀ a, a < 82 → ∀ b, b < 82 → a ≠ b → (TX12 a).2.1 ≠ (TX12 b).2.1 := by decide +kernel
theorem tyX12_ok : ∀ k, k < 82 → parseFieldDescriptor (TX12 k).2.2.1 = some (tyX12 k) := by decide +kernel
abbrev cX12_init : ByteArray := prog_14_method_1_code
def yX12_init : MethodName := ⟨RX12, "<init>", "()V"⟩
abbrev cX12_thrown : ByteArray := prog_14_method_2_code
def yX12_thrown : MethodName := ⟨RX12, "thrown", "()I"⟩
abbrev cX12_within : ByteArray := prog_14_method_3_code
def yX12_within : MethodName := ⟨RX12, "within", "(III)Z"⟩
abbrev cX12_isSwitch : ByteArray := prog_14_method_4_code
def yX12_isSwitch : MethodName := ⟨RX12, "isSwitch", "(I)Z"⟩
abbrev cX12_isEnd : ByteArray := prog_14_method_5_code
def yX12_isEnd : MethodName := ⟨RX12, "isEnd", "(I)Z"⟩
abbrev cX12_isLine : ByteArray := prog_14_method_6_code
def yX12_isLine : MethodName := ⟨RX12, "isLine", "(I)Z"⟩
abbrev cX12_isSelectors : ByteArray := prog_14_method_7_code
def yX12_isSelectors : MethodName := ⟨RX12, "isSelectors", "(I)Z"⟩
abbrev cX12_seconds : ByteArray := prog_14_method_8_code
def yX12_seconds : MethodName := ⟨RX12, "seconds", "(I)I"⟩
abbrev cX12_rack : ByteArray := prog_14_method_9_code
def yX12_rack : MethodName := ⟨RX12, "rack", "(III)I"⟩
abbrev cX12_outletAt : ByteArray := prog_14_method_10_code
def yX12_outletAt : MethodName := ⟨RX12, "outletAt", "(IIII)I"⟩
abbrev cX12_outlet : ByteArray := prog_14_method_11_code
def yX12_outlet : MethodName := ⟨RX12, "outlet", "(IIIII)Z"⟩
abbrev cX12_zone : ByteArray := prog_14_method_12_code
def yX12_zone : MethodName := ⟨RX12, "zone", "(II)Z"⟩
abbrev cX12_lineOf : ByteArray := prog_14_method_13_code
def yX12_lineOf : MethodName := ⟨RX12, "lineOf", "(II)I"⟩
abbrev cX12_line : ByteArray := prog_14_method_14_code
def yX12_line : MethodName := ⟨RX12, "line", "(III)I"⟩
abbrev cX12_out : ByteArray := prog_14_method_15_code
def yX12_out : MethodName := ⟨RX12, "out", "(IZ)Z"⟩
abbrev cX12_faulty : ByteArray := prog_14_method_16_code
def yX12_faulty : MethodName := ⟨RX12, "faulty", "(IZ)Z"⟩
abbrev cX12_isFree : ByteArray := prog_14_method_17_code
def yX12_isFree : MethodName := ⟨RX12, "isFree", "(I)Z"⟩
abbrev cX12_isQuiet : ByteArray := prog_14_method_18_code
def yX12_isQuiet : MethodName := ⟨RX12, "isQuiet", "(I)Z"⟩
abbrev cX12_firstFree : ByteArray := prog_14_method_19_code
def yX12_firstFree : MethodName := ⟨RX12, "firstFree", "(I)I"⟩
abbrev cX12_goesTo : ByteArray := prog_14_method_20_code
def yX12_goesTo : MethodName := ⟨RX12, "goesTo", "(II)I"⟩
abbrev cX12_hold : ByteArray := prog_14_method_21_code
def yX12_hold : MethodName := ⟨RX12, "hold", "(II)V"⟩
abbrev cX12_lift : ByteArray := prog_14_method_22_code
def yX12_lift : MethodName := ⟨RX12, "lift", "(I)I"⟩
abbrev cX12_head : ByteArray := prog_14_method_23_code
def yX12_head : MethodName := ⟨RX12, "head", "(I)I"⟩
abbrev cX12_isEnding : ByteArray := prog_14_method_24_code
def yX12_isEnding : MethodName := ⟨RX12, "isEnding", "(I)Z"⟩
abbrev cX12_dial : ByteArray := prog_14_method_25_code
def yX12_dial : MethodName := ⟨RX12, "dial", "(II)I"⟩
abbrev cX12_answer : ByteArray := prog_14_method_26_code
def yX12_answer : MethodName := ⟨RX12, "answer", "(I)Z"⟩
abbrev cX12_end : ByteArray := prog_14_method_27_code
def yX12_end : MethodName := ⟨RX12, "end", "(I)I"⟩
abbrev cX12_word : ByteArray := prog_14_method_28_code
def yX12_word : MethodName := ⟨RX12, "word", "(II)Z"⟩
abbrev cX12_unitsBy : ByteArray := prog_14_method_29_code
def yX12_unitsBy : MethodName := ⟨RX12, "unitsBy", "(II)I"⟩
abbrev cX12_bill : ByteArray := prog_14_method_30_code
def yX12_bill : MethodName := ⟨RX12, "bill", "(IIII)I"⟩
abbrev cX12_feed : ByteArray := prog_14_method_31_code
def yX12_feed : MethodName := ⟨RX12, "feed", "(JJJ)I"⟩
abbrev cX12_signAt : ByteArray := prog_14_method_32_code
def yX12_signAt : MethodName := ⟨RX12, "signAt", "(I)I"⟩
abbrev cX12_next : ByteArray := prog_14_method_33_code
def yX12_next : MethodName := ⟨RX12, "next", "()V"⟩
abbrev cX12_isWord : ByteArray := prog_14_method_34_code
def yX12_isWord : MethodName := ⟨RX12, "isWord", "(J)Z"⟩
abbrev cX12_isSign : ByteArray := prog_14_method_35_code
def yX12_isSign : MethodName := ⟨RX12, "isSign", "(I)Z"⟩
abbrev cX12_fails : ByteArray := prog_14_method_36_code
def yX12_fails : MethodName := ⟨RX12, "fails", "(I)Z"⟩
abbrev cX12_puts : ByteArray := prog_14_method_37_code
def yX12_puts : MethodName := ⟨RX12, "puts", "(I)V"⟩
abbrev cX12_fact : ByteArray := prog_14_method_38_code
def yX12_fact : MethodName := ⟨RX12, "fact", "()I"⟩
abbrev cX12_isOwn : ByteArray := prog_14_method_39_code
def yX12_isOwn : MethodName := ⟨RX12, "isOwn", "()Z"⟩
abbrev cX12_nameAt : ByteArray := prog_14_method_40_code
def yX12_nameAt : MethodName := ⟨RX12, "nameAt", "()I"⟩
abbrev cX12_reads : ByteArray := prog_14_method_41_code
def yX12_reads : MethodName := ⟨RX12, "reads", "(I)Z"⟩
abbrev cX12_readsLine : ByteArray := prog_14_method_42_code
def yX12_readsLine : MethodName := ⟨RX12, "readsLine", "()Z"⟩
abbrev cX12_tariff : ByteArray := prog_14_method_43_code
def yX12_tariff : MethodName := ⟨RX12, "tariff", "()I"⟩
abbrev cX12_opens : ByteArray := prog_14_method_44_code
def yX12_opens : MethodName := ⟨RX12, "opens", "(I)V"⟩
abbrev cX12_sums : ByteArray := prog_14_method_45_code
def yX12_sums : MethodName := ⟨RX12, "sums", "(I)V"⟩
abbrev cX12_tests : ByteArray := prog_14_method_46_code
def yX12_tests : MethodName := ⟨RX12, "tests", "(I)V"⟩
abbrev cX12_worth : ByteArray := prog_14_method_47_code
def yX12_worth : MethodName := ⟨RX12, "worth", "(I)I"⟩
abbrev cX12_unitsOf : ByteArray := prog_14_method_48_code
def yX12_unitsOf : MethodName := ⟨RX12, "unitsOf", "(I)I"⟩
abbrev cX12_clears : ByteArray := prog_14_method_49_code
def yX12_clears : MethodName := ⟨RX12, "clears", "()V"⟩
abbrev cX12_digitOf : ByteArray := prog_14_method_50_code
def yX12_digitOf : MethodName := ⟨RX12, "digitOf", "(III)I"⟩
abbrev cX12_tries : ByteArray := prog_14_method_51_code
def yX12_tries : MethodName := ⟨RX12, "tries", "(I)V"⟩
abbrev cX12_meets : ByteArray := prog_14_method_52_code
def yX12_meets : MethodName := ⟨RX12, "meets", "(III)I"⟩
abbrev cX12_canTry : ByteArray := prog_14_method_53_code
def yX12_canTry : MethodName := ⟨RX12, "canTry", "(III)Z"⟩
abbrev cX12_would : ByteArray := prog_14_method_54_code
def yX12_would : MethodName := ⟨RX12, "would", "(III)I"⟩
abbrev cX12_block : ByteArray := prog_14_method_55_code
def yX12_block : MethodName := ⟨RX12, "block", "(IIIIII)I"⟩
abbrev cX12_mayUse : ByteArray := prog_14_method_56_code
def yX12_mayUse : MethodName := ⟨RX12, "mayUse", "(II)Z"⟩
abbrev cX12_lays : ByteArray := prog_14_method_57_code
def yX12_lays : MethodName := ⟨RX12, "lays", "(IIIIII)I"⟩
abbrev cX12_takes : ByteArray := prog_14_method_58_code
def yX12_takes : MethodName := ⟨RX12, "takes", "(I)V"⟩
abbrev cX12_gives : ByteArray := prog_14_method_59_code
def yX12_gives : MethodName := ⟨RX12, "gives", "()V"⟩
abbrev cX12_counts : ByteArray := prog_14_method_60_code
def yX12_counts : MethodName := ⟨RX12, "counts", "(III)Z"⟩
abbrev cX12_canLay : ByteArray := prog_14_method_61_code
def yX12_canLay : MethodName := ⟨RX12, "canLay", "(IIII)Z"⟩
abbrev cX12_canMove : ByteArray := prog_14_method_62_code
def yX12_canMove : MethodName := ⟨RX12, "canMove", "(IIII)Z"⟩
abbrev cX12_laid : ByteArray := prog_14_method_63_code
def yX12_laid : MethodName := ⟨RX12, "laid", "(IIII)I"⟩
abbrev cX12_ways : ByteArray := prog_14_method_64_code
def yX12_ways : MethodName := ⟨RX12, "ways", "(II)I"⟩
abbrev cX12_losing : ByteArray := prog_14_method_65_code
def yX12_losing : MethodName := ⟨RX12, "losing", "(IIII)I"⟩
abbrev cX12_canLose : ByteArray := prog_14_method_66_code
def yX12_canLose : MethodName := ⟨RX12, "canLose", "(III)Z"⟩
abbrev cX12_lost : ByteArray := prog_14_method_67_code
def yX12_lost : MethodName := ⟨RX12, "lost", "(III)I"⟩
abbrev cX12_more : ByteArray := prog_14_method_68_code
def yX12_more : MethodName := ⟨RX12, "more", "(IIII)I"⟩
abbrev cX12_test : ByteArray := prog_14_method_69_code
def yX12_test : MethodName := ⟨RX12, "test", "(III)I"⟩
abbrev cX12_explains : ByteArray := prog_14_method_70_code
def yX12_explains : MethodName := ⟨RX12, "explains", "(I)Z"⟩
abbrev cX12_found : ByteArray := prog_14_method_71_code
def yX12_found : MethodName := ⟨RX12, "found", "(I)V"⟩
abbrev cX12_fewest : ByteArray := prog_14_method_72_code
def yX12_fewest : MethodName := ⟨RX12, "fewest", "()I"⟩
abbrev cX12_explain : ByteArray := prog_14_method_73_code
def yX12_explain : MethodName := ⟨RX12, "explain", "(I)I"⟩
abbrev cX12_sure : ByteArray := prog_14_method_74_code
def yX12_sure : MethodName := ⟨RX12, "sure", "(I)I"⟩
abbrev cX12_forget : ByteArray := prog_14_method_75_code
def yX12_forget : MethodName := ⟨RX12, "forget", "()I"⟩
abbrev cX12_look : ByteArray := prog_14_method_76_code
def yX12_look : MethodName := ⟨RX12, "look", "(II)I"⟩
abbrev cX12_path : ByteArray := prog_14_method_77_code
def yX12_path : MethodName := ⟨RX12, "path", "(II)I"⟩
abbrev cX12_held : ByteArray := prog_14_method_78_code
def yX12_held : MethodName := ⟨RX12, "held", "(I)I"⟩
abbrev cX12_book : ByteArray := prog_14_method_79_code
def yX12_book : MethodName := ⟨RX12, "book", "(II)I"⟩
abbrev cX12_count : ByteArray := prog_14_method_80_code
def yX12_count : MethodName := ⟨RX12, "count", "(I)I"⟩
def RJx145de : String := "java/io/Serializable"
def TJx145de : u_T := fun k => match k with
  | _ => ("", "", "", false)
def tyJx145de : Nat → FieldType := fun k => match k with
  | _ => .int
abbrev wsJx145de0 : List Cond := u_ws RJx145de TJx145de 0
theorem nmJx145de : ∀ a, a < 0 → ∀ b, b < 0 → a ≠ b → (TJx145de a).2.1 ≠ (TJx145de b).2.1 := by decide +kernel
theorem tyJx145de_ok : ∀ k, k < 0 → parseFieldDescriptor (TJx145de k).2.2.1 = some (tyJx145de k) := by decide +kernel
def RJx9f9b0 : String := "java/lang/CharSequence"
def TJx9f9b0 : u_T := fun k => match k with
  | _ => ("", "", "", false)
def tyJx9f9b0 : Nat → FieldType := fun k => match k with
  | _ => .int
abbrev wsJx9f9b00 : List Cond := u_ws RJx9f9b0 TJx9f9b0 0
theorem nmJx9f9b0 : ∀ a, a < 0 → ∀ b, b < 0 → a ≠ b → (TJx9f9b0 a).2.1 ≠ (TJx9f9b0 b).2.1 := by decide +kernel
theorem tyJx9f9b0_ok : ∀ k, k < 0 → parseFieldDescriptor (TJx9f9b0 k).2.2.1 = some (tyJx9f9b0 k) := by decide +kernel
def RJ11 : String := "java/lang/Character"
def TJ11 : u_T := fun k => match k with
  | _ => ("", "", "", false)
def tyJ11 : Nat → FieldType := fun k => match k with
  | _ => .int
abbrev wsJ110 : List Cond := u_ws RJ11 TJ11 0
theorem nmJ11 : ∀ a, a < 0 → ∀ b, b < 0 → a ≠ b → (TJ11 a).2.1 ≠ (TJ11 b).2.1 := by decide +kernel
theorem tyJ11_ok : ∀ k, k < 0 → parseFieldDescriptor (TJ11 k).2.2.1 = some (tyJ11 k) := by decide +kernel
abbrev cJ11_isValidCodePoint_9a6ad : ByteArray := prog_17_method_11_code
def yJ11_isValidCodePoint_9a6ad : MethodName := ⟨RJ11, "isValidCodePoint", "(I)Z"⟩
abbrev cJ11_highSurrogate_5068e : ByteArray := prog_17_method_28_code
def yJ11_highSurrogate_5068e : MethodName := ⟨RJ11, "highSurrogate", "(I)C"⟩
abbrev cJ11_lowSurrogate_5068e : ByteArray := prog_17_method_29_code
def yJ11_lowSurrogate_5068e : MethodName := ⟨RJ11, "lowSurrogate", "(I)C"⟩
def RJxb160c : String := "java/lang/Comparable"
def TJxb160c : u_T := fun k => match k with
  | _ => ("", "", "", false)
def tyJxb160c : Nat → FieldType := fun k => match k with
  | _ => .int
abbrev wsJxb160c0 : List Cond := u_ws RJxb160c TJxb160c 0
theorem nmJxb160c : ∀ a, a < 0 → ∀ b, b < 0 → a ≠ b → (TJxb160c a).2.1 ≠ (TJxb160c b).2.1 := by decide +kernel
theorem tyJxb160c_ok : ∀ k, k < 0 → parseFieldDescriptor (TJxb160c k).2.2.1 = some (tyJxb160c k) := by decide +kernel
def RJx29ce0 : String := "java/lang/Enum"
def TJx29ce0 : u_T := fun k => match k with
  | _ => ("", "", "", false)
def tyJx29ce0 : Nat → FieldType := fun k => match k with
  | _ => .int
abbrev wsJx29ce00 : List Cond := u_ws RJx29ce0 TJx29ce0 0
theorem nmJx29ce0 : ∀ a, a < 0 → ∀ b, b < 0 → a ≠ b → (TJx29ce0 a).2.1 ≠ (TJx29ce0 b).2.1 := by decide +kernel
theorem tyJx29ce0_ok : ∀ k, k < 0 → parseFieldDescriptor (TJx29ce0 k).2.2.1 = some (tyJx29ce0 k) := by decide +kernel
def RJ9 : String := "java/lang/Math"
def TJ9 : u_T := fun k => match k with
  | _ => ("", "", "", false)
def tyJ9 : Nat → FieldType := fun k => match k with
  | _ => .int
abbrev wsJ90 : List Cond := u_ws RJ9 TJ9 0
theorem nmJ9 : ∀ a, a < 0 → ∀ b, b < 0 → a ≠ b → (TJ9 a).2.1 ≠ (TJ9 b).2.1 := by decide +kernel
theorem tyJ9_ok : ∀ k, k < 0 → parseFieldDescriptor (TJ9 k).2.2.1 = some (tyJ9 k) := by decide +kernel
abbrev cJ9_max_7cf53 : ByteArray := prog_21_method_65_code
def yJ9_max_7cf53 : MethodName := ⟨RJ9, "max", "(II)I"⟩
abbrev cJ9_min_7cf53 : ByteArray := prog_21_method_69_code
def yJ9_min_7cf53 : MethodName := ⟨RJ9, "min", "(II)I"⟩
def RJ0 : String := "java/lang/String"
def TJ0 : u_T := fun k => match k with
  | _ => ("", "", "", false)
def tyJ0 : Nat → FieldType := fun k => match k with
  | _ => .int
abbrev wsJ00 : List Cond := u_ws RJ0 TJ0 0
theorem nmJ0 : ∀ a, a < 0 → ∀ b, b < 0 → a ≠ b → (TJ0 a).2.1 ≠ (TJ0 b).2.1 := by decide +kernel
theorem tyJ0_ok : ∀ k, k < 0 → parseFieldDescriptor (TJ0 k).2.2.1 = some (tyJ0 k) := by decide +kernel
abbrev cJ0_length_8abf5 : ByteArray := prog_23_method_54_code
def yJ0_length_8abf5 : MethodName := ⟨RJ0, "length", "()I"⟩
abbrev cJ0_charAt_5068e : ByteArray := prog_23_method_56_code
def yJ0_charAt_5068e : MethodName := ⟨RJ0, "charAt", "(I)C"⟩
abbrev cJ0_indexOf_0f7a4 : ByteArray := prog_23_method_79_code
def yJ0_indexOf_0f7a4 : MethodName := ⟨RJ0, "indexOf", "(I)I"⟩
abbrev cJ0_indexOf_7cf53 : ByteArray := prog_23_method_80_code
def yJ0_indexOf_7cf53 : MethodName := ⟨RJ0, "indexOf", "(II)I"⟩
abbrev cJ0_coder_7d493 : ByteArray := prog_23_method_152_code
def yJ0_coder_7d493 : MethodName := ⟨RJ0, "coder", "()B"⟩
abbrev cJ0_isLatin1_aae02 : ByteArray := prog_23_method_154_code
def yJ0_isLatin1_aae02 : MethodName := ⟨RJ0, "isLatin1", "()Z"⟩
abbrev cJ0_checkIndex_df160 : ByteArray := prog_23_method_155_code
def yJ0_checkIndex_df160 : MethodName := ⟨RJ0, "checkIndex", "(II)V"⟩
abbrev cJ0_checkBoundsBeginEnd_23922 : ByteArray := prog_23_method_158_code
def yJ0_checkBoundsBeginEnd_23922 : MethodName := ⟨RJ0, "checkBoundsBeginEnd", "(III)V"⟩
def RJ1 : String := "java/lang/StringLatin1"
def TJ1 : u_T := fun k => match k with
  | _ => ("", "", "", false)
def tyJ1 : Nat → FieldType := fun k => match k with
  | _ => .int
abbrev wsJ10 : List Cond := u_ws RJ1 TJ1 0
theorem nmJ1 : ∀ a, a < 0 → ∀ b, b < 0 → a ≠ b → (TJ1 a).2.1 ≠ (TJ1 b).2.1 := by decide +kernel
theorem tyJ1_ok : ∀ k, k < 0 → parseFieldDescriptor (TJ1 k).2.2.1 = some (tyJ1 k) := by decide +kernel
abbrev cJ1_charAt_3b067 : ByteArray := prog_24_method_2_code
def yJ1_charAt_3b067 : MethodName := ⟨RJ1, "charAt", "([BI)C"⟩
abbrev cJ1_canEncode_9a6ad : ByteArray := prog_24_method_4_code
def yJ1_canEncode_9a6ad : MethodName := ⟨RJ1, "canEncode", "(I)Z"⟩
abbrev cJ1_indexOf_4cfef : ByteArray := prog_24_method_22_code
def yJ1_indexOf_4cfef : MethodName := ⟨RJ1, "indexOf", "([BIII)I"⟩
abbrev cJ1_indexOfChar_4cfef : ByteArray := prog_24_method_23_code
def yJ1_indexOfChar_4cfef : MethodName := ⟨RJ1, "indexOfChar", "([BIII)I"⟩
def RJ2 : String := "java/lang/StringUTF16"
def TJ2 : u_T := fun k => match k with
  | _ => ("", "", "", false)
def tyJ2 : Nat → FieldType := fun k => match k with
  | _ => .int
abbrev wsJ20 : List Cond := u_ws RJ2 TJ2 0
theorem nmJ2 : ∀ a, a < 0 → ∀ b, b < 0 → a ≠ b → (TJ2 a).2.1 ≠ (TJ2 b).2.1 := by decide +kernel
theorem tyJ2_ok : ∀ k, k < 0 → parseFieldDescriptor (TJ2 k).2.2.1 = some (tyJ2 k) := by decide +kernel
abbrev cJ2_getChar_3b067 : ByteArray := prog_25_method_5_code
def yJ2_getChar_3b067 : MethodName := ⟨RJ2, "getChar", "([BI)C"⟩
abbrev cJ2_length_9d52b : ByteArray := prog_25_method_6_code
def yJ2_length_9d52b : MethodName := ⟨RJ2, "length", "([B)I"⟩
abbrev cJ2_indexOf_4cfef : ByteArray := prog_25_method_40_code
def yJ2_indexOf_4cfef : MethodName := ⟨RJ2, "indexOf", "([BIII)I"⟩
abbrev cJ2_indexOfChar_4cfef : ByteArray := prog_25_method_47_code
def yJ2_indexOfChar_4cfef : MethodName := ⟨RJ2, "indexOfChar", "([BIII)I"⟩
abbrev cJ2_indexOfCharUnsafe_4cfef : ByteArray := prog_25_method_48_code
def yJ2_indexOfCharUnsafe_4cfef : MethodName := ⟨RJ2, "indexOfCharUnsafe", "([BIII)I"⟩
abbrev cJ2_indexOfSupplementary_4cfef : ByteArray := prog_25_method_49_code
def yJ2_indexOfSupplementary_4cfef : MethodName := ⟨RJ2, "indexOfSupplementary", "([BIII)I"⟩
abbrev cJ2_charAt_3b067 : ByteArray := prog_25_method_83_code
def yJ2_charAt_3b067 : MethodName := ⟨RJ2, "charAt", "([BI)C"⟩
abbrev cJ2_checkIndex_2214a : ByteArray := prog_25_method_91_code
def yJ2_checkIndex_2214a : MethodName := ⟨RJ2, "checkIndex", "(I[B)V"⟩
abbrev cJ2_checkBoundsBeginEnd_d044e : ByteArray := prog_25_method_93_code
def yJ2_checkBoundsBeginEnd_d044e : MethodName := ⟨RJ2, "checkBoundsBeginEnd", "(II[B)V"⟩
def RJ10 : String := "java/lang/System"
def TJ10 : u_T := fun k => match k with
  | _ => ("", "", "", false)
def tyJ10 : Nat → FieldType := fun k => match k with
  | _ => .int
abbrev wsJ100 : List Cond := u_ws RJ10 TJ10 0
theorem nmJ10 : ∀ a, a < 0 → ∀ b, b < 0 → a ≠ b → (TJ10 a).2.1 ≠ (TJ10 b).2.1 := by decide +kernel
theorem tyJ10_ok : ∀ k, k < 0 → parseFieldDescriptor (TJ10 k).2.2.1 = some (tyJ10 k) := by decide +kernel
def RJxfd54e : String := "java/lang/constant/Constable"
def TJxfd54e : u_T := fun k => match k with
  | _ => ("", "", "", false)
def tyJxfd54e : Nat → FieldType := fun k => match k with
  | _ => .int
abbrev wsJxfd54e0 : List Cond := u_ws RJxfd54e TJxfd54e 0
theorem nmJxfd54e : ∀ a, a < 0 → ∀ b, b < 0 → a ≠ b → (TJxfd54e a).2.1 ≠ (TJxfd54e b).2.1 := by decide +kernel
theorem tyJxfd54e_ok : ∀ k, k < 0 → parseFieldDescriptor (TJxfd54e k).2.2.1 = some (tyJxfd54e k) := by decide +kernel
def RJx3cf43 : String := "java/lang/constant/ConstantDesc"
def TJx3cf43 : u_T := fun k => match k with
  | _ => ("", "", "", false)
def tyJx3cf43 : Nat → FieldType := fun k => match k with
  | _ => .int
abbrev wsJx3cf430 : List Cond := u_ws RJx3cf43 TJx3cf43 0
theorem nmJx3cf43 : ∀ a, a < 0 → ∀ b, b < 0 → a ≠ b → (TJx3cf43 a).2.1 ≠ (TJx3cf43 b).2.1 := by decide +kernel
theorem tyJx3cf43_ok : ∀ k, k < 0 → parseFieldDescriptor (TJx3cf43 k).2.2.1 = some (tyJx3cf43 k) := by decide +kernel
def RJ7 : String := "java/util/Arrays"
def TJ7 : u_T := fun k => match k with
  | _ => ("", "", "", false)
def tyJ7 : Nat → FieldType := fun k => match k with
  | _ => .int
abbrev wsJ70 : List Cond := u_ws RJ7 TJ7 0
theorem nmJ7 : ∀ a, a < 0 → ∀ b, b < 0 → a ≠ b → (TJ7 a).2.1 ≠ (TJ7 b).2.1 := by decide +kernel
theorem tyJ7_ok : ∀ k, k < 0 → parseFieldDescriptor (TJ7 k).2.2.1 = some (tyJ7 k) := by decide +kernel
abbrev cJ7_fill_53178 : ByteArray := prog_30_method_103_code
def yJ7_fill_53178 : MethodName := ⟨RJ7, "fill", "([II)V"⟩
def RJ3 : String := "jdk/internal/util/Preconditions"
def TJ3 : u_T := fun k => match k with
  | _ => ("", "", "", false)
def tyJ3 : Nat → FieldType := fun k => match k with
  | _ => .int
abbrev wsJ30 : List Cond := u_ws RJ3 TJ3 0
theorem nmJ3 : ∀ a, a < 0 → ∀ b, b < 0 → a ≠ b → (TJ3 a).2.1 ≠ (TJ3 b).2.1 := by decide +kernel
theorem tyJ3_ok : ∀ k, k < 0 → parseFieldDescriptor (TJ3 k).2.2.1 = some (tyJ3 k) := by decide +kernel
abbrev cJ3_checkIndex_8e157 : ByteArray := prog_32_method_11_code
def yJ3_checkIndex_8e157 : MethodName := ⟨RJ3, "checkIndex", "(IILjava/util/function/BiFunction;)I"⟩
abbrev cJ3_checkFromToIndex_8c36e : ByteArray := prog_32_method_12_code
def yJ3_checkFromToIndex_8c36e : MethodName := ⟨RJ3, "checkFromToIndex", "(IIILjava/util/function/BiFunction;)I"⟩
def RL : String := "TownExchangeLaw"
abbrev cL_look : ByteArray := method_3_code
def yL_look : MethodName := ⟨RL, "look", "(LTownExchange;II[J)I"⟩
abbrev cL_law : ByteArray := code
def yL_law : MethodName := ⟨RL, "law", "([I)Z"⟩
abbrev vwCl : List vw_C := [(RX0, TX0, 4), (RX1, TX1, 9), (RX2, TX2, 12), (RX3, TX3, 4), (RX4, TX4, 9), (RX5, TX5, 6), (RX6, TX6, 6), (RX7, TX7, 13), (RX8, TX8, 11), (RX9, TX9, 5), (RX11, TX11, 10), (RX12, TX12, 82)]
end
section
/-! TABLES of the abstract machine, written by a program (wip/whole/gen) out of the names that the claim prints -/
def zE {α : Type} (x k : Nat) (a b : α) : α := bif Nat.beq x k then a else b
def zH {α : Type} (x k : Nat) (a b : α) : α := bif Nat.blt x k then a else b
def zQ (x k : Nat) (i : Instr) (n : Nat) : Option (Instr × Nat) := bif Nat.beq x k then some (i, n) else none
def zc_0 (pc : Nat) : Option (Instr × Nat) := bif Nat.blt pc 115 then (zH pc 60 (zH pc 33 (zH pc 16 (zH pc 6 (zH pc 4 (zH pc 1 (zQ pc 0 (.aload_n 0) 1) (zQ pc 1 (.getfield 21) 3)) (zH pc 5 (zQ pc 4 (.iconst 0) 1) (zQ pc 5 (.iload_n 1) 1))) (zH pc 12 (zH pc 9 (zQ pc 6 (.invokevirtual 31) 3) (zQ pc 9 (.ifCond .eq 24) 3)) (zH pc 13 (zQ pc 12 (.aload_n 0) 1) (zQ pc 13 (.getfield 21) 3)))) (zH pc 24 (zH pc 18 (zH pc 17 (zQ pc 16 (.iconst 1) 1) (zQ pc 17 (.iload_n 2) 1)) (zH pc 21 (zQ pc 18 (.invokevirtual 31) 3) (zQ pc 21 (.ifCond .eq 12) 3))) (zH pc 28 (zH pc 25 (zQ pc 24 (.aload_n 0) 1) (zQ pc 25 (.getfield 37) 3)) (zH pc 30 (zQ pc 28 (.bipush 40) 2) (zQ pc 30 (.if_icmp .ne 5) 3))))) (zH pc 46 (zH pc 39 (zH pc 35 (zH pc 34 (zQ pc 33 (.iconst (-1)) 1) (zQ pc 34 .ireturn 1)) (zH pc 36 (zQ pc 35 (.iload_n 3) 1) (zQ pc 36 (.ifCond .lt 24) 3))) (zH pc 42 (zH pc 40 (zQ pc 39 (.iload_n 3) 1) (zQ pc 40 (.bipush 100) 2)) (zH pc 45 (zQ pc 42 (.if_icmp .ge 18) 3) (zQ pc 45 (.aload_n 0) 1)))) (zH pc 53 (zH pc 50 (zH pc 49 (zQ pc 46 (.getfield 17) 3) (zQ pc 49 (.iload_n 2) 1)) (zH pc 52 (zQ pc 50 (.bipush 100) 2) (zQ pc 52 .imul 1))) (zH pc 55 (zH pc 54 (zQ pc 53 (.iload_n 3) 1) (zQ pc 54 .iadd 1)) (zH pc 56 (zQ pc 55 .iaload 1) (zH pc 57 (zQ pc 56 (.iconst (-1)) 1) (zQ pc 57 (.if_icmp .eq 5) 3))))))) (zH pc 90 (zH pc 74 (zH pc 66 (zH pc 62 (zH pc 61 (zQ pc 60 (.iconst (-1)) 1) (zQ pc 61 .ireturn 1)) (zH pc 63 (zQ pc 62 (.aload_n 0) 1) (zQ pc 63 (.getfield 11) 3))) (zH pc 70 (zH pc 67 (zQ pc 66 (.aload_n 0) 1) (zQ pc 67 (.getfield 37) 3)) (zH pc 73 (zQ pc 70 (.new 9) 3) (zQ pc 73 .dup 1)))) (zH pc 82 (zH pc 78 (zH pc 75 (zQ pc 74 (.aload_n 0) 1) (zQ pc 75 (.getfield 37) 3)) (zH pc 79 (zQ pc 78 (.iload_n 1) 1) (zQ pc 79 (.invokespecial 41) 3))) (zH pc 84 (zH pc 83 (zQ pc 82 .aastore 1) (zQ pc 83 (.aload_n 0) 1)) (zH pc 87 (zQ pc 84 (.getfield 17) 3) (zH pc 88 (zQ pc 87 (.iload_n 2) 1) (zQ pc 88 (.bipush 100) 2)))))) (zH pc 100 (zH pc 94 (zH pc 92 (zH pc 91 (zQ pc 90 .imul 1) (zQ pc 91 (.iload_n 3) 1)) (zH pc 93 (zQ pc 92 .iadd 1) (zQ pc 93 (.aload_n 0) 1))) (zH pc 98 (zH pc 97 (zQ pc 94 (.getfield 37) 3) (zQ pc 97 .iastore 1)) (zH pc 99 (zQ pc 98 (.aload_n 0) 1) (zQ pc 99 .dup 1)))) (zH pc 108 (zH pc 104 (zH pc 103 (zQ pc 100 (.getfield 37) 3) (zQ pc 103 (.iconst 1) 1)) (zH pc 105 (zQ pc 104 .iadd 1) (zQ pc 105 (.putfield 37) 3))) (zH pc 112 (zH pc 109 (zQ pc 108 (.aload_n 0) 1) (zQ pc 109 (.getfield 37) 3)) (zH pc 113 (zQ pc 112 (.iconst 1) 1) (zH pc 114 (zQ pc 113 .isub 1) (zQ pc 114 .ireturn 1)))))))) else none
def zc_1 (pc : Nat) : Option (Instr × Nat) := bif Nat.blt pc 18 then (zH pc 9 (zH pc 4 (zH pc 1 (zQ pc 0 (.iload_n 1) 1) (zQ pc 1 (.ifCond .lt 15) 3)) (zH pc 5 (zQ pc 4 (.iload_n 1) 1) (zH pc 6 (zQ pc 5 (.aload_n 0) 1) (zQ pc 6 (.getfield 37) 3)))) (zH pc 13 (zH pc 12 (zQ pc 9 (.if_icmp .ge 7) 3) (zQ pc 12 (.iconst 1) 1)) (zH pc 16 (zQ pc 13 (.goto 4) 3) (zH pc 17 (zQ pc 16 (.iconst 0) 1) (zQ pc 17 .ireturn 1))))) else none
def zc_2 (pc : Nat) : Option (Instr × Nat) := bif Nat.blt pc 30 then (zH pc 16 (zH pc 6 (zH pc 4 (zH pc 1 (zQ pc 0 (.iload_n 1) 1) (zQ pc 1 (.ifCond .lt 27) 3)) (zH pc 5 (zQ pc 4 (.iload_n 1) 1) (zQ pc 5 (.aload_n 0) 1))) (zH pc 12 (zH pc 9 (zQ pc 6 (.getfield 37) 3) (zQ pc 9 (.if_icmp .ge 19) 3)) (zH pc 13 (zQ pc 12 (.aload_n 0) 1) (zQ pc 13 (.getfield 11) 3)))) (zH pc 24 (zH pc 18 (zH pc 17 (zQ pc 16 (.iload_n 1) 1) (zQ pc 17 .aaload 1)) (zH pc 21 (zQ pc 18 (.getfield 44) 3) (zQ pc 21 (.ifCond .ne 7) 3))) (zH pc 28 (zH pc 25 (zQ pc 24 (.iconst 1) 1) (zQ pc 25 (.goto 4) 3)) (zH pc 29 (zQ pc 28 (.iconst 0) 1) (zQ pc 29 .ireturn 1))))) else none
def zc_3 (pc : Nat) : Option (Instr × Nat) := bif Nat.blt pc 31 then (zH pc 16 (zH pc 6 (zH pc 4 (zH pc 1 (zQ pc 0 (.iload_n 1) 1) (zQ pc 1 (.ifCond .lt 28) 3)) (zH pc 5 (zQ pc 4 (.iload_n 1) 1) (zQ pc 5 (.aload_n 0) 1))) (zH pc 12 (zH pc 9 (zQ pc 6 (.getfield 37) 3) (zQ pc 9 (.if_icmp .ge 20) 3)) (zH pc 13 (zQ pc 12 (.aload_n 0) 1) (zQ pc 13 (.getfield 11) 3)))) (zH pc 22 (zH pc 18 (zH pc 17 (zQ pc 16 (.iload_n 1) 1) (zQ pc 17 .aaload 1)) (zH pc 21 (zQ pc 18 (.getfield 44) 3) (zQ pc 21 (.iconst 1) 1))) (zH pc 26 (zH pc 25 (zQ pc 22 (.if_icmp .ne 7) 3) (zQ pc 25 (.iconst 1) 1)) (zH pc 29 (zQ pc 26 (.goto 4) 3) (zH pc 30 (zQ pc 29 (.iconst 0) 1) (zQ pc 30 .ireturn 1)))))) else none
def zc_4 (pc : Nat) : Option (Instr × Nat) := bif Nat.blt pc 36 then (zH pc 15 (zH pc 5 (zH pc 2 (zH pc 1 (zQ pc 0 (.iconst 0) 1) (zQ pc 1 (.istore_n 1) 1)) (zH pc 3 (zQ pc 2 (.iconst 0) 1) (zH pc 4 (zQ pc 3 (.istore_n 2) 1) (zQ pc 4 (.iload_n 2) 1)))) (zH pc 12 (zH pc 6 (zQ pc 5 (.aload_n 0) 1) (zH pc 9 (zQ pc 6 (.getfield 37) 3) (zQ pc 9 (.if_icmp .ge 25) 3))) (zH pc 13 (zQ pc 12 (.iload_n 1) 1) (zH pc 14 (zQ pc 13 (.aload_n 0) 1) (zQ pc 14 (.iload_n 2) 1))))) (zH pc 26 (zH pc 21 (zH pc 18 (zQ pc 15 (.invokevirtual 47) 3) (zQ pc 18 (.ifCond .eq 7) 3)) (zH pc 22 (zQ pc 21 (.iconst 1) 1) (zH pc 25 (zQ pc 22 (.goto 4) 3) (zQ pc 25 (.iconst 0) 1)))) (zH pc 31 (zH pc 27 (zQ pc 26 .iadd 1) (zH pc 28 (zQ pc 27 (.istore_n 1) 1) (zQ pc 28 (.iinc 2 1) 3))) (zH pc 34 (zQ pc 31 (.goto (-27)) 3) (zH pc 35 (zQ pc 34 (.iload_n 1) 1) (zQ pc 35 .ireturn 1)))))) else none
def zc_5 (pc : Nat) : Option (Instr × Nat) := bif Nat.blt pc 49 then (zH pc 26 (zH pc 14 (zH pc 5 (zH pc 1 (zQ pc 0 (.iload_n 1) 1) (zH pc 4 (zQ pc 1 (.ifCond .lt 23) 3) (zQ pc 4 (.iload_n 1) 1))) (zH pc 10 (zH pc 7 (zQ pc 5 (.bipush 96) 2) (zQ pc 7 (.if_icmp .ge 17) 3)) (zH pc 11 (zQ pc 10 (.iload_n 2) 1) (zQ pc 11 (.ifCond .lt 13) 3)))) (zH pc 20 (zH pc 15 (zQ pc 14 (.iload_n 2) 1) (zH pc 17 (zQ pc 15 (.bipush 100) 2) (zQ pc 17 (.if_icmp .ge 7) 3))) (zH pc 24 (zH pc 21 (zQ pc 20 (.iconst 1) 1) (zQ pc 21 (.goto 4) 3)) (zH pc 25 (zQ pc 24 (.iconst 0) 1) (zQ pc 25 (.istore_n 3) 1))))) (zH pc 38 (zH pc 31 (zH pc 27 (zQ pc 26 (.iload_n 3) 1) (zH pc 30 (zQ pc 27 (.ifCond .eq 20) 3) (zQ pc 30 (.aload_n 0) 1))) (zH pc 35 (zH pc 34 (zQ pc 31 (.getfield 17) 3) (zQ pc 34 (.iload_n 1) 1)) (zH pc 37 (zQ pc 35 (.bipush 8) 2) (zQ pc 37 .idiv 1)))) (zH pc 43 (zH pc 41 (zH pc 40 (zQ pc 38 (.bipush 100) 2) (zQ pc 40 .imul 1)) (zH pc 42 (zQ pc 41 (.iload_n 2) 1) (zQ pc 42 .iadd 1))) (zH pc 47 (zH pc 44 (zQ pc 43 .iaload 1) (zQ pc 44 (.goto 4) 3)) (zH pc 48 (zQ pc 47 (.iconst (-1)) 1) (zQ pc 48 .ireturn 1)))))) else none
def zc_6 (pc : Nat) : Option (Instr × Nat) := bif Nat.blt pc 65 then (zH pc 29 (zH pc 12 (zH pc 7 (zH pc 4 (zH pc 1 (zQ pc 0 (.aload_n 1) 1) (zQ pc 1 (.getfield 51) 3)) (zH pc 6 (zQ pc 4 (.bipush 8) 2) (zQ pc 6 .imul 1))) (zH pc 9 (zH pc 8 (zQ pc 7 (.istore_n 2) 1) (zQ pc 8 (.iload_n 2) 1)) (zH pc 10 (zQ pc 9 (.istore_n 3) 1) (zH pc 11 (zQ pc 10 (.iload_n 3) 1) (zQ pc 11 (.iload_n 2) 1))))) (zH pc 20 (zH pc 16 (zH pc 13 (zQ pc 12 (.aload_n 0) 1) (zQ pc 13 (.getfield 21) 3)) (zH pc 19 (zQ pc 16 (.getfield 54) 3) (zQ pc 19 (.aload_n 1) 1))) (zH pc 24 (zH pc 23 (zQ pc 20 (.getfield 51) 3) (zQ pc 23 .iaload 1)) (zH pc 25 (zQ pc 24 .iadd 1) (zH pc 28 (zQ pc 25 (.if_icmp .ge 37) 3) (zQ pc 28 (.aload_n 0) 1)))))) (zH pc 46 (zH pc 39 (zH pc 33 (zH pc 32 (zQ pc 29 (.getfield 21) 3) (zQ pc 32 (.iload_n 3) 1)) (zH pc 36 (zQ pc 33 (.invokevirtual 57) 3) (zQ pc 36 (.ifCond .eq 20) 3))) (zH pc 41 (zH pc 40 (zQ pc 39 (.aload_n 1) 1) (zQ pc 40 (.iconst 1) 1)) (zH pc 44 (zQ pc 41 (.putfield 44) 3) (zH pc 45 (zQ pc 44 (.aload_n 0) 1) (zQ pc 45 (.aload_n 1) 1))))) (zH pc 55 (zH pc 48 (zH pc 47 (zQ pc 46 (.iload_n 3) 1) (zQ pc 47 (.iconst 0) 1)) (zH pc 51 (zQ pc 48 (.invokevirtual 60) 3) (zH pc 52 (zQ pc 51 (.aload_n 1) 1) (zQ pc 52 (.getfield 64) 3)))) (zH pc 59 (zH pc 56 (zQ pc 55 .ireturn 1) (zQ pc 56 (.iinc 3 1) 3)) (zH pc 62 (zQ pc 59 (.goto (-49)) 3) (zH pc 64 (zQ pc 62 (.bipush 7) 2) (zQ pc 64 .ireturn 1))))))) else none
def zc_7 (pc : Nat) : Option (Instr × Nat) := bif Nat.blt pc 93 then (zH pc 46 (zH pc 22 (zH pc 12 (zH pc 7 (zH pc 1 (zQ pc 0 (.aload_n 1) 1) (zH pc 4 (zQ pc 1 (.getfield 64) 3) (zQ pc 4 (.ifCond .eq 16) 3))) (zH pc 8 (zQ pc 7 (.aload_n 1) 1) (zH pc 11 (zQ pc 8 (.getfield 64) 3) (zQ pc 11 (.iconst 1) 1)))) (zH pc 19 (zH pc 15 (zQ pc 12 (.if_icmp .eq 8) 3) (zH pc 16 (zQ pc 15 (.aload_n 1) 1) (zQ pc 16 (.getfield 64) 3))) (zH pc 20 (zQ pc 19 .ireturn 1) (zH pc 21 (zQ pc 20 (.aload_n 1) 1) (zQ pc 21 (.iload_n 2) 1))))) (zH pc 34 (zH pc 29 (zH pc 25 (zQ pc 22 (.invokevirtual 67) 3) (zH pc 26 (zQ pc 25 (.aload_n 1) 1) (zQ pc 26 (.invokevirtual 71) 3))) (zH pc 30 (zQ pc 29 (.istore_n 3) 1) (zH pc 31 (zQ pc 30 (.aload_n 0) 1) (zQ pc 31 (.getfield 21) 3)))) (zH pc 41 (zH pc 35 (zQ pc 34 (.iload_n 3) 1) (zH pc 38 (zQ pc 35 (.invokevirtual 75) 3) (zQ pc 38 (.ifCond .eq 23) 3))) (zH pc 42 (zQ pc 41 (.aload_n 1) 1) (zH pc 43 (zQ pc 42 (.aload_n 1) 1) (zQ pc 43 (.getfield 78) 3)))))) (zH pc 72 (zH pc 58 (zH pc 51 (zH pc 47 (zQ pc 46 (.iconst 3) 1) (zH pc 50 (zQ pc 47 (.if_icmp .ge 7) 3) (zQ pc 50 (.iconst 1) 1))) (zH pc 54 (zQ pc 51 (.goto 4) 3) (zH pc 55 (zQ pc 54 (.iconst 5) 1) (zQ pc 55 (.putfield 64) 3)))) (zH pc 65 (zH pc 61 (zQ pc 58 (.goto 30) 3) (zH pc 62 (zQ pc 61 (.aload_n 0) 1) (zQ pc 62 (.getfield 21) 3))) (zH pc 66 (zQ pc 65 (.iload_n 3) 1) (zH pc 69 (zQ pc 66 (.invokevirtual 81) 3) (zQ pc 69 (.ifCond .eq 12) 3))))) (zH pc 82 (zH pc 75 (zH pc 73 (zQ pc 72 (.aload_n 0) 1) (zH pc 74 (zQ pc 73 (.aload_n 1) 1) (zQ pc 74 (.iload_n 3) 1))) (zH pc 78 (zQ pc 75 (.invokevirtual 84) 3) (zH pc 81 (zQ pc 78 (.goto 10) 3) (zQ pc 81 (.aload_n 0) 1)))) (zH pc 85 (zH pc 83 (zQ pc 82 (.aload_n 1) 1) (zH pc 84 (zQ pc 83 (.iload_n 3) 1) (zQ pc 84 (.iload_n 2) 1))) (zH pc 89 (zH pc 88 (zQ pc 85 (.invokevirtual 88) 3) (zQ pc 88 (.aload_n 1) 1)) (zH pc 92 (zQ pc 89 (.getfield 64) 3) (zQ pc 92 .ireturn 1))))))) else none
def zc_8 (pc : Nat) : Option (Instr × Nat) := bif Nat.blt pc 70 then (zH pc 34 (zH pc 16 (zH pc 9 (zH pc 4 (zH pc 1 (zQ pc 0 (.aload_n 1) 1) (zQ pc 1 (.getfield 78) 3)) (zH pc 5 (zQ pc 4 (.iconst 2) 1) (zH pc 8 (zQ pc 5 (.if_icmp .ge 9) 3) (zQ pc 8 (.aload_n 1) 1)))) (zH pc 13 (zH pc 10 (zQ pc 9 (.iconst 1) 1) (zQ pc 10 (.putfield 64) 3)) (zH pc 14 (zQ pc 13 .return_ 1) (zH pc 15 (zQ pc 14 (.aload_n 0) 1) (zQ pc 15 (.iload_n 2) 1))))) (zH pc 25 (zH pc 20 (zH pc 17 (zQ pc 16 (.aload_n 1) 1) (zQ pc 17 (.getfield 91) 3)) (zH pc 23 (zQ pc 20 (.invokevirtual 94) 3) (zH pc 24 (zQ pc 23 (.istore_n 3) 1) (zQ pc 24 (.aload_n 0) 1)))) (zH pc 29 (zH pc 26 (zQ pc 25 (.iload_n 3) 1) (zQ pc 26 (.invokevirtual 98) 3)) (zH pc 32 (zQ pc 29 (.ifCond .eq 26) 3) (zH pc 33 (zQ pc 32 (.aload_n 1) 1) (zQ pc 33 (.iconst 5) 1)))))) (zH pc 52 (zH pc 43 (zH pc 38 (zH pc 37 (zQ pc 34 (.putfield 64) 3) (zQ pc 37 (.aload_n 1) 1)) (zH pc 39 (zQ pc 38 (.iload_n 3) 1) (zH pc 42 (zQ pc 39 (.putfield 101) 3) (zQ pc 42 (.aload_n 0) 1)))) (zH pc 47 (zH pc 46 (zQ pc 43 (.getfield 11) 3) (zQ pc 46 (.iload_n 3) 1)) (zH pc 48 (zQ pc 47 .aaload 1) (zH pc 49 (zQ pc 48 (.iconst 2) 1) (zQ pc 49 (.putfield 44) 3))))) (zH pc 61 (zH pc 56 (zH pc 55 (zQ pc 52 (.goto 17) 3) (zQ pc 55 (.aload_n 1) 1)) (zH pc 57 (zQ pc 56 (.iload_n 3) 1) (zH pc 58 (zQ pc 57 (.iconst (-1)) 1) (zQ pc 58 (.if_icmp .ne 7) 3)))) (zH pc 65 (zH pc 62 (zQ pc 61 (.iconst 4) 1) (zQ pc 62 (.goto 4) 3)) (zH pc 66 (zQ pc 65 (.iconst 3) 1) (zH pc 69 (zQ pc 66 (.putfield 64) 3) (zQ pc 69 .return_ 1))))))) else none
def zc_9 (pc : Nat) : Option (Instr × Nat) := bif Nat.blt pc 85 then (zH pc 41 (zH pc 18 (zH pc 8 (zH pc 3 (zH pc 1 (zQ pc 0 (.iconst 0) 1) (zQ pc 1 (.istore 4) 2)) (zH pc 4 (zQ pc 3 (.iconst 0) 1) (zH pc 6 (zQ pc 4 (.istore 5) 2) (zQ pc 6 (.iload 5) 2)))) (zH pc 13 (zH pc 9 (zQ pc 8 (.iconst 4) 1) (zH pc 12 (zQ pc 9 (.if_icmp .ge 61) 3) (zQ pc 12 (.aload_n 0) 1))) (zH pc 16 (zQ pc 13 (.getfield 21) 3) (zH pc 17 (zQ pc 16 (.iload_n 2) 1) (zQ pc 17 (.iload_n 3) 1))))) (zH pc 29 (zH pc 23 (zH pc 20 (zQ pc 18 (.iload 5) 2) (zQ pc 20 (.invokevirtual 104) 3)) (zH pc 25 (zQ pc 23 (.istore 6) 2) (zH pc 26 (zQ pc 25 (.aload_n 0) 1) (zQ pc 26 (.getfield 21) 3)))) (zH pc 37 (zH pc 31 (zQ pc 29 (.iload 6) 2) (zH pc 34 (zQ pc 31 (.invokevirtual 57) 3) (zQ pc 34 (.ifCond .eq 12) 3))) (zH pc 38 (zQ pc 37 (.aload_n 0) 1) (zH pc 39 (zQ pc 38 (.aload_n 1) 1) (zQ pc 39 (.iload 6) 2)))))) (zH pc 62 (zH pc 51 (zH pc 45 (zH pc 42 (zQ pc 41 (.iconst 1) 1) (zQ pc 42 (.invokevirtual 60) 3)) (zH pc 46 (zQ pc 45 .return_ 1) (zH pc 48 (zQ pc 46 (.iload 4) 2) (zQ pc 48 (.ifCond .ne 9) 3)))) (zH pc 57 (zH pc 53 (zQ pc 51 (.iload 6) 2) (zH pc 54 (zQ pc 53 (.iconst (-1)) 1) (zQ pc 54 (.if_icmp .eq 7) 3))) (zH pc 58 (zQ pc 57 (.iconst 1) 1) (zH pc 61 (zQ pc 58 (.goto 4) 3) (zQ pc 61 (.iconst 0) 1))))) (zH pc 73 (zH pc 67 (zH pc 64 (zQ pc 62 (.istore 4) 2) (zQ pc 64 (.iinc 5 1) 3)) (zH pc 70 (zQ pc 67 (.goto (-61)) 3) (zH pc 71 (zQ pc 70 (.aload_n 1) 1) (zQ pc 71 (.iload 4) 2)))) (zH pc 80 (zH pc 76 (zQ pc 73 (.ifCond .eq 7) 3) (zH pc 77 (zQ pc 76 (.iconst 3) 1) (zQ pc 77 (.goto 4) 3))) (zH pc 81 (zQ pc 80 (.iconst 4) 1) (zH pc 84 (zQ pc 81 (.putfield 64) 3) (zQ pc 84 .return_ 1))))))) else none
def zc_10 (pc : Nat) : Option (Instr × Nat) := bif Nat.blt pc 39 then (zH pc 18 (zH pc 9 (zH pc 4 (zH pc 1 (zQ pc 0 (.aload_n 0) 1) (zQ pc 1 (.getfield 21) 3)) (zH pc 7 (zQ pc 4 (.getfield 108) 3) (zH pc 8 (zQ pc 7 (.iload_n 2) 1) (zQ pc 8 (.aload_n 1) 1)))) (zH pc 13 (zH pc 12 (zQ pc 9 (.getfield 111) 3) (zQ pc 12 .iastore 1)) (zH pc 14 (zQ pc 13 (.aload_n 1) 1) (zH pc 15 (zQ pc 14 (.iload_n 2) 1) (zQ pc 15 (.invokevirtual 114) 3))))) (zH pc 27 (zH pc 20 (zH pc 19 (zQ pc 18 (.aload_n 1) 1) (zQ pc 19 (.aload_n 0) 1)) (zH pc 23 (zQ pc 20 (.getfield 21) 3) (zH pc 24 (zQ pc 23 (.iload_n 2) 1) (zQ pc 24 (.invokevirtual 117) 3)))) (zH pc 34 (zH pc 30 (zQ pc 27 (.ifCond .eq 7) 3) (zH pc 31 (zQ pc 30 (.iconst 2) 1) (zQ pc 31 (.goto 4) 3))) (zH pc 35 (zQ pc 34 (.iload_n 3) 1) (zH pc 38 (zQ pc 35 (.putfield 64) 3) (zQ pc 38 .return_ 1)))))) else none
def zc_11 (pc : Nat) : Option (Instr × Nat) := bif Nat.blt pc 46 then (zH pc 23 (zH pc 10 (zH pc 5 (zH pc 1 (zQ pc 0 (.aload_n 0) 1) (zH pc 2 (zQ pc 1 (.aload_n 1) 1) (zQ pc 2 (.invokevirtual 120) 3))) (zH pc 7 (zQ pc 5 (.istore 4) 2) (zH pc 8 (zQ pc 7 (.iconst 0) 1) (zQ pc 8 (.istore 5) 2)))) (zH pc 16 (zH pc 12 (zQ pc 10 (.iload 5) 2) (zH pc 13 (zQ pc 12 (.iload_n 3) 1) (zQ pc 13 (.if_icmp .ge 30) 3))) (zH pc 18 (zQ pc 16 (.iload 4) 2) (zH pc 20 (zQ pc 18 (.bipush 7) 2) (zQ pc 20 (.if_icmp .eq 23) 3))))) (zH pc 32 (zH pc 26 (zH pc 24 (zQ pc 23 (.aload_n 0) 1) (zH pc 25 (zQ pc 24 (.aload_n 1) 1) (zQ pc 25 (.iload_n 2) 1))) (zH pc 27 (zQ pc 26 (.iload_n 3) 1) (zH pc 29 (zQ pc 27 (.iload 5) 2) (zQ pc 29 (.invokestatic 124) 3)))) (zH pc 40 (zH pc 35 (zQ pc 32 (.invokevirtual 127) 3) (zH pc 37 (zQ pc 35 (.istore 4) 2) (zQ pc 37 (.iinc 5 1) 3))) (zH pc 43 (zQ pc 40 (.goto (-30)) 3) (zH pc 45 (zQ pc 43 (.iload 4) 2) (zQ pc 45 .ireturn 1)))))) else none
def zc_12 (pc : Nat) : Option (Instr × Nat) := bif Nat.blt pc 44 then (zH pc 20 (zH pc 10 (zH pc 5 (zH pc 1 (zQ pc 0 (.aload_n 1) 1) (zH pc 4 (zQ pc 1 (.getfield 44) 3) (zQ pc 4 (.iconst 1) 1))) (zH pc 8 (zQ pc 5 (.if_icmp .eq 4) 3) (zH pc 9 (zQ pc 8 .return_ 1) (zQ pc 9 (.aload_n 0) 1)))) (zH pc 15 (zH pc 11 (zQ pc 10 (.aload_n 1) 1) (zH pc 12 (zQ pc 11 (.iconst (-1)) 1) (zQ pc 12 (.invokevirtual 131) 3))) (zH pc 16 (zQ pc 15 (.aload_n 0) 1) (zH pc 17 (zQ pc 16 (.aload_n 1) 1) (zQ pc 17 (.getfield 101) 3))))) (zH pc 34 (zH pc 27 (zH pc 23 (zQ pc 20 (.invokevirtual 134) 3) (zH pc 26 (zQ pc 23 (.ifCond .eq 16) 3) (zQ pc 26 (.aload_n 0) 1))) (zH pc 30 (zQ pc 27 (.getfield 11) 3) (zH pc 31 (zQ pc 30 (.aload_n 1) 1) (zQ pc 31 (.getfield 101) 3)))) (zH pc 39 (zH pc 35 (zQ pc 34 .aaload 1) (zH pc 36 (zQ pc 35 (.iconst 0) 1) (zQ pc 36 (.putfield 44) 3))) (zH pc 40 (zQ pc 39 (.aload_n 1) 1) (zH pc 43 (zQ pc 40 (.invokevirtual 137) 3) (zQ pc 43 .return_ 1)))))) else none
def zc_13 (pc : Nat) : Option (Instr × Nat) := bif Nat.blt pc 32 then (zH pc 17 (zH pc 4 (zH pc 2 (zH pc 1 (zQ pc 0 (.iconst 0) 1) (zQ pc 1 (.istore_n 3) 1)) (zH pc 3 (zQ pc 2 (.iload_n 3) 1) (zQ pc 3 (.aload_n 1) 1))) (zH pc 10 (zH pc 7 (zQ pc 4 (.getfield 140) 3) (zQ pc 7 (.if_icmp .ge 24) 3)) (zH pc 11 (zQ pc 10 (.aload_n 0) 1) (zH pc 14 (zQ pc 11 (.getfield 21) 3) (zQ pc 14 (.getfield 108) 3))))) (zH pc 23 (zH pc 21 (zH pc 18 (zQ pc 17 (.aload_n 1) 1) (zQ pc 18 (.getfield 143) 3)) (zH pc 22 (zQ pc 21 (.iload_n 3) 1) (zQ pc 22 .iaload 1))) (zH pc 25 (zH pc 24 (zQ pc 23 (.iload_n 2) 1) (zQ pc 24 .iastore 1)) (zH pc 28 (zQ pc 25 (.iinc 3 1) 3) (zH pc 31 (zQ pc 28 (.goto (-26)) 3) (zQ pc 31 .return_ 1)))))) else none
def zc_14 (pc : Nat) : Option (Instr × Nat) := bif Nat.blt pc 63 then (zH pc 32 (zH pc 19 (zH pc 10 (zH pc 4 (zH pc 1 (zQ pc 0 (.aload_n 0) 1) (zQ pc 1 (.getfield 33) 3)) (zH pc 7 (zQ pc 4 (.sipush 200) 3) (zQ pc 7 (.if_icmp .ne 4) 3))) (zH pc 12 (zH pc 11 (zQ pc 10 .return_ 1) (zQ pc 11 (.aload_n 0) 1)) (zH pc 15 (zQ pc 12 (.getfield 11) 3) (zH pc 16 (zQ pc 15 (.aload_n 0) 1) (zQ pc 16 (.getfield 33) 3))))) (zH pc 25 (zH pc 21 (zH pc 20 (zQ pc 19 (.iload_n 1) 1) (zQ pc 20 .iastore 1)) (zH pc 22 (zQ pc 21 (.aload_n 0) 1) (zQ pc 22 (.getfield 15) 3))) (zH pc 29 (zH pc 26 (zQ pc 25 (.aload_n 0) 1) (zQ pc 26 (.getfield 33) 3)) (zH pc 30 (zQ pc 29 (.iload_n 2) 1) (zH pc 31 (zQ pc 30 .iastore 1) (zQ pc 31 (.aload_n 0) 1)))))) (zH pc 49 (zH pc 40 (zH pc 36 (zH pc 35 (zQ pc 32 (.getfield 18) 3) (zQ pc 35 (.aload_n 0) 1)) (zH pc 39 (zQ pc 36 (.getfield 33) 3) (zQ pc 39 (.iload_n 3) 1))) (zH pc 42 (zH pc 41 (zQ pc 40 .iastore 1) (zQ pc 41 (.aload_n 0) 1)) (zH pc 45 (zQ pc 42 (.getfield 21) 3) (zH pc 46 (zQ pc 45 (.aload_n 0) 1) (zQ pc 46 (.getfield 33) 3))))) (zH pc 54 (zH pc 52 (zH pc 51 (zQ pc 49 (.iload 4) 2) (zQ pc 51 .iastore 1)) (zH pc 53 (zQ pc 52 (.aload_n 0) 1) (zQ pc 53 .dup 1))) (zH pc 58 (zH pc 57 (zQ pc 54 (.getfield 33) 3) (zQ pc 57 (.iconst 1) 1)) (zH pc 59 (zQ pc 58 .iadd 1) (zH pc 62 (zQ pc 59 (.putfield 33) 3) (zQ pc 62 .return_ 1))))))) else none
def zc_15 (pc : Nat) : Option (Instr × Nat) := bif Nat.blt pc 77 then (zH pc 43 (zH pc 20 (zH pc 9 (zH pc 4 (zH pc 1 (zQ pc 0 (.iload_n 1) 1) (zQ pc 1 (.ifCond .lt 32) 3)) (zH pc 5 (zQ pc 4 (.iload_n 1) 1) (zH pc 6 (zQ pc 5 (.aload_n 0) 1) (zQ pc 6 (.getfield 33) 3)))) (zH pc 13 (zH pc 12 (zQ pc 9 (.if_icmp .ge 24) 3) (zQ pc 12 (.iload_n 2) 1)) (zH pc 16 (zQ pc 13 (.ifCond .lt 20) 3) (zH pc 17 (zQ pc 16 (.iload_n 2) 1) (zQ pc 17 (.sipush 9999) 3))))) (zH pc 33 (zH pc 24 (zH pc 23 (zQ pc 20 (.if_icmp .gt 13) 3) (zQ pc 23 (.aload_n 0) 1)) (zH pc 27 (zQ pc 24 (.getfield 37) 3) (zH pc 30 (zQ pc 27 (.sipush 200) 3) (zQ pc 30 (.if_icmp .ne 5) 3)))) (zH pc 36 (zH pc 34 (zQ pc 33 (.iconst 0) 1) (zH pc 35 (zQ pc 34 .ireturn 1) (zQ pc 35 (.aload_n 0) 1))) (zH pc 39 (zQ pc 36 (.getfield 24) 3) (zH pc 40 (zQ pc 39 (.aload_n 0) 1) (zQ pc 40 (.getfield 37) 3)))))) (zH pc 60 (zH pc 50 (zH pc 45 (zH pc 44 (zQ pc 43 (.iload_n 1) 1) (zQ pc 44 .iastore 1)) (zH pc 46 (zQ pc 45 (.aload_n 0) 1) (zH pc 49 (zQ pc 46 (.getfield 27) 3) (zQ pc 49 (.aload_n 0) 1)))) (zH pc 55 (zH pc 53 (zQ pc 50 (.getfield 37) 3) (zH pc 54 (zQ pc 53 (.iload_n 2) 1) (zQ pc 54 .iastore 1))) (zH pc 56 (zQ pc 55 (.aload_n 0) 1) (zH pc 59 (zQ pc 56 (.getfield 30) 3) (zQ pc 59 (.aload_n 0) 1))))) (zH pc 67 (zH pc 64 (zH pc 63 (zQ pc 60 (.getfield 37) 3) (zQ pc 63 (.iload_n 3) 1)) (zH pc 65 (zQ pc 64 .iastore 1) (zH pc 66 (zQ pc 65 (.aload_n 0) 1) (zQ pc 66 .dup 1)))) (zH pc 72 (zH pc 70 (zQ pc 67 (.getfield 37) 3) (zH pc 71 (zQ pc 70 (.iconst 1) 1) (zQ pc 71 .iadd 1))) (zH pc 75 (zQ pc 72 (.putfield 37) 3) (zH pc 76 (zQ pc 75 (.iconst 1) 1) (zQ pc 76 .ireturn 1))))))) else none
def zc_16 (pc : Nat) : Option (Instr × Nat) := bif Nat.blt pc 82 then (zH pc 38 (zH pc 19 (zH pc 8 (zH pc 3 (zH pc 1 (zQ pc 0 (.iconst 0) 1) (zQ pc 1 (.istore 5) 2)) (zH pc 4 (zQ pc 3 (.iconst 0) 1) (zH pc 6 (zQ pc 4 (.istore 6) 2) (zQ pc 6 (.iload 6) 2)))) (zH pc 12 (zH pc 9 (zQ pc 8 (.aload_n 0) 1) (zQ pc 9 (.getfield 33) 3)) (zH pc 15 (zQ pc 12 (.if_icmp .ge 67) 3) (zH pc 16 (zQ pc 15 (.aload_n 0) 1) (zQ pc 16 (.getfield 11) 3))))) (zH pc 27 (zH pc 22 (zH pc 21 (zQ pc 19 (.iload 6) 2) (zQ pc 21 .iaload 1)) (zH pc 23 (zQ pc 22 (.iload_n 1) 1) (zH pc 26 (zQ pc 23 (.if_icmp .ne 50) 3) (zQ pc 26 (.aload_n 0) 1)))) (zH pc 33 (zH pc 30 (zQ pc 27 (.getfield 18) 3) (zH pc 32 (zQ pc 30 (.iload 6) 2) (zQ pc 32 .iaload 1))) (zH pc 34 (zQ pc 33 (.iload_n 2) 1) (zH pc 37 (zQ pc 34 (.if_icmp .lt 39) 3) (zQ pc 37 (.aload_n 0) 1)))))) (zH pc 60 (zH pc 48 (zH pc 43 (zH pc 41 (zQ pc 38 (.getfield 18) 3) (zQ pc 41 (.iload 6) 2)) (zH pc 44 (zQ pc 43 .iaload 1) (zH pc 45 (zQ pc 44 (.iload_n 3) 1) (zQ pc 45 (.if_icmp .gt 28) 3)))) (zH pc 54 (zH pc 49 (zQ pc 48 (.aload_n 0) 1) (zH pc 52 (zQ pc 49 (.getfield 21) 3) (zQ pc 52 (.iload 6) 2))) (zH pc 55 (zQ pc 54 .iaload 1) (zH pc 57 (zQ pc 55 (.iload 4) 2) (zQ pc 57 (.if_icmp .gt 16) 3))))) (zH pc 70 (zH pc 63 (zH pc 62 (zQ pc 60 (.iload 5) 2) (zQ pc 62 (.aload_n 0) 1)) (zH pc 65 (zQ pc 63 (.iload 6) 2) (zH pc 67 (zQ pc 65 (.iload 4) 2) (zQ pc 67 (.invokevirtual 40) 3)))) (zH pc 76 (zH pc 71 (zQ pc 70 .iadd 1) (zH pc 73 (zQ pc 71 (.istore 5) 2) (zQ pc 73 (.iinc 6 1) 3))) (zH pc 79 (zQ pc 76 (.goto (-70)) 3) (zH pc 81 (zQ pc 79 (.iload 5) 2) (zQ pc 81 .ireturn 1))))))) else none
def zc_17 (pc : Nat) : Option (Instr × Nat) := bif Nat.blt pc 51 then (zH pc 25 (zH pc 11 (zH pc 5 (zH pc 1 (zQ pc 0 (.aload_n 0) 1) (zH pc 4 (zQ pc 1 (.getfield 37) 3) (zQ pc 4 (.iconst 1) 1))) (zH pc 7 (zH pc 6 (zQ pc 5 .isub 1) (zQ pc 6 (.istore_n 3) 1)) (zH pc 8 (zQ pc 7 (.iload_n 3) 1) (zQ pc 8 (.ifCond .lt 36) 3)))) (zH pc 17 (zH pc 15 (zH pc 12 (zQ pc 11 (.aload_n 0) 1) (zQ pc 12 (.getfield 24) 3)) (zH pc 16 (zQ pc 15 (.iload_n 3) 1) (zQ pc 16 .iaload 1))) (zH pc 21 (zH pc 18 (zQ pc 17 (.iload_n 1) 1) (zQ pc 18 (.if_icmp .ne 20) 3)) (zH pc 22 (zQ pc 21 (.aload_n 0) 1) (zQ pc 22 (.getfield 30) 3))))) (zH pc 37 (zH pc 31 (zH pc 27 (zH pc 26 (zQ pc 25 (.iload_n 3) 1) (zQ pc 26 .iaload 1)) (zH pc 28 (zQ pc 27 (.iload_n 2) 1) (zQ pc 28 (.if_icmp .gt 10) 3))) (zH pc 35 (zH pc 32 (zQ pc 31 (.aload_n 0) 1) (zQ pc 32 (.getfield 27) 3)) (zH pc 36 (zQ pc 35 (.iload_n 3) 1) (zQ pc 36 .iaload 1)))) (zH pc 45 (zH pc 41 (zH pc 38 (zQ pc 37 .ireturn 1) (zQ pc 38 (.iinc 3 (-1)) 3)) (zH pc 44 (zQ pc 41 (.goto (-34)) 3) (zQ pc 44 (.aload_n 0) 1))) (zH pc 49 (zH pc 48 (zQ pc 45 (.getfield 15) 3) (zQ pc 48 (.iload_n 1) 1)) (zH pc 50 (zQ pc 49 .iaload 1) (zQ pc 50 .ireturn 1)))))) else none
def zc_18 (pc : Nat) : Option (Instr × Nat) := bif Nat.blt pc 75 then (zH pc 52 (zH pc 14 (zH pc 6 (zH pc 4 (zH pc 1 (zQ pc 0 (.iload_n 1) 1) (zQ pc 1 (.ifCond .lt 11) 3)) (zH pc 5 (zQ pc 4 (.iload_n 1) 1) (zQ pc 5 (.aload_n 0) 1))) (zH pc 12 (zH pc 9 (zQ pc 6 (.getfield 33) 3) (zQ pc 9 (.if_icmp .lt 5) 3)) (zH pc 13 (zQ pc 12 (.iconst (-1)) 1) (zQ pc 13 .ireturn 1)))) (zH pc 48 (zH pc 44 (zH pc 15 (zQ pc 14 (.iload_n 2) 1) (zQ pc 15 (.tableswitch 58 0 3 #[29, 36, 44, 51]) 29)) (zH pc 45 (zQ pc 44 (.aload_n 0) 1) (zQ pc 45 (.getfield 11) 3))) (zH pc 50 (zH pc 49 (zQ pc 48 (.iload_n 1) 1) (zQ pc 49 .iaload 1)) (zH pc 51 (zQ pc 50 .ireturn 1) (zQ pc 51 (.aload_n 0) 1))))) (zH pc 65 (zH pc 59 (zH pc 55 (zH pc 53 (zQ pc 52 (.iload_n 1) 1) (zQ pc 53 (.bipush 11) 2)) (zH pc 58 (zQ pc 55 (.invokevirtual 40) 3) (zQ pc 58 .ireturn 1))) (zH pc 63 (zH pc 60 (zQ pc 59 (.aload_n 0) 1) (zQ pc 60 (.getfield 18) 3)) (zH pc 64 (zQ pc 63 (.iload_n 1) 1) (zQ pc 64 .iaload 1)))) (zH pc 71 (zH pc 67 (zH pc 66 (zQ pc 65 .ireturn 1) (zQ pc 66 (.aload_n 0) 1)) (zH pc 70 (zQ pc 67 (.getfield 21) 3) (zQ pc 70 (.iload_n 1) 1))) (zH pc 73 (zH pc 72 (zQ pc 71 .iaload 1) (zQ pc 72 .ireturn 1)) (zH pc 74 (zQ pc 73 (.iconst (-1)) 1) (zQ pc 74 .ireturn 1)))))) else none
def zc_19 (pc : Nat) : Option (Instr × Nat) := bif Nat.blt pc 23 then (zH pc 12 (zH pc 7 (zH pc 1 (zQ pc 0 (.aload_n 0) 1) (zH pc 4 (zQ pc 1 (.getfield 34) 3) (zQ pc 4 (.ifCond .le 17) 3))) (zH pc 8 (zQ pc 7 (.aload_n 0) 1) (zH pc 11 (zQ pc 8 (.getfield 15) 3) (zQ pc 11 (.aload_n 0) 1)))) (zH pc 17 (zH pc 15 (zQ pc 12 (.getfield 34) 3) (zH pc 16 (zQ pc 15 (.iconst 1) 1) (zQ pc 16 .isub 1))) (zH pc 21 (zH pc 18 (zQ pc 17 .iaload 1) (zQ pc 18 (.goto 4) 3)) (zH pc 22 (zQ pc 21 (.iconst (-1)) 1) (zQ pc 22 .ireturn 1))))) else none
def zc_20 (pc : Nat) : Option (Instr × Nat) := bif Nat.blt pc 63 then (zH pc 47 (zH pc 40 (zH pc 36 (zH pc 1 (zQ pc 0 (.iload_n 1) 1) (zQ pc 1 (.tableswitch 60 1 5 #[35, 40, 45, 50, 55]) 35)) (zH pc 37 (zQ pc 36 (.aload_n 0) 1) (zQ pc 37 (.getfield 37) 3))) (zH pc 42 (zH pc 41 (zQ pc 40 .ireturn 1) (zQ pc 41 (.aload_n 0) 1)) (zH pc 45 (zQ pc 42 (.invokevirtual 40) 3) (zH pc 46 (zQ pc 45 .ireturn 1) (zQ pc 46 (.aload_n 0) 1))))) (zH pc 56 (zH pc 51 (zH pc 50 (zQ pc 47 (.getfield 22) 3) (zQ pc 50 .ireturn 1)) (zH pc 52 (zQ pc 51 (.aload_n 0) 1) (zH pc 55 (zQ pc 52 (.getfield 44) 3) (zQ pc 55 .ireturn 1)))) (zH pc 60 (zH pc 57 (zQ pc 56 (.aload_n 0) 1) (zQ pc 57 (.getfield 25) 3)) (zH pc 61 (zQ pc 60 .ireturn 1) (zH pc 62 (zQ pc 61 (.iconst (-1)) 1) (zQ pc 62 .ireturn 1)))))) else none
def zc_21 (pc : Nat) : Option (Instr × Nat) := bif Nat.blt pc 52 then (zH pc 25 (zH pc 13 (zH pc 5 (zH pc 1 (zQ pc 0 (.aload_n 0) 1) (zH pc 4 (zQ pc 1 (.getfield 44) 3) (zQ pc 4 (.iconst 5) 1))) (zH pc 9 (zH pc 8 (zQ pc 5 (.if_icmp .ge 13) 3) (zQ pc 8 (.aload_n 0) 1)) (zH pc 12 (zQ pc 9 (.getfield 19) 3) (zQ pc 12 (.aload_n 0) 1)))) (zH pc 19 (zH pc 17 (zH pc 16 (zQ pc 13 (.getfield 44) 3) (zQ pc 16 (.iload_n 1) 1)) (zH pc 18 (zQ pc 17 .iastore 1) (zQ pc 18 (.aload_n 0) 1))) (zH pc 23 (zH pc 20 (zQ pc 19 .dup 1) (zQ pc 20 (.getfield 44) 3)) (zH pc 24 (zQ pc 23 (.iconst 1) 1) (zQ pc 24 .iadd 1))))) (zH pc 39 (zH pc 33 (zH pc 29 (zH pc 28 (zQ pc 25 (.putfield 44) 3) (zQ pc 28 (.aload_n 0) 1)) (zH pc 30 (zQ pc 29 .dup 1) (zQ pc 30 (.getfield 47) 3))) (zH pc 35 (zH pc 34 (zQ pc 33 (.iconst 1) 1) (zQ pc 34 .iadd 1)) (zH pc 38 (zQ pc 35 (.putfield 47) 3) (zQ pc 38 (.aload_n 0) 1)))) (zH pc 46 (zH pc 43 (zH pc 40 (zQ pc 39 (.aload_n 0) 1) (zQ pc 40 (.getfield 50) 3)) (zH pc 45 (zQ pc 43 (.bipush 10) 2) (zQ pc 45 .imul 1))) (zH pc 48 (zH pc 47 (zQ pc 46 (.iload_n 1) 1) (zQ pc 47 .iadd 1)) (zH pc 51 (zQ pc 48 (.putfield 50) 3) (zQ pc 51 .return_ 1)))))) else none
def zc_22 (pc : Nat) : Option (Instr × Nat) := bif Nat.blt pc 43 then (zH pc 22 (zH pc 12 (zH pc 5 (zH pc 1 (zQ pc 0 (.aload_n 0) 1) (zH pc 4 (zQ pc 1 (.getfield 34) 3) (zQ pc 4 (.aload_n 0) 1))) (zH pc 8 (zQ pc 5 (.getfield 15) 3) (zH pc 9 (zQ pc 8 .arraylength 1) (zQ pc 9 (.if_icmp .ge 23) 3)))) (zH pc 17 (zH pc 13 (zQ pc 12 (.aload_n 0) 1) (zH pc 16 (zQ pc 13 (.getfield 15) 3) (zQ pc 16 (.aload_n 0) 1))) (zH pc 20 (zQ pc 17 (.getfield 34) 3) (zH pc 21 (zQ pc 20 (.iload_n 1) 1) (zQ pc 21 .iastore 1))))) (zH pc 32 (zH pc 27 (zH pc 23 (zQ pc 22 (.aload_n 0) 1) (zH pc 24 (zQ pc 23 .dup 1) (zQ pc 24 (.getfield 34) 3))) (zH pc 28 (zQ pc 27 (.iconst 1) 1) (zH pc 29 (zQ pc 28 .iadd 1) (zQ pc 29 (.putfield 34) 3)))) (zH pc 37 (zH pc 33 (zQ pc 32 (.aload_n 0) 1) (zH pc 34 (zQ pc 33 (.iconst 0) 1) (zQ pc 34 (.putfield 47) 3))) (zH pc 39 (zH pc 38 (zQ pc 37 (.aload_n 0) 1) (zQ pc 38 (.iconst 0) 1)) (zH pc 42 (zQ pc 39 (.putfield 50) 3) (zQ pc 42 .return_ 1)))))) else none
def zc_23 (pc : Nat) : Option (Instr × Nat) := bif Nat.blt pc 26 then (zH pc 12 (zH pc 6 (zH pc 2 (zH pc 1 (zQ pc 0 (.aload_n 0) 1) (zQ pc 1 (.iconst 0) 1)) (zH pc 5 (zQ pc 2 (.putfield 9) 3) (zQ pc 5 (.aload_n 0) 1))) (zH pc 10 (zH pc 7 (zQ pc 6 (.iconst 0) 1) (zQ pc 7 (.putfield 34) 3)) (zH pc 11 (zQ pc 10 (.aload_n 0) 1) (zQ pc 11 (.iconst 0) 1)))) (zH pc 20 (zH pc 16 (zH pc 15 (zQ pc 12 (.putfield 44) 3) (zQ pc 15 (.aload_n 0) 1)) (zH pc 17 (zQ pc 16 (.iconst (-1)) 1) (zQ pc 17 (.putfield 22) 3))) (zH pc 22 (zH pc 21 (zQ pc 20 (.aload_n 0) 1) (zQ pc 21 (.iconst (-1)) 1)) (zH pc 25 (zQ pc 22 (.putfield 25) 3) (zQ pc 25 .return_ 1))))) else none
def zc_24 (pc : Nat) : Option (Instr × Nat) := bif Nat.blt pc 139 then (zH pc 67 (zH pc 33 (zH pc 17 (zH pc 6 (zH pc 4 (zH pc 1 (zQ pc 0 (.aload_n 0) 1) (zQ pc 1 (.getfield 18) 3)) (zH pc 5 (zQ pc 4 (.iload_n 1) 1) (zQ pc 5 (.iload_n 2) 1))) (zH pc 12 (zH pc 9 (zQ pc 6 (.invokevirtual 22) 3) (zQ pc 9 (.ifCond .eq 21) 3)) (zH pc 13 (zQ pc 12 (.iload_n 3) 1) (zH pc 14 (zQ pc 13 (.iconst 1) 1) (zQ pc 14 (.if_icmp .lt 16) 3))))) (zH pc 26 (zH pc 19 (zH pc 18 (zQ pc 17 (.iload_n 3) 1) (zQ pc 18 (.aload_n 0) 1)) (zH pc 22 (zQ pc 19 (.getfield 18) 3) (zH pc 25 (zQ pc 22 (.getfield 28) 3) (zQ pc 25 (.iload_n 1) 1)))) (zH pc 30 (zH pc 27 (zQ pc 26 .iaload 1) (zQ pc 27 (.if_icmp .le 5) 3)) (zH pc 31 (zQ pc 30 (.iconst 0) 1) (zH pc 32 (zQ pc 31 .ireturn 1) (zQ pc 32 (.aload_n 0) 1)))))) (zH pc 52 (zH pc 42 (zH pc 37 (zH pc 34 (zQ pc 33 (.iconst 0) 1) (zQ pc 34 (.putfield 31) 3)) (zH pc 38 (zQ pc 37 (.iconst 0) 1) (zH pc 40 (zQ pc 38 (.istore 4) 2) (zQ pc 40 (.iload 4) 2)))) (zH pc 46 (zH pc 43 (zQ pc 42 (.iconst 2) 1) (zQ pc 43 (.if_icmp .ge 50) 3)) (zH pc 47 (zQ pc 46 (.aload_n 0) 1) (zH pc 50 (zQ pc 47 (.getfield 9) 3) (zQ pc 50 (.iload 4) 2))))) (zH pc 60 (zH pc 54 (zH pc 53 (zQ pc 52 (.iconst 0) 1) (zQ pc 53 .iastore 1)) (zH pc 55 (zQ pc 54 (.aload_n 0) 1) (zH pc 58 (zQ pc 55 (.getfield 15) 3) (zQ pc 58 (.iload 4) 2)))) (zH pc 62 (zH pc 61 (zQ pc 60 (.iconst 0) 1) (zQ pc 61 .iastore 1)) (zH pc 63 (zQ pc 62 (.iconst 0) 1) (zH pc 65 (zQ pc 63 (.istore 5) 2) (zQ pc 65 (.iload 5) 2))))))) (zH pc 106 (zH pc 84 (zH pc 73 (zH pc 71 (zH pc 68 (zQ pc 67 (.iconst 4) 1) (zQ pc 68 (.if_icmp .ge 19) 3)) (zH pc 72 (zQ pc 71 (.aload_n 0) 1) (zQ pc 72 (.iload_n 1) 1))) (zH pc 76 (zH pc 75 (zQ pc 73 (.iload 4) 2) (zQ pc 75 (.iload_n 2) 1)) (zH pc 78 (zQ pc 76 (.iload 5) 2) (zH pc 81 (zQ pc 78 (.invokevirtual 35) 3) (zQ pc 81 (.iinc 5 1) 3))))) (zH pc 96 (zH pc 90 (zH pc 87 (zQ pc 84 (.goto (-19)) 3) (zQ pc 87 (.iinc 4 1) 3)) (zH pc 93 (zQ pc 90 (.goto (-50)) 3) (zH pc 94 (zQ pc 93 (.iconst 0) 1) (zQ pc 94 (.istore 4) 2)))) (zH pc 99 (zH pc 98 (zQ pc 96 (.iload 4) 2) (zQ pc 98 (.aload_n 0) 1)) (zH pc 102 (zQ pc 99 (.getfield 18) 3) (zH pc 105 (zQ pc 102 (.getfield 28) 3) (zQ pc 105 (.iload_n 1) 1)))))) (zH pc 125 (zH pc 116 (zH pc 110 (zH pc 107 (zQ pc 106 .iaload 1) (zQ pc 107 (.if_icmp .ge 30) 3)) (zH pc 111 (zQ pc 110 (.aload_n 0) 1) (zH pc 114 (zQ pc 111 (.getfield 15) 3) (zQ pc 114 (.iload 4) 2)))) (zH pc 120 (zH pc 117 (zQ pc 116 (.aload_n 0) 1) (zQ pc 117 (.getfield 18) 3)) (zH pc 123 (zQ pc 120 (.getfield 39) 3) (zH pc 124 (zQ pc 123 (.iload_n 1) 1) (zQ pc 124 .iaload 1))))) (zH pc 130 (zH pc 127 (zH pc 126 (zQ pc 125 .irem 1) (zQ pc 126 .dup2 1)) (zH pc 128 (zQ pc 127 .iaload 1) (zH pc 129 (zQ pc 128 (.iconst 1) 1) (zQ pc 129 .iadd 1)))) (zH pc 134 (zH pc 131 (zQ pc 130 .iastore 1) (zQ pc 131 (.iinc 4 1) 3)) (zH pc 137 (zQ pc 134 (.goto (-38)) 3) (zH pc 138 (zQ pc 137 (.iconst 1) 1) (zQ pc 138 .ireturn 1)))))))) else none
def zc_25 (pc : Nat) : Option (Instr × Nat) := bif Nat.blt pc 90 then (zH pc 48 (zH pc 24 (zH pc 9 (zH pc 5 (zH pc 1 (zQ pc 0 (.aload_n 0) 1) (zH pc 4 (zQ pc 1 (.getfield 18) 3) (zQ pc 4 (.iload_n 1) 1))) (zH pc 6 (zQ pc 5 (.iload_n 2) 1) (zH pc 7 (zQ pc 6 (.iload_n 3) 1) (zQ pc 7 (.iload 4) 2)))) (zH pc 16 (zH pc 12 (zQ pc 9 (.invokevirtual 42) 3) (zH pc 14 (zQ pc 12 (.istore 5) 2) (zQ pc 14 (.iload 5) 2))) (zH pc 20 (zH pc 17 (zQ pc 16 (.iconst (-1)) 1) (zQ pc 17 (.if_icmp .eq 29) 3)) (zH pc 21 (zQ pc 20 (.aload_n 0) 1) (zQ pc 21 (.getfield 18) 3))))) (zH pc 35 (zH pc 32 (zH pc 26 (zQ pc 24 (.iload 5) 2) (zH pc 29 (zQ pc 26 (.invokevirtual 46) 3) (zQ pc 29 (.ifCond .ne 17) 3))) (zH pc 33 (zQ pc 32 (.aload_n 0) 1) (zH pc 34 (zQ pc 33 (.iload_n 1) 1) (zQ pc 34 (.iload_n 2) 1)))) (zH pc 40 (zH pc 36 (zQ pc 35 (.iload_n 3) 1) (zH pc 38 (zQ pc 36 (.iload 4) 2) (zQ pc 38 (.iload 5) 2))) (zH pc 46 (zH pc 43 (zQ pc 40 (.invokevirtual 50) 3) (zQ pc 43 (.ifCond .eq 4) 3)) (zH pc 47 (zQ pc 46 .return_ 1) (zQ pc 47 (.aload_n 0) 1)))))) (zH pc 68 (zH pc 54 (zH pc 51 (zH pc 49 (zQ pc 48 (.iload_n 1) 1) (zH pc 50 (zQ pc 49 (.iconst 1) 1) (zQ pc 50 (.iload_n 2) 1))) (zH pc 52 (zQ pc 51 .isub 1) (zH pc 53 (zQ pc 52 (.iload_n 3) 1) (zQ pc 53 (.iconst 4) 1)))) (zH pc 62 (zH pc 56 (zQ pc 54 (.iload 5) 2) (zH pc 59 (zQ pc 56 (.invokevirtual 50) 3) (zQ pc 59 (.ifCond .ne 16) 3))) (zH pc 66 (zH pc 63 (zQ pc 62 (.aload_n 0) 1) (zQ pc 63 (.getfield 9) 3)) (zH pc 67 (zQ pc 66 (.iload_n 2) 1) (zQ pc 67 .dup2 1))))) (zH pc 79 (zH pc 71 (zH pc 69 (zQ pc 68 .iaload 1) (zH pc 70 (zQ pc 69 (.iconst 1) 1) (zQ pc 70 .iadd 1))) (zH pc 75 (zH pc 72 (zQ pc 71 .iastore 1) (zQ pc 72 (.goto 17) 3)) (zH pc 76 (zQ pc 75 (.iload_n 2) 1) (zQ pc 76 (.ifCond .ne 13) 3)))) (zH pc 84 (zH pc 80 (zQ pc 79 (.aload_n 0) 1) (zH pc 81 (zQ pc 80 .dup 1) (zQ pc 81 (.getfield 31) 3))) (zH pc 86 (zH pc 85 (zQ pc 84 (.iconst 1) 1) (zQ pc 85 .iadd 1)) (zH pc 89 (zQ pc 86 (.putfield 31) 3) (zQ pc 89 .return_ 1))))))) else none
def zc_26 (pc : Nat) : Option (Instr × Nat) := bif Nat.blt pc 37 then (zH pc 17 (zH pc 10 (zH pc 3 (zH pc 1 (zQ pc 0 (.iconst 0) 1) (zQ pc 1 (.istore 6) 2)) (zH pc 5 (zQ pc 3 (.iload 6) 2) (zH pc 7 (zQ pc 5 (.iload 4) 2) (zQ pc 7 (.if_icmp .ge 28) 3)))) (zH pc 14 (zH pc 11 (zQ pc 10 (.aload_n 0) 1) (zQ pc 11 (.getfield 18) 3)) (zH pc 15 (zQ pc 14 (.iload_n 1) 1) (zH pc 16 (zQ pc 15 (.iload_n 2) 1) (zQ pc 16 (.iload_n 3) 1))))) (zH pc 28 (zH pc 22 (zH pc 19 (zQ pc 17 (.iload 6) 2) (zQ pc 19 (.invokevirtual 42) 3)) (zH pc 24 (zQ pc 22 (.iload 5) 2) (zH pc 27 (zQ pc 24 (.if_icmp .ne 5) 3) (zQ pc 27 (.iconst 1) 1)))) (zH pc 32 (zH pc 29 (zQ pc 28 .ireturn 1) (zQ pc 29 (.iinc 6 1) 3)) (zH pc 35 (zQ pc 32 (.goto (-29)) 3) (zH pc 36 (zQ pc 35 (.iconst 0) 1) (zQ pc 36 .ireturn 1)))))) else none
def zc_27 (pc : Nat) : Option (Instr × Nat) := bif Nat.blt pc 91 then (zH pc 43 (zH pc 20 (zH pc 8 (zH pc 3 (zH pc 1 (zQ pc 0 (.iconst 0) 1) (zH pc 2 (zQ pc 1 (.istore_n 3) 1) (zQ pc 2 (.iconst 0) 1))) (zH pc 5 (zQ pc 3 (.istore 4) 2) (zH pc 7 (zQ pc 5 (.iload 4) 2) (zQ pc 7 (.iload_n 1) 1)))) (zH pc 14 (zH pc 11 (zQ pc 8 (.if_icmp .gt 81) 3) (zH pc 12 (zQ pc 11 (.iload_n 1) 1) (zQ pc 12 (.iload 4) 2))) (zH pc 17 (zH pc 15 (zQ pc 14 .isub 1) (zQ pc 15 (.istore 5) 2)) (zH pc 18 (zQ pc 17 (.iconst 0) 1) (zQ pc 18 (.iload 4) 2))))) (zH pc 31 (zH pc 25 (zH pc 21 (zQ pc 20 (.aload_n 0) 1) (zH pc 24 (zQ pc 21 (.getfield 9) 3) (zQ pc 24 (.iconst 0) 1))) (zH pc 27 (zH pc 26 (zQ pc 25 .iaload 1) (zQ pc 26 .isub 1)) (zH pc 30 (zQ pc 27 (.invokestatic 54) 3) (zQ pc 30 (.iconst 0) 1)))) (zH pc 37 (zH pc 33 (zQ pc 31 (.iload 5) 2) (zH pc 34 (zQ pc 33 (.aload_n 0) 1) (zQ pc 34 (.getfield 9) 3))) (zH pc 39 (zH pc 38 (zQ pc 37 (.iconst 1) 1) (zQ pc 38 .iaload 1)) (zH pc 40 (zQ pc 39 .isub 1) (zQ pc 40 (.invokestatic 54) 3)))))) (zH pc 66 (zH pc 54 (zH pc 48 (zH pc 44 (zQ pc 43 .iadd 1) (zH pc 46 (zQ pc 44 (.istore 6) 2) (zQ pc 46 (.iload 6) 2))) (zH pc 52 (zH pc 49 (zQ pc 48 (.aload_n 0) 1) (zQ pc 49 (.getfield 31) 3)) (zH pc 53 (zQ pc 52 (.iload_n 2) 1) (zQ pc 53 .iadd 1)))) (zH pc 59 (zH pc 57 (zQ pc 54 (.if_icmp .le 29) 3) (zH pc 58 (zQ pc 57 (.iload_n 3) 1) (zQ pc 58 (.aload_n 0) 1))) (zH pc 63 (zH pc 62 (zQ pc 59 (.getfield 15) 3) (zQ pc 62 (.iconst 0) 1)) (zH pc 64 (zQ pc 63 .iaload 1) (zQ pc 64 (.iload 4) 2))))) (zH pc 80 (zH pc 73 (zH pc 69 (zQ pc 66 (.invokestatic 60) 3) (zH pc 70 (zQ pc 69 (.aload_n 0) 1) (zQ pc 70 (.getfield 15) 3))) (zH pc 75 (zH pc 74 (zQ pc 73 (.iconst 1) 1) (zQ pc 74 .iaload 1)) (zH pc 77 (zQ pc 75 (.iload 5) 2) (zQ pc 77 (.invokestatic 60) 3)))) (zH pc 83 (zH pc 81 (zQ pc 80 .imul 1) (zH pc 82 (zQ pc 81 .iadd 1) (zQ pc 82 (.istore_n 3) 1))) (zH pc 89 (zH pc 86 (zQ pc 83 (.iinc 4 1) 3) (zQ pc 86 (.goto (-81)) 3)) (zH pc 90 (zQ pc 89 (.iload_n 3) 1) (zQ pc 90 .ireturn 1))))))) else none
def zc_28 (pc : Nat) : Option (Instr × Nat) := bif Nat.blt pc 53 then (zH pc 23 (zH pc 11 (zH pc 5 (zH pc 1 (zQ pc 0 (.aload_n 0) 1) (zH pc 4 (zQ pc 1 (.getfield 15) 3) (zQ pc 4 (.iconst 0) 1))) (zH pc 7 (zH pc 6 (zQ pc 5 .iaload 1) (zQ pc 6 (.aload_n 0) 1)) (zH pc 10 (zQ pc 7 (.getfield 15) 3) (zQ pc 10 (.iconst 1) 1)))) (zH pc 17 (zH pc 13 (zH pc 12 (zQ pc 11 .iaload 1) (zQ pc 12 .iadd 1)) (zH pc 14 (zQ pc 13 (.iload_n 1) 1) (zQ pc 14 (.invokestatic 60) 3))) (zH pc 19 (zH pc 18 (zQ pc 17 (.istore_n 3) 1) (zQ pc 18 (.iconst 0) 1)) (zH pc 21 (zQ pc 19 (.istore 4) 2) (zQ pc 21 (.iload 4) 2))))) (zH pc 38 (zH pc 29 (zH pc 27 (zH pc 24 (zQ pc 23 (.iload_n 1) 1) (zQ pc 24 (.if_icmp .ge 26) 3)) (zH pc 28 (zQ pc 27 (.aload_n 0) 1) (zQ pc 28 (.iload_n 1) 1))) (zH pc 34 (zH pc 31 (zQ pc 29 (.iload 4) 2) (zQ pc 31 (.invokevirtual 63) 3)) (zH pc 37 (zQ pc 34 (.sipush 1000) 3) (zQ pc 37 .imul 1)))) (zH pc 44 (zH pc 40 (zH pc 39 (zQ pc 38 (.iload_n 2) 1) (zQ pc 39 (.iload_n 3) 1)) (zH pc 41 (zQ pc 40 .imul 1) (zQ pc 41 (.if_icmp .le 9) 3))) (zH pc 50 (zH pc 47 (zQ pc 44 (.iinc 4 1) 3) (zQ pc 47 (.goto (-26)) 3)) (zH pc 52 (zQ pc 50 (.iload 4) 2) (zQ pc 52 .ireturn 1)))))) else none
def zc_29 (pc : Nat) : Option (Instr × Nat) := bif Nat.blt pc 27 then (zH pc 12 (zH pc 5 (zH pc 2 (zH pc 1 (zQ pc 0 (.iconst 1) 1) (zQ pc 1 (.istore_n 2) 1)) (zH pc 3 (zQ pc 2 (.iconst 0) 1) (zH pc 4 (zQ pc 3 (.istore_n 3) 1) (zQ pc 4 (.iload_n 3) 1)))) (zH pc 9 (zH pc 6 (zQ pc 5 (.iload_n 1) 1) (zQ pc 6 (.if_icmp .ge 19) 3)) (zH pc 10 (zQ pc 9 (.iload_n 2) 1) (zH pc 11 (zQ pc 10 (.iload_n 0) 1) (zQ pc 11 (.iload_n 3) 1))))) (zH pc 17 (zH pc 14 (zH pc 13 (zQ pc 12 .isub 1) (zQ pc 13 .imul 1)) (zH pc 15 (zQ pc 14 (.iload_n 3) 1) (zH pc 16 (zQ pc 15 (.iconst 1) 1) (zQ pc 16 .iadd 1)))) (zH pc 22 (zH pc 18 (zQ pc 17 .idiv 1) (zH pc 19 (zQ pc 18 (.istore_n 2) 1) (zQ pc 19 (.iinc 3 1) 3))) (zH pc 25 (zQ pc 22 (.goto (-18)) 3) (zH pc 26 (zQ pc 25 (.iload_n 2) 1) (zQ pc 26 .ireturn 1)))))) else none
def zc_30 (pc : Nat) : Option (Instr × Nat) := bif Nat.blt pc 100 then (zH pc 53 (zH pc 25 (zH pc 13 (zH pc 5 (zH pc 1 (zQ pc 0 (.iload_n 1) 1) (zH pc 4 (zQ pc 1 (.ifCond .ne 7) 3) (zQ pc 4 (.iconst 2) 1))) (zH pc 9 (zH pc 8 (zQ pc 5 (.goto 13) 3) (zQ pc 8 (.iload_n 1) 1)) (zH pc 10 (zQ pc 9 (.iconst 1) 1) (zQ pc 10 (.if_icmp .ne 7) 3)))) (zH pc 18 (zH pc 14 (zQ pc 13 (.iconst 1) 1) (zH pc 17 (zQ pc 14 (.goto 4) 3) (zQ pc 17 (.iconst 0) 1))) (zH pc 21 (zH pc 20 (zQ pc 18 (.istore 4) 2) (zQ pc 20 (.iload_n 3) 1)) (zH pc 22 (zQ pc 21 (.iconst 1) 1) (zQ pc 22 (.if_icmp .lt 29) 3))))) (zH pc 37 (zH pc 31 (zH pc 26 (zQ pc 25 (.iload_n 3) 1) (zH pc 28 (zQ pc 26 (.iload 4) 2) (zQ pc 28 (.if_icmp .gt 23) 3))) (zH pc 33 (zH pc 32 (zQ pc 31 (.iload_n 2) 1) (zQ pc 32 (.iconst 1) 1)) (zH pc 36 (zQ pc 33 (.if_icmp .lt 18) 3) (zQ pc 36 (.iload_n 2) 1)))) (zH pc 46 (zH pc 42 (zH pc 39 (zQ pc 37 (.bipush 8) 2) (zQ pc 39 (.if_icmp .gt 12) 3)) (zH pc 43 (zQ pc 42 (.aload_n 0) 1) (zQ pc 43 (.getfield 43) 3))) (zH pc 51 (zH pc 48 (zQ pc 46 (.bipush 12) 2) (zQ pc 48 (.if_icmp .ne 5) 3)) (zH pc 52 (zQ pc 51 (.iconst (-1)) 1) (zQ pc 52 .ireturn 1)))))) (zH pc 77 (zH pc 64 (zH pc 58 (zH pc 54 (zQ pc 53 (.aload_n 0) 1) (zH pc 57 (zQ pc 54 (.getfield 9) 3) (zQ pc 57 (.aload_n 0) 1))) (zH pc 62 (zH pc 61 (zQ pc 58 (.getfield 43) 3) (zQ pc 61 (.iload_n 1) 1)) (zH pc 63 (zQ pc 62 .iastore 1) (zQ pc 63 (.aload_n 0) 1)))) (zH pc 71 (zH pc 67 (zQ pc 64 (.getfield 15) 3) (zH pc 68 (zQ pc 67 (.aload_n 0) 1) (zQ pc 68 (.getfield 43) 3))) (zH pc 73 (zH pc 72 (zQ pc 71 (.iload_n 2) 1) (zQ pc 72 .iastore 1)) (zH pc 74 (zQ pc 73 (.aload_n 0) 1) (zQ pc 74 (.getfield 18) 3))))) (zH pc 88 (zH pc 82 (zH pc 78 (zQ pc 77 (.aload_n 0) 1) (zH pc 81 (zQ pc 78 (.getfield 43) 3) (zQ pc 81 (.iload_n 3) 1))) (zH pc 84 (zH pc 83 (zQ pc 82 .iastore 1) (zQ pc 83 (.aload_n 0) 1)) (zH pc 85 (zQ pc 84 .dup 1) (zQ pc 85 (.getfield 43) 3)))) (zH pc 94 (zH pc 90 (zH pc 89 (zQ pc 88 (.iconst 1) 1) (zQ pc 89 .iadd 1)) (zH pc 93 (zQ pc 90 (.putfield 43) 3) (zQ pc 93 (.aload_n 0) 1))) (zH pc 98 (zH pc 97 (zQ pc 94 (.getfield 43) 3) (zQ pc 97 (.iconst 1) 1)) (zH pc 99 (zQ pc 98 .isub 1) (zQ pc 99 .ireturn 1))))))) else none
def zc_31 (pc : Nat) : Option (Instr × Nat) := bif Nat.blt pc 92 then (zH pc 49 (zH pc 23 (zH pc 10 (zH pc 3 (zH pc 1 (zQ pc 0 (.aload_n 0) 1) (zH pc 2 (zQ pc 1 (.iload_n 1) 1) (zQ pc 2 (.iload_n 3) 1))) (zH pc 6 (zQ pc 3 (.invokevirtual 47) 3) (zH pc 9 (zQ pc 6 (.ifCond .eq 28) 3) (zQ pc 9 (.iload_n 2) 1)))) (zH pc 15 (zH pc 13 (zQ pc 10 (.ifCond .lt 24) 3) (zH pc 14 (zQ pc 13 (.iload_n 2) 1) (zQ pc 14 (.aload_n 0) 1))) (zH pc 19 (zH pc 18 (zQ pc 15 (.getfield 18) 3) (zQ pc 18 (.iload_n 1) 1)) (zH pc 20 (zQ pc 19 .iaload 1) (zQ pc 20 (.if_icmp .ge 14) 3))))) (zH pc 35 (zH pc 30 (zH pc 25 (zQ pc 23 (.iload 4) 2) (zH pc 28 (zQ pc 25 (.ifCond .lt 9) 3) (zQ pc 28 (.iload 4) 2))) (zH pc 31 (zQ pc 30 (.iconst 4) 1) (zH pc 34 (zQ pc 31 (.if_icmp .lt 5) 3) (zQ pc 34 (.iconst 0) 1)))) (zH pc 39 (zH pc 36 (zQ pc 35 .ireturn 1) (zH pc 37 (zQ pc 36 (.aload_n 0) 1) (zQ pc 37 (.iload 5) 2))) (zH pc 45 (zH pc 42 (zQ pc 39 (.invokevirtual 51) 3) (zQ pc 42 (.ifCond .eq 16) 3)) (zH pc 47 (zQ pc 45 (.iload 5) 2) (zQ pc 47 (.bipush 8) 2)))))) (zH pc 73 (zH pc 59 (zH pc 54 (zH pc 50 (zQ pc 49 .idiv 1) (zH pc 51 (zQ pc 50 (.iload_n 1) 1) (zQ pc 51 (.if_icmp .eq 7) 3))) (zH pc 55 (zQ pc 54 (.iconst 1) 1) (zH pc 58 (zQ pc 55 (.goto 4) 3) (zQ pc 58 (.iconst 0) 1)))) (zH pc 64 (zH pc 61 (zQ pc 59 (.istore 6) 2) (zH pc 63 (zQ pc 61 (.iload 5) 2) (zQ pc 63 (.iconst (-1)) 1))) (zH pc 69 (zH pc 67 (zQ pc 64 (.if_icmp .eq 10) 3) (zQ pc 67 (.iload 6) 2)) (zH pc 72 (zQ pc 69 (.ifCond .ne 5) 3) (zQ pc 72 (.iconst 0) 1))))) (zH pc 81 (zH pc 78 (zH pc 74 (zQ pc 73 .ireturn 1) (zH pc 75 (zQ pc 74 (.aload_n 0) 1) (zQ pc 75 (.getfield 21) 3))) (zH pc 79 (zQ pc 78 (.iload_n 1) 1) (zH pc 80 (zQ pc 79 (.iload_n 2) 1) (zQ pc 80 (.iload_n 3) 1)))) (zH pc 87 (zH pc 84 (zQ pc 81 (.invokestatic 55) 3) (zH pc 86 (zQ pc 84 (.iload 4) 2) (zQ pc 86 .iadd 1))) (zH pc 90 (zH pc 89 (zQ pc 87 (.iload 5) 2) (zQ pc 89 .iastore 1)) (zH pc 91 (zQ pc 90 (.iconst 1) 1) (zQ pc 91 .ireturn 1))))))) else none
def zc_32 (pc : Nat) : Option (Instr × Nat) := bif Nat.blt pc 32 then (zH pc 18 (zH pc 10 (zH pc 4 (zH pc 1 (zQ pc 0 (.iload_n 1) 1) (zQ pc 1 (.ifCond .lt 20) 3)) (zH pc 5 (zQ pc 4 (.iload_n 1) 1) (zH pc 7 (zQ pc 5 (.bipush 16) 2) (zQ pc 7 (.if_icmp .ge 14) 3)))) (zH pc 12 (zH pc 11 (zQ pc 10 (.iload_n 2) 1) (zQ pc 11 (.iconst 1) 1)) (zH pc 15 (zQ pc 12 (.if_icmp .lt 9) 3) (zH pc 16 (zQ pc 15 (.iload_n 2) 1) (zQ pc 16 (.bipush 9) 2))))) (zH pc 27 (zH pc 22 (zH pc 21 (zQ pc 18 (.if_icmp .le 5) 3) (zQ pc 21 (.iconst 0) 1)) (zH pc 23 (zQ pc 22 .ireturn 1) (zH pc 24 (zQ pc 23 (.aload_n 0) 1) (zQ pc 24 (.getfield 34) 3)))) (zH pc 29 (zH pc 28 (zQ pc 27 (.iload_n 1) 1) (zQ pc 28 (.iload_n 2) 1)) (zH pc 30 (zQ pc 29 .iastore 1) (zH pc 31 (zQ pc 30 (.iconst 1) 1) (zQ pc 31 .ireturn 1)))))) else none
def zc_33 (pc : Nat) : Option (Instr × Nat) := bif Nat.blt pc 28 then (zH pc 16 (zH pc 6 (zH pc 4 (zH pc 1 (zQ pc 0 (.iload_n 2) 1) (zQ pc 1 (.ifCond .lt 25) 3)) (zH pc 5 (zQ pc 4 (.iload_n 2) 1) (zQ pc 5 (.aload_n 0) 1))) (zH pc 12 (zH pc 9 (zQ pc 6 (.getfield 43) 3) (zQ pc 9 (.if_icmp .ge 17) 3)) (zH pc 13 (zQ pc 12 (.aload_n 0) 1) (zQ pc 13 (.getfield 9) 3)))) (zH pc 22 (zH pc 18 (zH pc 17 (zQ pc 16 (.iload_n 2) 1) (zQ pc 17 .iaload 1)) (zH pc 19 (zQ pc 18 (.iload_n 1) 1) (zQ pc 19 (.if_icmp .ne 7) 3))) (zH pc 26 (zH pc 23 (zQ pc 22 (.iconst 1) 1) (zQ pc 23 (.goto 4) 3)) (zH pc 27 (zQ pc 26 (.iconst 0) 1) (zQ pc 27 .ireturn 1))))) else none
def zc_34 (pc : Nat) : Option (Instr × Nat) := bif Nat.blt pc 25 then (zH pc 13 (zH pc 3 (zH pc 1 (zQ pc 0 (.aload_n 0) 1) (zH pc 2 (zQ pc 1 (.iconst 0) 1) (zQ pc 2 (.iload_n 1) 1))) (zH pc 9 (zH pc 6 (zQ pc 3 (.invokevirtual 59) 3) (zQ pc 6 (.ifCond .eq 17) 3)) (zH pc 10 (zQ pc 9 (.iload_n 2) 1) (zQ pc 10 (.ifCond .lt 13) 3)))) (zH pc 19 (zH pc 14 (zQ pc 13 (.iload_n 2) 1) (zH pc 16 (zQ pc 14 (.bipush 10) 2) (zQ pc 16 (.if_icmp .ge 7) 3))) (zH pc 23 (zH pc 20 (zQ pc 19 (.iconst 1) 1) (zQ pc 20 (.goto 4) 3)) (zH pc 24 (zQ pc 23 (.iconst 0) 1) (zQ pc 24 .ireturn 1))))) else none
def zc_35 (pc : Nat) : Option (Instr × Nat) := bif Nat.blt pc 47 then (zH pc 25 (zH pc 12 (zH pc 5 (zH pc 1 (zQ pc 0 (.iload_n 1) 1) (zH pc 4 (zQ pc 1 (.ifCond .lt 18) 3) (zQ pc 4 (.iload_n 1) 1))) (zH pc 9 (zH pc 6 (zQ pc 5 (.aload_n 0) 1) (zQ pc 6 (.getfield 43) 3)) (zH pc 11 (zQ pc 9 (.bipush 8) 2) (zQ pc 11 .imul 1)))) (zH pc 19 (zH pc 15 (zQ pc 12 (.if_icmp .ge 7) 3) (zH pc 16 (zQ pc 15 (.iconst 1) 1) (zQ pc 16 (.goto 4) 3))) (zH pc 21 (zH pc 20 (zQ pc 19 (.iconst 0) 1) (zQ pc 20 (.istore_n 2) 1)) (zH pc 22 (zQ pc 21 (.iload_n 2) 1) (zQ pc 22 (.ifCond .eq 23) 3))))) (zH pc 36 (zH pc 29 (zH pc 26 (zQ pc 25 (.iload_n 1) 1) (zH pc 28 (zQ pc 26 (.bipush 8) 2) (zQ pc 28 .irem 1))) (zH pc 33 (zH pc 30 (zQ pc 29 (.aload_n 0) 1) (zQ pc 30 (.getfield 15) 3)) (zH pc 34 (zQ pc 33 (.iload_n 1) 1) (zQ pc 34 (.bipush 8) 2)))) (zH pc 41 (zH pc 37 (zQ pc 36 .idiv 1) (zH pc 38 (zQ pc 37 .iaload 1) (zQ pc 38 (.if_icmp .ge 7) 3))) (zH pc 45 (zH pc 42 (zQ pc 41 (.iconst 1) 1) (zQ pc 42 (.goto 4) 3)) (zH pc 46 (zQ pc 45 (.iconst 0) 1) (zQ pc 46 .ireturn 1)))))) else none
def zc_36 (pc : Nat) : Option (Instr × Nat) := bif Nat.blt pc 22 then (zH pc 10 (zH pc 5 (zH pc 1 (zQ pc 0 (.aload_n 0) 1) (zH pc 2 (zQ pc 1 (.iload_n 1) 1) (zQ pc 2 (.invokevirtual 62) 3))) (zH pc 8 (zQ pc 5 (.ifCond .ne 11) 3) (zH pc 9 (zQ pc 8 (.aload_n 0) 1) (zQ pc 9 (.iload_n 1) 1)))) (zH pc 17 (zH pc 13 (zQ pc 10 (.invokevirtual 65) 3) (zH pc 16 (zQ pc 13 (.ifCond .eq 7) 3) (zQ pc 16 (.iconst 1) 1))) (zH pc 20 (zQ pc 17 (.goto 4) 3) (zH pc 21 (zQ pc 20 (.iconst 0) 1) (zQ pc 21 .ireturn 1))))) else none
def zc_37 (pc : Nat) : Option (Instr × Nat) := bif Nat.blt pc 18 then (zH pc 9 (zH pc 3 (zH pc 1 (zQ pc 0 (.iload_n 1) 1) (zQ pc 1 (.bipush 100) 2)) (zH pc 6 (zQ pc 3 (.if_icmp .lt 13) 3) (zH pc 7 (zQ pc 6 (.iload_n 1) 1) (zQ pc 7 (.bipush 116) 2)))) (zH pc 13 (zH pc 12 (zQ pc 9 (.if_icmp .ge 7) 3) (zQ pc 12 (.iconst 1) 1)) (zH pc 16 (zQ pc 13 (.goto 4) 3) (zH pc 17 (zQ pc 16 (.iconst 0) 1) (zQ pc 17 .ireturn 1))))) else none
def zc_38 (pc : Nat) : Option (Instr × Nat) := bif Nat.blt pc 29 then (zH pc 15 (zH pc 7 (zH pc 4 (zH pc 1 (zQ pc 0 (.iload_n 1) 1) (zQ pc 1 (.ifCond .lt 26) 3)) (zH pc 5 (zQ pc 4 (.iload_n 1) 1) (zQ pc 5 (.bipush 96) 2))) (zH pc 11 (zH pc 10 (zQ pc 7 (.if_icmp .ge 20) 3) (zQ pc 10 (.aload_n 0) 1)) (zH pc 14 (zQ pc 11 (.getfield 9) 3) (zQ pc 14 (.iload_n 1) 1)))) (zH pc 20 (zH pc 18 (zH pc 17 (zQ pc 15 (.bipush 8) 2) (zQ pc 17 .idiv 1)) (zH pc 19 (zQ pc 18 .iaload 1) (zQ pc 19 (.iconst 1) 1))) (zH pc 24 (zH pc 23 (zQ pc 20 (.if_icmp .ne 7) 3) (zQ pc 23 (.iconst 1) 1)) (zH pc 27 (zQ pc 24 (.goto 4) 3) (zH pc 28 (zQ pc 27 (.iconst 0) 1) (zQ pc 28 .ireturn 1)))))) else none
def zc_39 (pc : Nat) : Option (Instr × Nat) := bif Nat.blt pc 22 then (zH pc 12 (zH pc 5 (zH pc 1 (zQ pc 0 (.aload_n 0) 1) (zH pc 2 (zQ pc 1 (.iload_n 1) 1) (zQ pc 2 (.invokevirtual 65) 3))) (zH pc 8 (zQ pc 5 (.ifCond .eq 15) 3) (zH pc 9 (zQ pc 8 (.aload_n 0) 1) (zQ pc 9 (.getfield 34) 3)))) (zH pc 16 (zH pc 13 (zQ pc 12 (.iload_n 1) 1) (zH pc 15 (zQ pc 13 (.bipush 100) 2) (zQ pc 15 .isub 1))) (zH pc 20 (zH pc 17 (zQ pc 16 .iaload 1) (zQ pc 17 (.goto 4) 3)) (zH pc 21 (zQ pc 20 (.iconst 0) 1) (zQ pc 21 .ireturn 1))))) else none
def zc_40 (pc : Nat) : Option (Instr × Nat) := bif Nat.blt pc 13 then (zH pc 7 (zH pc 3 (zH pc 1 (zQ pc 0 (.iload_n 0) 1) (zH pc 2 (zQ pc 1 (.iconst 2) 1) (zQ pc 2 .imul 1))) (zH pc 4 (zQ pc 3 (.iload_n 1) 1) (zH pc 5 (zQ pc 4 .iadd 1) (zQ pc 5 (.bipush 10) 2)))) (zH pc 10 (zH pc 8 (zQ pc 7 .imul 1) (zH pc 9 (zQ pc 8 (.iload_n 2) 1) (zQ pc 9 .iadd 1))) (zH pc 11 (zQ pc 10 (.iconst 4) 1) (zH pc 12 (zQ pc 11 .imul 1) (zQ pc 12 .ireturn 1))))) else none
def zc_41 (pc : Nat) : Option (Instr × Nat) := bif Nat.blt pc 15 then (zH pc 7 (zH pc 4 (zH pc 1 (zQ pc 0 (.aload_n 0) 1) (zQ pc 1 (.getfield 21) 3)) (zH pc 5 (zQ pc 4 (.iload_n 1) 1) (zH pc 6 (zQ pc 5 (.iload_n 2) 1) (zQ pc 6 (.iload_n 3) 1)))) (zH pc 12 (zH pc 10 (zQ pc 7 (.invokestatic 55) 3) (zQ pc 10 (.iload 4) 2)) (zH pc 13 (zQ pc 12 .iadd 1) (zH pc 14 (zQ pc 13 .iaload 1) (zQ pc 14 .ireturn 1))))) else none
def zc_42 (pc : Nat) : Option (Instr × Nat) := bif Nat.blt pc 36 then (zH pc 17 (zH pc 7 (zH pc 3 (zH pc 1 (zQ pc 0 (.iload_n 1) 1) (zQ pc 1 (.bipush 8) 2)) (zH pc 4 (zQ pc 3 .idiv 1) (zH pc 6 (zQ pc 4 (.istore 4) 2) (zQ pc 6 (.iload_n 1) 1)))) (zH pc 11 (zH pc 9 (zQ pc 7 (.bipush 8) 2) (zH pc 10 (zQ pc 9 .irem 1) (zQ pc 10 (.aload_n 0) 1))) (zH pc 14 (zQ pc 11 (.getfield 18) 3) (zH pc 16 (zQ pc 14 (.iload 4) 2) (zQ pc 16 .iaload 1))))) (zH pc 28 (zH pc 21 (zH pc 18 (zQ pc 17 .irem 1) (zH pc 20 (zQ pc 18 (.istore 5) 2) (zQ pc 20 (.aload_n 0) 1))) (zH pc 24 (zQ pc 21 (.getfield 21) 3) (zH pc 26 (zQ pc 24 (.iload 4) 2) (zQ pc 26 (.iload 5) 2)))) (zH pc 33 (zH pc 29 (zQ pc 28 (.iload_n 2) 1) (zH pc 32 (zQ pc 29 (.invokestatic 55) 3) (zQ pc 32 (.iload_n 3) 1))) (zH pc 34 (zQ pc 33 .iadd 1) (zH pc 35 (zQ pc 34 .iaload 1) (zQ pc 35 .ireturn 1)))))) else none
def zc_43 (pc : Nat) : Option (Instr × Nat) := bif Nat.blt pc 25 then (zH pc 14 (zH pc 5 (zH pc 1 (zQ pc 0 (.iload_n 1) 1) (zH pc 4 (zQ pc 1 (.ifCond .lt 22) 3) (zQ pc 4 (.iload_n 1) 1))) (zH pc 10 (zH pc 7 (zQ pc 5 (.bipush 96) 2) (zQ pc 7 (.if_icmp .ge 16) 3)) (zH pc 11 (zQ pc 10 (.aload_n 0) 1) (zQ pc 11 (.getfield 24) 3)))) (zH pc 19 (zH pc 15 (zQ pc 14 (.iload_n 1) 1) (zH pc 16 (zQ pc 15 .baload 1) (zQ pc 16 (.ifCond .eq 7) 3))) (zH pc 23 (zH pc 20 (zQ pc 19 (.iconst 1) 1) (zQ pc 20 (.goto 4) 3)) (zH pc 24 (zQ pc 23 (.iconst 0) 1) (zQ pc 24 .ireturn 1))))) else none
def zc_44 (pc : Nat) : Option (Instr × Nat) := bif Nat.blt pc 25 then (zH pc 14 (zH pc 5 (zH pc 1 (zQ pc 0 (.iload_n 1) 1) (zH pc 4 (zQ pc 1 (.ifCond .lt 22) 3) (zQ pc 4 (.iload_n 1) 1))) (zH pc 10 (zH pc 7 (zQ pc 5 (.bipush 96) 2) (zQ pc 7 (.if_icmp .ge 16) 3)) (zH pc 11 (zQ pc 10 (.aload_n 0) 1) (zQ pc 11 (.getfield 28) 3)))) (zH pc 19 (zH pc 15 (zQ pc 14 (.iload_n 1) 1) (zH pc 16 (zQ pc 15 .baload 1) (zQ pc 16 (.ifCond .eq 7) 3))) (zH pc 23 (zH pc 20 (zQ pc 19 (.iconst 1) 1) (zQ pc 20 (.goto 4) 3)) (zH pc 24 (zQ pc 23 (.iconst 0) 1) (zQ pc 24 .ireturn 1))))) else none
def zc_45 (pc : Nat) : Option (Instr × Nat) := bif Nat.blt pc 34 then (zH pc 16 (zH pc 7 (zH pc 4 (zH pc 1 (zQ pc 0 (.iload_n 1) 1) (zQ pc 1 (.ifCond .lt 31) 3)) (zH pc 5 (zQ pc 4 (.iload_n 1) 1) (zQ pc 5 (.bipush 116) 2))) (zH pc 11 (zH pc 10 (zQ pc 7 (.if_icmp .ge 25) 3) (zQ pc 10 (.aload_n 0) 1)) (zH pc 14 (zQ pc 11 (.getfield 31) 3) (zH pc 15 (zQ pc 14 (.iload_n 1) 1) (zQ pc 15 .iaload 1))))) (zH pc 25 (zH pc 20 (zH pc 17 (zQ pc 16 (.iconst (-1)) 1) (zQ pc 17 (.if_icmp .ne 15) 3)) (zH pc 21 (zQ pc 20 (.aload_n 0) 1) (zH pc 22 (zQ pc 21 (.iload_n 1) 1) (zQ pc 22 (.invokevirtual 68) 3)))) (zH pc 29 (zH pc 28 (zQ pc 25 (.ifCond .ne 7) 3) (zQ pc 28 (.iconst 1) 1)) (zH pc 32 (zQ pc 29 (.goto 4) 3) (zH pc 33 (zQ pc 32 (.iconst 0) 1) (zQ pc 33 .ireturn 1)))))) else none
def zc_46 (pc : Nat) : Option (Instr × Nat) := bif Nat.blt pc 38 then (zH pc 18 (zH pc 7 (zH pc 2 (zH pc 1 (zQ pc 0 (.iconst 0) 1) (zQ pc 1 (.istore_n 3) 1)) (zH pc 3 (zQ pc 2 (.iload_n 1) 1) (zH pc 5 (zQ pc 3 (.istore 4) 2) (zQ pc 5 (.iload 4) 2)))) (zH pc 12 (zH pc 8 (zQ pc 7 (.iload_n 2) 1) (zH pc 11 (zQ pc 8 (.if_icmp .ge 28) 3) (zQ pc 11 (.iload_n 3) 1))) (zH pc 13 (zQ pc 12 (.aload_n 0) 1) (zH pc 16 (zQ pc 13 (.getfield 31) 3) (zQ pc 16 (.iload 4) 2))))) (zH pc 28 (zH pc 23 (zH pc 19 (zQ pc 18 .iaload 1) (zH pc 20 (zQ pc 19 (.iconst (-1)) 1) (zQ pc 20 (.if_icmp .ne 7) 3))) (zH pc 24 (zQ pc 23 (.iconst 0) 1) (zH pc 27 (zQ pc 24 (.goto 4) 3) (zQ pc 27 (.iconst 1) 1)))) (zH pc 33 (zH pc 29 (zQ pc 28 .iadd 1) (zH pc 30 (zQ pc 29 (.istore_n 3) 1) (zQ pc 30 (.iinc 4 1) 3))) (zH pc 36 (zQ pc 33 (.goto (-28)) 3) (zH pc 37 (zQ pc 36 (.iload_n 3) 1) (zQ pc 37 .ireturn 1)))))) else none
def zc_47 (pc : Nat) : Option (Instr × Nat) := bif Nat.blt pc 29 then (zH pc 13 (zH pc 4 (zH pc 2 (zH pc 1 (zQ pc 0 (.iconst 0) 1) (zQ pc 1 (.istore_n 1) 1)) (zH pc 3 (zQ pc 2 (.iconst 0) 1) (zQ pc 3 (.istore_n 2) 1))) (zH pc 6 (zH pc 5 (zQ pc 4 (.iload_n 2) 1) (zQ pc 5 (.aload_n 0) 1)) (zH pc 9 (zQ pc 6 (.getfield 43) 3) (zH pc 12 (zQ pc 9 (.if_icmp .ge 18) 3) (zQ pc 12 (.iload_n 1) 1))))) (zH pc 20 (zH pc 17 (zH pc 14 (zQ pc 13 (.aload_n 0) 1) (zQ pc 14 (.getfield 15) 3)) (zH pc 18 (zQ pc 17 (.iload_n 2) 1) (zH pc 19 (zQ pc 18 .iaload 1) (zQ pc 19 .iadd 1)))) (zH pc 24 (zH pc 21 (zQ pc 20 (.istore_n 1) 1) (zQ pc 21 (.iinc 2 1) 3)) (zH pc 27 (zQ pc 24 (.goto (-20)) 3) (zH pc 28 (zQ pc 27 (.iload_n 1) 1) (zQ pc 28 .ireturn 1)))))) else none
def zc_48 (pc : Nat) : Option (Instr × Nat) := bif Nat.blt pc 123 then (zH pc 57 (zH pc 25 (zH pc 13 (zH pc 5 (zH pc 1 (zQ pc 0 (.aload_n 0) 1) (zH pc 4 (zQ pc 1 (.getfield 12) 3) (zQ pc 4 (.aload_n 0) 1))) (zH pc 11 (zH pc 8 (zQ pc 5 (.getfield 29) 3) (zQ pc 8 (.getfield 33) 3)) (zH pc 12 (zQ pc 11 (.iload_n 1) 1) (zQ pc 12 .aaload 1)))) (zH pc 19 (zH pc 15 (zH pc 14 (zQ pc 13 (.iload_n 2) 1) (zQ pc 14 (.iload_n 3) 1)) (zH pc 18 (zQ pc 15 (.invokevirtual 39) 3) (zQ pc 18 (.aload_n 0) 1))) (zH pc 23 (zH pc 20 (zQ pc 19 (.iconst (-1)) 1) (zQ pc 20 (.putfield 21) 3)) (zH pc 24 (zQ pc 23 (.aload_n 0) 1) (zQ pc 24 (.iconst 0) 1))))) (zH pc 41 (zH pc 33 (zH pc 29 (zH pc 28 (zQ pc 25 (.putfield 43) 3) (zQ pc 28 (.aload_n 0) 1)) (zH pc 30 (zQ pc 29 (.aload_n 0) 1) (zQ pc 30 (.getfield 12) 3))) (zH pc 39 (zH pc 36 (zQ pc 33 (.invokevirtual 47) 3) (zQ pc 36 (.ifCond .eq 5) 3)) (zH pc 40 (zQ pc 39 (.iconst 0) 1) (zQ pc 40 .ireturn 1)))) (zH pc 47 (zH pc 44 (zH pc 42 (zQ pc 41 (.iconst 0) 1) (zQ pc 42 (.istore 4) 2)) (zH pc 46 (zQ pc 44 (.iload 4) 2) (zQ pc 46 (.aload_n 0) 1))) (zH pc 53 (zH pc 50 (zQ pc 47 (.getfield 29) 3) (zQ pc 50 (.getfield 51) 3)) (zH pc 56 (zQ pc 53 (.if_icmp .ge 56) 3) (zQ pc 56 (.aload_n 0) 1)))))) (zH pc 90 (zH pc 73 (zH pc 64 (zH pc 60 (zQ pc 57 (.getfield 21) 3) (zH pc 61 (zQ pc 60 (.iconst (-1)) 1) (zQ pc 61 (.if_icmp .ne 48) 3))) (zH pc 68 (zH pc 65 (zQ pc 64 (.aload_n 0) 1) (zQ pc 65 (.getfield 29) 3)) (zH pc 71 (zQ pc 68 (.getfield 33) 3) (zQ pc 71 (.iload 4) 2)))) (zH pc 81 (zH pc 77 (zH pc 74 (zQ pc 73 .aaload 1) (zQ pc 74 (.invokestatic 54) 3)) (zH pc 80 (zQ pc 77 (.ifCond .eq 26) 3) (zQ pc 80 (.aload_n 0) 1))) (zH pc 85 (zH pc 82 (zQ pc 81 (.aload_n 0) 1) (zQ pc 82 (.getfield 29) 3)) (zH pc 88 (zQ pc 85 (.getfield 33) 3) (zQ pc 88 (.iload 4) 2))))) (zH pc 109 (zH pc 98 (zH pc 94 (zH pc 91 (zQ pc 90 .aaload 1) (zQ pc 91 (.invokevirtual 58) 3)) (zH pc 97 (zQ pc 94 (.ifCond .eq 9) 3) (zQ pc 97 (.aload_n 0) 1))) (zH pc 103 (zH pc 100 (zQ pc 98 (.iload 4) 2) (zQ pc 100 (.putfield 21) 3)) (zH pc 106 (zQ pc 103 (.iinc 4 1) 3) (zQ pc 106 (.goto (-62)) 3)))) (zH pc 117 (zH pc 113 (zH pc 110 (zQ pc 109 (.aload_n 0) 1) (zQ pc 110 (.getfield 21) 3)) (zH pc 114 (zQ pc 113 (.iconst (-1)) 1) (zQ pc 114 (.if_icmp .ne 7) 3))) (zH pc 121 (zH pc 118 (zQ pc 117 (.iconst (-1)) 1) (zQ pc 118 (.goto 4) 3)) (zH pc 122 (zQ pc 121 (.iconst 1) 1) (zQ pc 122 .ireturn 1))))))) else none
def zc_49 (pc : Nat) : Option (Instr × Nat) := bif Nat.blt pc 49 then (zH pc 24 (zH pc 12 (zH pc 5 (zH pc 1 (zQ pc 0 (.aload_n 0) 1) (zH pc 4 (zQ pc 1 (.getfield 61) 3) (zQ pc 4 (.iconst 5) 1))) (zH pc 8 (zQ pc 5 (.if_icmp .eq 12) 3) (zH pc 9 (zQ pc 8 (.aload_n 0) 1) (zQ pc 9 (.getfield 61) 3)))) (zH pc 18 (zH pc 14 (zQ pc 12 (.bipush 6) 2) (zH pc 17 (zQ pc 14 (.if_icmp .ne 7) 3) (zQ pc 17 (.iconst 1) 1))) (zH pc 22 (zH pc 21 (zQ pc 18 (.goto 4) 3) (zQ pc 21 (.iconst 0) 1)) (zH pc 23 (zQ pc 22 (.istore_n 1) 1) (zQ pc 23 (.aload_n 0) 1))))) (zH pc 36 (zH pc 31 (zH pc 27 (zQ pc 24 (.getfield 66) 3) (zH pc 28 (zQ pc 27 (.iconst 1) 1) (zQ pc 28 (.if_icmp .ne 19) 3))) (zH pc 32 (zQ pc 31 (.iload_n 1) 1) (zH pc 35 (zQ pc 32 (.ifCond .eq 15) 3) (zQ pc 35 (.aload_n 0) 1)))) (zH pc 43 (zH pc 39 (zQ pc 36 (.getfield 69) 3) (zH pc 40 (zQ pc 39 (.iconst 5) 1) (zQ pc 40 (.if_icmp .gt 7) 3))) (zH pc 47 (zH pc 44 (zQ pc 43 (.iconst 1) 1) (zQ pc 44 (.goto 4) 3)) (zH pc 48 (zQ pc 47 (.iconst 0) 1) (zQ pc 48 .ireturn 1)))))) else none
def zc_50 (pc : Nat) : Option (Instr × Nat) := bif Nat.blt pc 63 then (zH pc 31 (zH pc 14 (zH pc 8 (zH pc 4 (zH pc 1 (zQ pc 0 (.aload_n 0) 1) (zQ pc 1 (.getfield 18) 3)) (zH pc 5 (zQ pc 4 (.aload_n 1) 1) (zQ pc 5 (.invokevirtual 72) 3))) (zH pc 12 (zH pc 9 (zQ pc 8 (.aload_n 0) 1) (zQ pc 9 (.getfield 29) 3)) (zH pc 13 (zQ pc 12 (.aload_n 1) 1) (zQ pc 13 (.iconst (-1)) 1)))) (zH pc 22 (zH pc 18 (zH pc 17 (zQ pc 14 (.invokevirtual 76) 3) (zQ pc 17 (.aload_n 0) 1)) (zH pc 19 (zQ pc 18 (.iconst 0) 1) (zQ pc 19 (.putfield 43) 3))) (zH pc 24 (zH pc 23 (zQ pc 22 (.aload_n 0) 1) (zQ pc 23 (.aload_n 0) 1)) (zH pc 27 (zQ pc 24 (.getfield 12) 3) (zH pc 30 (zQ pc 27 (.invokevirtual 47) 3) (zQ pc 30 (.istore_n 2) 1)))))) (zH pc 48 (zH pc 37 (zH pc 35 (zH pc 32 (zQ pc 31 (.iload_n 2) 1) (zQ pc 32 (.ifCond .eq 17) 3)) (zH pc 36 (zQ pc 35 (.aload_n 0) 1) (zQ pc 36 (.iconst 1) 1))) (zH pc 41 (zH pc 40 (zQ pc 37 (.putfield 43) 3) (zQ pc 40 (.aload_n 0) 1)) (zH pc 42 (zQ pc 41 (.aload_n 0) 1) (zH pc 45 (zQ pc 42 (.getfield 12) 3) (zQ pc 45 (.invokevirtual 47) 3))))) (zH pc 54 (zH pc 50 (zH pc 49 (zQ pc 48 (.istore_n 2) 1) (zQ pc 49 (.aload_n 0) 1)) (zH pc 53 (zQ pc 50 (.getfield 29) 3) (zQ pc 53 (.aload_n 1) 1))) (zH pc 58 (zH pc 55 (zQ pc 54 (.aload_n 1) 1) (zQ pc 55 (.getfield 80) 3)) (zH pc 61 (zQ pc 58 (.invokevirtual 76) 3) (zH pc 62 (zQ pc 61 (.iload_n 2) 1) (zQ pc 62 .ireturn 1))))))) else none
def zc_51 (pc : Nat) : Option (Instr × Nat) := bif Nat.blt pc 48 then (zH pc 23 (zH pc 10 (zH pc 6 (zH pc 1 (zQ pc 0 (.aload_n 1) 1) (zH pc 4 (zQ pc 1 (.getfield 83) 3) (zQ pc 4 (.bipush 8) 2))) (zH pc 8 (zH pc 7 (zQ pc 6 .imul 1) (zQ pc 7 (.istore_n 2) 1)) (zH pc 9 (zQ pc 8 (.iload_n 2) 1) (zQ pc 9 (.istore_n 3) 1)))) (zH pc 13 (zH pc 11 (zQ pc 10 (.iload_n 3) 1) (zH pc 12 (zQ pc 11 (.iload_n 2) 1) (zQ pc 12 (.aload_n 0) 1))) (zH pc 19 (zH pc 16 (zQ pc 13 (.getfield 25) 3) (zQ pc 16 (.getfield 86) 3)) (zH pc 20 (zQ pc 19 (.aload_n 1) 1) (zQ pc 20 (.getfield 83) 3))))) (zH pc 32 (zH pc 28 (zH pc 24 (zQ pc 23 .iaload 1) (zH pc 25 (zQ pc 24 .iadd 1) (zQ pc 25 (.if_icmp .ge 21) 3))) (zH pc 30 (zH pc 29 (zQ pc 28 (.aload_n 0) 1) (zQ pc 29 (.aload_n 1) 1)) (zH pc 31 (zQ pc 30 (.iload_n 3) 1) (zQ pc 31 (.iconst 0) 1)))) (zH pc 40 (zH pc 38 (zH pc 35 (zQ pc 32 (.invokevirtual 92) 3) (zQ pc 35 (.ifCond .eq 5) 3)) (zH pc 39 (zQ pc 38 (.iconst 1) 1) (zQ pc 39 .ireturn 1))) (zH pc 46 (zH pc 43 (zQ pc 40 (.iinc 3 1) 3) (zQ pc 43 (.goto (-33)) 3)) (zH pc 47 (zQ pc 46 (.iconst 0) 1) (zQ pc 47 .ireturn 1)))))) else none
def zc_52 (pc : Nat) : Option (Instr × Nat) := bif Nat.blt pc 59 then (zH pc 32 (zH pc 16 (zH pc 8 (zH pc 4 (zH pc 1 (zQ pc 0 (.aload_n 0) 1) (zQ pc 1 (.getfield 25) 3)) (zH pc 5 (zQ pc 4 (.iload_n 2) 1) (zQ pc 5 (.invokevirtual 96) 3))) (zH pc 12 (zH pc 11 (zQ pc 8 (.ifCond .eq 14) 3) (zQ pc 11 (.aload_n 0) 1)) (zH pc 15 (zQ pc 12 (.getfield 25) 3) (zQ pc 15 (.iload_n 2) 1)))) (zH pc 24 (zH pc 22 (zH pc 19 (zQ pc 16 (.invokevirtual 100) 3) (zQ pc 19 (.ifCond .eq 5) 3)) (zH pc 23 (zQ pc 22 (.iconst 0) 1) (zQ pc 23 .ireturn 1))) (zH pc 28 (zH pc 25 (zQ pc 24 (.aload_n 0) 1) (zQ pc 25 (.getfield 25) 3)) (zH pc 31 (zQ pc 28 (.getfield 103) 3) (zQ pc 31 (.iload_n 2) 1))))) (zH pc 44 (zH pc 38 (zH pc 36 (zH pc 33 (zQ pc 32 (.aload_n 1) 1) (zQ pc 33 (.getfield 106) 3)) (zH pc 37 (zQ pc 36 .iastore 1) (zQ pc 37 (.aload_n 0) 1))) (zH pc 40 (zH pc 39 (zQ pc 38 (.aload_n 1) 1) (zQ pc 39 (.iload_n 2) 1)) (zH pc 41 (zQ pc 40 (.iload_n 3) 1) (zQ pc 41 (.invokevirtual 109) 3)))) (zH pc 53 (zH pc 47 (zH pc 46 (zQ pc 44 (.istore 4) 2) (zQ pc 46 (.aload_n 0) 1)) (zH pc 50 (zQ pc 47 (.getfield 25) 3) (zQ pc 50 (.getfield 103) 3))) (zH pc 55 (zH pc 54 (zQ pc 53 (.iload_n 2) 1) (zQ pc 54 (.iconst (-1)) 1)) (zH pc 56 (zQ pc 55 .iastore 1) (zH pc 58 (zQ pc 56 (.iload 4) 2) (zQ pc 58 .ireturn 1))))))) else none
def zc_53 (pc : Nat) : Option (Instr × Nat) := bif Nat.blt pc 127 then (zH pc 69 (zH pc 33 (zH pc 16 (zH pc 8 (zH pc 4 (zH pc 1 (zQ pc 0 (.aload_n 0) 1) (zQ pc 1 (.getfield 25) 3)) (zH pc 5 (zQ pc 4 (.iload_n 2) 1) (zQ pc 5 (.invokevirtual 112) 3))) (zH pc 12 (zH pc 11 (zQ pc 8 (.ifCond .eq 25) 3) (zQ pc 11 (.aload_n 1) 1)) (zH pc 13 (zQ pc 12 (.iload_n 3) 1) (zQ pc 13 (.invokevirtual 115) 3)))) (zH pc 24 (zH pc 20 (zH pc 19 (zQ pc 16 (.ifCond .eq 15) 3) (zQ pc 19 (.aload_n 0) 1)) (zH pc 21 (zQ pc 20 (.aload_n 1) 1) (zQ pc 21 (.invokevirtual 118) 3))) (zH pc 28 (zH pc 27 (zQ pc 24 (.ifCond .eq 7) 3) (zQ pc 27 (.iconst 1) 1)) (zH pc 31 (zQ pc 28 (.goto 4) 3) (zH pc 32 (zQ pc 31 (.iconst 0) 1) (zQ pc 32 .ireturn 1)))))) (zH pc 50 (zH pc 41 (zH pc 37 (zH pc 34 (zQ pc 33 (.aload_n 0) 1) (zQ pc 34 (.getfield 25) 3)) (zH pc 38 (zQ pc 37 (.iload_n 2) 1) (zQ pc 38 (.invokevirtual 121) 3))) (zH pc 45 (zH pc 44 (zQ pc 41 (.ifCond .eq 30) 3) (zQ pc 44 (.aload_n 1) 1)) (zH pc 46 (zQ pc 45 (.aload_n 0) 1) (zH pc 49 (zQ pc 46 (.getfield 29) 3) (zQ pc 49 (.iload_n 2) 1))))) (zH pc 58 (zH pc 54 (zH pc 51 (zQ pc 50 (.iload_n 3) 1) (zQ pc 51 (.invokevirtual 124) 3)) (zH pc 57 (zQ pc 54 (.ifCond .eq 15) 3) (zQ pc 57 (.aload_n 0) 1))) (zH pc 62 (zH pc 59 (zQ pc 58 (.aload_n 1) 1) (zQ pc 59 (.invokevirtual 118) 3)) (zH pc 65 (zQ pc 62 (.ifCond .eq 7) 3) (zH pc 66 (zQ pc 65 (.iconst 1) 1) (zQ pc 66 (.goto 4) 3))))))) (zH pc 96 (zH pc 81 (zH pc 73 (zH pc 71 (zH pc 70 (zQ pc 69 (.iconst 0) 1) (zQ pc 70 .ireturn 1)) (zH pc 72 (zQ pc 71 (.iload_n 3) 1) (zQ pc 72 (.aload_n 1) 1))) (zH pc 79 (zH pc 76 (zQ pc 73 (.getfield 128) 3) (zQ pc 76 (.if_icmp .lt 5) 3)) (zH pc 80 (zQ pc 79 (.iconst 0) 1) (zQ pc 80 .ireturn 1)))) (zH pc 87 (zH pc 84 (zH pc 82 (zQ pc 81 (.iconst 0) 1) (zQ pc 82 (.istore 4) 2)) (zH pc 86 (zQ pc 84 (.iload 4) 2) (zQ pc 86 (.iconst 4) 1))) (zH pc 91 (zH pc 90 (zQ pc 87 (.if_icmp .ge 38) 3) (zQ pc 90 (.aload_n 0) 1)) (zH pc 92 (zQ pc 91 (.aload_n 1) 1) (zH pc 93 (zQ pc 92 (.aload_n 0) 1) (zQ pc 93 (.getfield 25) 3)))))) (zH pc 110 (zH pc 102 (zH pc 98 (zH pc 97 (zQ pc 96 (.iload_n 2) 1) (zQ pc 97 (.aload_n 1) 1)) (zH pc 101 (zQ pc 98 (.getfield 131) 3) (zQ pc 101 (.iload_n 3) 1))) (zH pc 105 (zH pc 103 (zQ pc 102 .iaload 1) (zQ pc 103 (.iload 4) 2)) (zH pc 108 (zQ pc 105 (.invokevirtual 134) 3) (zH pc 109 (zQ pc 108 (.iload_n 3) 1) (zQ pc 109 (.iconst 1) 1))))) (zH pc 118 (zH pc 114 (zH pc 111 (zQ pc 110 .iadd 1) (zQ pc 111 (.invokevirtual 92) 3)) (zH pc 117 (zQ pc 114 (.ifCond .eq 5) 3) (zQ pc 117 (.iconst 1) 1))) (zH pc 122 (zH pc 119 (zQ pc 118 .ireturn 1) (zQ pc 119 (.iinc 4 1) 3)) (zH pc 125 (zQ pc 122 (.goto (-38)) 3) (zH pc 126 (zQ pc 125 (.iconst 0) 1) (zQ pc 126 .ireturn 1)))))))) else none
def zc_54 (pc : Nat) : Option (Instr × Nat) := bif Nat.blt pc 32 then (zH pc 16 (zH pc 8 (zH pc 4 (zH pc 1 (zQ pc 0 (.aload_n 0) 1) (zQ pc 1 (.getfield 43) 3)) (zH pc 7 (zQ pc 4 (.ifCond .eq 22) 3) (zQ pc 7 (.aload_n 1) 1))) (zH pc 12 (zH pc 9 (zQ pc 8 (.aload_n 0) 1) (zQ pc 9 (.getfield 18) 3)) (zH pc 15 (zQ pc 12 (.if_acmp .eq 14) 3) (zQ pc 15 (.aload_n 0) 1)))) (zH pc 26 (zH pc 20 (zH pc 17 (zQ pc 16 (.aload_n 0) 1) (zQ pc 17 (.getfield 18) 3)) (zH pc 23 (zQ pc 20 (.invokevirtual 47) 3) (zQ pc 23 (.ifCond .eq 7) 3))) (zH pc 30 (zH pc 27 (zQ pc 26 (.iconst 1) 1) (zQ pc 27 (.goto 4) 3)) (zH pc 31 (zQ pc 30 (.iconst 0) 1) (zQ pc 31 .ireturn 1))))) else none
def zc_55 (pc : Nat) : Option (Instr × Nat) := bif Nat.blt pc 89 then (zH pc 43 (zH pc 17 (zH pc 8 (zH pc 3 (zH pc 2 (zQ pc 0 (.bipush 56) 2) (zQ pc 2 (.istore_n 3) 1)) (zH pc 4 (zQ pc 3 (.iload_n 3) 1) (zH pc 7 (zQ pc 4 (.ifCond .lt 84) 3) (zQ pc 7 (.lload_n 1) 1)))) (zH pc 13 (zH pc 9 (zQ pc 8 (.iload_n 3) 1) (zH pc 10 (zQ pc 9 .lushr 1) (zQ pc 10 (.ldc2_w 15) 3))) (zH pc 14 (zQ pc 13 .land 1) (zH pc 15 (zQ pc 14 .l2i 1) (zQ pc 15 (.istore 4) 2))))) (zH pc 31 (zH pc 24 (zH pc 19 (zQ pc 17 (.iload 4) 2) (zH pc 21 (zQ pc 19 (.bipush 10) 2) (zQ pc 21 (.if_icmp .eq 17) 3))) (zH pc 26 (zQ pc 24 (.iload 4) 2) (zH pc 28 (zQ pc 26 (.bipush 32) 2) (zQ pc 28 (.if_icmp .lt 14) 3)))) (zH pc 38 (zH pc 33 (zQ pc 31 (.iload 4) 2) (zH pc 35 (zQ pc 33 (.bipush 126) 2) (zQ pc 35 (.if_icmp .gt 7) 3))) (zH pc 39 (zQ pc 38 (.iconst 1) 1) (zH pc 42 (zQ pc 39 (.goto 4) 3) (zQ pc 42 (.iconst 0) 1)))))) (zH pc 68 (zH pc 54 (zH pc 47 (zH pc 45 (zQ pc 43 (.istore 5) 2) (zQ pc 45 (.iload 5) 2)) (zH pc 50 (zQ pc 47 (.ifCond .eq 35) 3) (zH pc 51 (zQ pc 50 (.aload_n 0) 1) (zQ pc 51 (.getfield 17) 3)))) (zH pc 61 (zH pc 57 (zQ pc 54 (.sipush 1000) 3) (zH pc 60 (zQ pc 57 (.if_icmp .ge 25) 3) (zQ pc 60 (.aload_n 0) 1))) (zH pc 64 (zQ pc 61 (.getfield 11) 3) (zH pc 65 (zQ pc 64 (.aload_n 0) 1) (zQ pc 65 (.getfield 17) 3))))) (zH pc 77 (zH pc 72 (zH pc 70 (zQ pc 68 (.iload 4) 2) (zH pc 71 (zQ pc 70 .i2c 1) (zQ pc 71 .castore 1))) (zH pc 73 (zQ pc 72 (.aload_n 0) 1) (zH pc 74 (zQ pc 73 .dup 1) (zQ pc 74 (.getfield 17) 3)))) (zH pc 82 (zH pc 78 (zQ pc 77 (.iconst 1) 1) (zH pc 79 (zQ pc 78 .iadd 1) (zQ pc 79 (.putfield 17) 3))) (zH pc 85 (zQ pc 82 (.iinc 3 (-8)) 3) (zH pc 88 (zQ pc 85 (.goto (-82)) 3) (zQ pc 88 .return_ 1))))))) else none
def zc_56 (pc : Nat) : Option (Instr × Nat) := bif Nat.blt pc 15 then (zH pc 6 (zH pc 2 (zH pc 1 (zQ pc 0 (.aload_n 0) 1) (zQ pc 1 (.iconst 0) 1)) (zH pc 5 (zQ pc 2 (.putfield 21) 3) (zQ pc 5 (.aload_n 0) 1))) (zH pc 10 (zH pc 7 (zQ pc 6 (.iconst 0) 1) (zQ pc 7 (.putfield 24) 3)) (zH pc 11 (zQ pc 10 (.aload_n 0) 1) (zH pc 14 (zQ pc 11 (.invokevirtual 27) 3) (zQ pc 14 .return_ 1))))) else none
def zc_57 (pc : Nat) : Option (Instr × Nat) := bif Nat.blt pc 218 then (zH pc 104 (zH pc 54 (zH pc 28 (zH pc 13 (zH pc 5 (zH pc 1 (zQ pc 0 (.aload_n 0) 1) (zH pc 2 (zQ pc 1 .dup 1) (zQ pc 2 (.getfield 21) 3))) (zH pc 9 (zH pc 6 (zQ pc 5 (.aload_n 0) 1) (zQ pc 6 (.getfield 24) 3)) (zH pc 10 (zQ pc 9 .iadd 1) (zQ pc 10 (.putfield 21) 3)))) (zH pc 18 (zH pc 14 (zQ pc 13 (.aload_n 0) 1) (zH pc 17 (zQ pc 14 (.getfield 21) 3) (zQ pc 17 (.aload_n 0) 1))) (zH pc 24 (zH pc 21 (zQ pc 18 (.getfield 17) 3) (zQ pc 21 (.if_icmp .ge 44) 3)) (zH pc 25 (zQ pc 24 (.aload_n 0) 1) (zQ pc 25 (.getfield 11) 3))))) (zH pc 42 (zH pc 33 (zH pc 29 (zQ pc 28 (.aload_n 0) 1) (zH pc 32 (zQ pc 29 (.getfield 21) 3) (zQ pc 32 .caload 1))) (zH pc 38 (zH pc 35 (zQ pc 33 (.bipush 32) 2) (zQ pc 35 (.if_icmp .eq 17) 3)) (zH pc 39 (zQ pc 38 (.aload_n 0) 1) (zQ pc 39 (.getfield 11) 3)))) (zH pc 47 (zH pc 43 (zQ pc 42 (.aload_n 0) 1) (zH pc 46 (zQ pc 43 (.getfield 21) 3) (zQ pc 46 .caload 1))) (zH pc 52 (zH pc 49 (zQ pc 47 (.bipush 10) 2) (zQ pc 49 (.if_icmp .ne 16) 3)) (zH pc 53 (zQ pc 52 (.aload_n 0) 1) (zQ pc 53 .dup 1)))))) (zH pc 80 (zH pc 67 (zH pc 59 (zH pc 57 (zQ pc 54 (.getfield 21) 3) (zH pc 58 (zQ pc 57 (.iconst 1) 1) (zQ pc 58 .iadd 1))) (zH pc 65 (zH pc 62 (zQ pc 59 (.putfield 21) 3) (zQ pc 62 (.goto (-49)) 3)) (zH pc 66 (zQ pc 65 (.aload_n 0) 1) (zQ pc 66 (.aload_n 0) 1)))) (zH pc 74 (zH pc 70 (zQ pc 67 (.getfield 21) 3) (zH pc 72 (zQ pc 70 (.bipush 97) 2) (zQ pc 72 (.bipush 122) 2))) (zH pc 78 (zH pc 77 (zQ pc 74 (.invokevirtual 30) 3) (zQ pc 77 (.istore_n 1) 1)) (zH pc 79 (zQ pc 78 (.aload_n 0) 1) (zQ pc 79 (.aload_n 0) 1))))) (zH pc 93 (zH pc 87 (zH pc 83 (zQ pc 80 (.getfield 21) 3) (zH pc 85 (zQ pc 83 (.bipush 48) 2) (zQ pc 85 (.bipush 57) 2))) (zH pc 91 (zH pc 90 (zQ pc 87 (.invokevirtual 30) 3) (zQ pc 90 (.istore_n 2) 1)) (zH pc 92 (zQ pc 91 (.aload_n 0) 1) (zQ pc 92 (.iconst 1) 1)))) (zH pc 96 (zH pc 94 (zQ pc 93 (.iload_n 1) 1) (zH pc 95 (zQ pc 94 (.iload_n 2) 1) (zQ pc 95 .iadd 1))) (zH pc 102 (zH pc 99 (zQ pc 96 (.invokestatic 34) 3) (zQ pc 99 (.putfield 24) 3)) (zH pc 103 (zQ pc 102 (.aload_n 0) 1) (zQ pc 103 (.iload_n 1) 1))))))) (zH pc 160 (zH pc 135 (zH pc 120 (zH pc 110 (zH pc 107 (zQ pc 104 (.ifCond .le 16) 3) (zH pc 108 (zQ pc 107 (.iload_n 1) 1) (zQ pc 108 (.bipush 8) 2))) (zH pc 114 (zH pc 113 (zQ pc 110 (.if_icmp .gt 10) 3) (zQ pc 113 (.aload_n 0) 1)) (zH pc 117 (zQ pc 114 (.invokevirtual 40) 3) (zQ pc 117 (.goto 4) 3)))) (zH pc 125 (zH pc 121 (zQ pc 120 .aconst_null 1) (zH pc 124 (zQ pc 121 (.putfield 44) 3) (zQ pc 124 (.aload_n 0) 1))) (zH pc 129 (zH pc 128 (zQ pc 125 (.getfield 21) 3) (zQ pc 128 (.aload_n 0) 1)) (zH pc 132 (zQ pc 129 (.getfield 17) 3) (zQ pc 132 (.if_icmp .lt 16) 3))))) (zH pc 148 (zH pc 140 (zH pc 136 (zQ pc 135 (.aload_n 0) 1) (zH pc 137 (zQ pc 136 (.iconst 0) 1) (zQ pc 137 (.putfield 48) 3))) (zH pc 142 (zH pc 141 (zQ pc 140 (.aload_n 0) 1) (zQ pc 141 (.iconst 0) 1)) (zH pc 145 (zQ pc 142 (.putfield 24) 3) (zQ pc 145 (.goto 72) 3)))) (zH pc 153 (zH pc 149 (zQ pc 148 (.iload_n 1) 1) (zH pc 152 (zQ pc 149 (.ifCond .le 21) 3) (zQ pc 152 (.aload_n 0) 1))) (zH pc 156 (zH pc 154 (zQ pc 153 (.iload_n 1) 1) (zQ pc 154 (.bipush 8) 2)) (zH pc 159 (zQ pc 156 (.if_icmp .gt 7) 3) (zQ pc 159 (.iconst 1) 1)))))) (zH pc 188 (zH pc 175 (zH pc 167 (zH pc 163 (zQ pc 160 (.goto 4) 3) (zH pc 164 (zQ pc 163 (.iconst 4) 1) (zQ pc 164 (.putfield 48) 3))) (zH pc 171 (zH pc 170 (zQ pc 167 (.goto 50) 3) (zQ pc 170 (.iload_n 2) 1)) (zH pc 174 (zQ pc 171 (.ifCond .le 20) 3) (zQ pc 174 (.aload_n 0) 1)))) (zH pc 180 (zH pc 176 (zQ pc 175 (.iload_n 2) 1) (zH pc 177 (zQ pc 176 (.iconst 4) 1) (zQ pc 177 (.if_icmp .gt 7) 3))) (zH pc 184 (zH pc 181 (zQ pc 180 (.iconst 2) 1) (zQ pc 181 (.goto 4) 3)) (zH pc 185 (zQ pc 184 (.iconst 4) 1) (zQ pc 185 (.putfield 48) 3))))) (zH pc 202 (zH pc 194 (zH pc 191 (zQ pc 188 (.goto 29) 3) (zH pc 192 (zQ pc 191 (.aload_n 0) 1) (zQ pc 192 (.ldc 51) 2))) (zH pc 198 (zH pc 195 (zQ pc 194 (.aload_n 0) 1) (zQ pc 195 (.getfield 11) 3)) (zH pc 199 (zQ pc 198 (.aload_n 0) 1) (zQ pc 199 (.getfield 21) 3)))) (zH pc 210 (zH pc 206 (zH pc 203 (zQ pc 202 .caload 1) (zQ pc 203 (.invokevirtual 53) 3)) (zH pc 209 (zQ pc 206 (.ifCond .lt 7) 3) (zQ pc 209 (.iconst 3) 1))) (zH pc 214 (zH pc 213 (zQ pc 210 (.goto 4) 3) (zQ pc 213 (.iconst 4) 1)) (zH pc 217 (zQ pc 214 (.putfield 48) 3) (zQ pc 217 .return_ 1)))))))) else none
def zc_58 (pc : Nat) : Option (Instr × Nat) := bif Nat.blt pc 45 then (zH pc 23 (zH pc 12 (zH pc 5 (zH pc 1 (zQ pc 0 (.iload_n 1) 1) (zH pc 3 (zQ pc 1 (.istore 4) 2) (zQ pc 3 (.iload 4) 2))) (zH pc 6 (zQ pc 5 (.aload_n 0) 1) (zH pc 9 (zQ pc 6 (.getfield 17) 3) (zQ pc 9 (.if_icmp .ge 31) 3)))) (zH pc 18 (zH pc 13 (zQ pc 12 (.aload_n 0) 1) (zH pc 16 (zQ pc 13 (.getfield 11) 3) (zQ pc 16 (.iload 4) 2))) (zH pc 19 (zQ pc 18 .caload 1) (zH pc 20 (zQ pc 19 (.iload_n 2) 1) (zQ pc 20 (.if_icmp .lt 20) 3))))) (zH pc 34 (zH pc 29 (zH pc 24 (zQ pc 23 (.aload_n 0) 1) (zH pc 27 (zQ pc 24 (.getfield 11) 3) (zQ pc 27 (.iload 4) 2))) (zH pc 30 (zQ pc 29 .caload 1) (zH pc 31 (zQ pc 30 (.iload_n 3) 1) (zQ pc 31 (.if_icmp .gt 9) 3)))) (zH pc 42 (zH pc 37 (zQ pc 34 (.iinc 4 1) 3) (zH pc 40 (zQ pc 37 (.goto (-34)) 3) (zQ pc 40 (.iload 4) 2))) (zH pc 43 (zQ pc 42 (.iload_n 1) 1) (zH pc 44 (zQ pc 43 .isub 1) (zQ pc 44 .ireturn 1)))))) else none
def zc_59 (pc : Nat) : Option (Instr × Nat) := bif Nat.blt pc 13 then (zH pc 7 (zH pc 1 (zQ pc 0 (.aload_n 0) 1) (zH pc 4 (zQ pc 1 (.getfield 48) 3) (zQ pc 4 (.ifCond .ne 7) 3))) (zH pc 11 (zH pc 8 (zQ pc 7 (.iconst 1) 1) (zQ pc 8 (.goto 4) 3)) (zH pc 12 (zQ pc 11 (.iconst 0) 1) (zQ pc 12 .ireturn 1)))) else none
def zc_60 (pc : Nat) : Option (Instr × Nat) := bif Nat.blt pc 14 then (zH pc 8 (zH pc 4 (zH pc 1 (zQ pc 0 (.aload_n 0) 1) (zQ pc 1 (.getfield 48) 3)) (zH pc 5 (zQ pc 4 (.iconst 2) 1) (zQ pc 5 (.if_icmp .ne 7) 3))) (zH pc 12 (zH pc 9 (zQ pc 8 (.iconst 1) 1) (zQ pc 9 (.goto 4) 3)) (zH pc 13 (zQ pc 12 (.iconst 0) 1) (zQ pc 13 .ireturn 1)))) else none
def zc_61 (pc : Nat) : Option (Instr × Nat) := bif Nat.blt pc 27 then (zH pc 13 (zH pc 5 (zH pc 1 (zQ pc 0 (.aload_n 0) 1) (zH pc 4 (zQ pc 1 (.getfield 48) 3) (zQ pc 4 (.iconst 3) 1))) (zH pc 9 (zH pc 8 (zQ pc 5 (.if_icmp .ne 20) 3) (zQ pc 8 (.aload_n 0) 1)) (zH pc 12 (zQ pc 9 (.getfield 11) 3) (zQ pc 12 (.aload_n 0) 1)))) (zH pc 21 (zH pc 17 (zH pc 16 (zQ pc 13 (.getfield 21) 3) (zQ pc 16 .caload 1)) (zH pc 18 (zQ pc 17 (.iload_n 1) 1) (zQ pc 18 (.if_icmp .ne 7) 3))) (zH pc 25 (zH pc 22 (zQ pc 21 (.iconst 1) 1) (zQ pc 22 (.goto 4) 3)) (zH pc 26 (zQ pc 25 (.iconst 0) 1) (zQ pc 26 .ireturn 1))))) else none
def zc_62 (pc : Nat) : Option (Instr × Nat) := bif Nat.blt pc 14 then (zH pc 8 (zH pc 4 (zH pc 1 (zQ pc 0 (.aload_n 0) 1) (zQ pc 1 (.getfield 44) 3)) (zH pc 5 (zQ pc 4 (.aload_n 1) 1) (zQ pc 5 (.if_acmp .ne 7) 3))) (zH pc 12 (zH pc 9 (zQ pc 8 (.iconst 1) 1) (zQ pc 9 (.goto 4) 3)) (zH pc 13 (zQ pc 12 (.iconst 0) 1) (zQ pc 13 .ireturn 1)))) else none
def zc_63 (pc : Nat) : Option (Instr × Nat) := bif Nat.blt pc 21 then (zH pc 9 (zH pc 4 (zH pc 1 (zQ pc 0 (.aload_n 0) 1) (zQ pc 1 (.getfield 48) 3)) (zH pc 5 (zQ pc 4 (.iconst 1) 1) (zH pc 8 (zQ pc 5 (.if_icmp .ne 14) 3) (zQ pc 8 (.aload_n 0) 1)))) (zH pc 16 (zH pc 12 (zQ pc 9 (.getfield 44) 3) (zH pc 15 (zQ pc 12 (.ifnonnull 7) 3) (zQ pc 15 (.iconst 1) 1))) (zH pc 19 (zQ pc 16 (.goto 4) 3) (zH pc 20 (zQ pc 19 (.iconst 0) 1) (zQ pc 20 .ireturn 1))))) else none
def zc_64 (pc : Nat) : Option (Instr × Nat) := bif Nat.blt pc 19 then (zH pc 8 (zH pc 4 (zH pc 1 (zQ pc 0 (.aload_n 0) 1) (zQ pc 1 (.getfield 44) 3)) (zH pc 7 (zQ pc 4 (.ifnonnull 7) 3) (zQ pc 7 (.iconst (-1)) 1))) (zH pc 12 (zH pc 11 (zQ pc 8 (.goto 10) 3) (zQ pc 11 (.aload_n 0) 1)) (zH pc 15 (zQ pc 12 (.getfield 44) 3) (zH pc 18 (zQ pc 15 (.getfield 59) 3) (zQ pc 18 .ireturn 1))))) else none
def zc_65 (pc : Nat) : Option (Instr × Nat) := bif Nat.blt pc 110 then (zH pc 47 (zH pc 17 (zH pc 8 (zH pc 5 (zH pc 3 (zQ pc 0 (.getstatic 64) 3) (zH pc 4 (zQ pc 3 (.astore_n 1) 1) (zQ pc 4 (.aload_n 1) 1))) (zH pc 6 (zQ pc 5 .arraylength 1) (zH pc 7 (zQ pc 6 (.istore_n 2) 1) (zQ pc 7 (.iconst 0) 1)))) (zH pc 11 (zH pc 9 (zQ pc 8 (.istore_n 3) 1) (zH pc 10 (zQ pc 9 (.iload_n 3) 1) (zQ pc 10 (.iload_n 2) 1))) (zH pc 15 (zH pc 14 (zQ pc 11 (.if_icmp .ge 97) 3) (zQ pc 14 (.aload_n 1) 1)) (zH pc 16 (zQ pc 15 (.iload_n 3) 1) (zQ pc 16 .aaload 1))))) (zH pc 31 (zH pc 22 (zH pc 19 (zQ pc 17 (.astore 4) 2) (zH pc 20 (zQ pc 19 (.iconst 0) 1) (zQ pc 20 (.istore 5) 2))) (zH pc 26 (zH pc 23 (zQ pc 22 (.aload_n 0) 1) (zQ pc 23 (.getfield 24) 3)) (zH pc 28 (zQ pc 26 (.aload 4) 2) (zQ pc 28 (.getfield 68) 3)))) (zH pc 39 (zH pc 34 (zQ pc 31 (.invokevirtual 72) 3) (zH pc 37 (zQ pc 34 (.invokestatic 75) 3) (zQ pc 37 (.istore 6) 2))) (zH pc 43 (zH pc 41 (zQ pc 39 (.iload 5) 2) (zQ pc 41 (.iload 6) 2)) (zH pc 46 (zQ pc 43 (.if_icmp .ge 34) 3) (zQ pc 46 (.aload_n 0) 1)))))) (zH pc 79 (zH pc 60 (zH pc 54 (zH pc 50 (zQ pc 47 (.getfield 11) 3) (zH pc 51 (zQ pc 50 (.aload_n 0) 1) (zQ pc 51 (.getfield 21) 3))) (zH pc 57 (zH pc 56 (zQ pc 54 (.iload 5) 2) (zQ pc 56 .iadd 1)) (zH pc 58 (zQ pc 57 .caload 1) (zQ pc 58 (.aload 4) 2)))) (zH pc 68 (zH pc 63 (zQ pc 60 (.getfield 68) 3) (zH pc 65 (zQ pc 63 (.iload 5) 2) (zQ pc 65 (.invokevirtual 78) 3))) (zH pc 74 (zH pc 71 (zQ pc 68 (.if_icmp .ne 9) 3) (zQ pc 71 (.iinc 5 1) 3)) (zH pc 77 (zQ pc 74 (.goto (-35)) 3) (zQ pc 77 (.iload 5) 2))))) (zH pc 96 (zH pc 86 (zH pc 80 (zQ pc 79 (.aload_n 0) 1) (zH pc 83 (zQ pc 80 (.getfield 24) 3) (zQ pc 83 (.if_icmp .ne 19) 3))) (zH pc 90 (zH pc 88 (zQ pc 86 (.iload 5) 2) (zQ pc 88 (.aload 4) 2)) (zH pc 93 (zQ pc 90 (.getfield 68) 3) (zQ pc 93 (.invokevirtual 72) 3)))) (zH pc 102 (zH pc 99 (zQ pc 96 (.if_icmp .ne 6) 3) (zH pc 101 (zQ pc 99 (.aload 4) 2) (zQ pc 101 .areturn 1))) (zH pc 108 (zH pc 105 (zQ pc 102 (.iinc 3 1) 3) (zQ pc 105 (.goto (-96)) 3)) (zH pc 109 (zQ pc 108 .aconst_null 1) (zQ pc 109 .areturn 1))))))) else none
def zc_66 (pc : Nat) : Option (Instr × Nat) := bif Nat.blt pc 40 then (zH pc 20 (zH pc 6 (zH pc 3 (zH pc 1 (zQ pc 0 (.iconst 0) 1) (zH pc 2 (zQ pc 1 (.istore_n 1) 1) (zQ pc 2 (.iconst 0) 1))) (zH pc 4 (zQ pc 3 (.istore_n 2) 1) (zH pc 5 (zQ pc 4 (.iload_n 2) 1) (zQ pc 5 (.aload_n 0) 1)))) (zH pc 13 (zH pc 9 (zQ pc 6 (.getfield 24) 3) (zH pc 12 (zQ pc 9 (.if_icmp .ge 29) 3) (zQ pc 12 (.iload_n 1) 1))) (zH pc 16 (zH pc 15 (zQ pc 13 (.bipush 10) 2) (zQ pc 15 .imul 1)) (zH pc 17 (zQ pc 16 (.aload_n 0) 1) (zQ pc 17 (.getfield 11) 3))))) (zH pc 29 (zH pc 25 (zH pc 21 (zQ pc 20 (.aload_n 0) 1) (zH pc 24 (zQ pc 21 (.getfield 21) 3) (zQ pc 24 (.iload_n 2) 1))) (zH pc 26 (zQ pc 25 .iadd 1) (zH pc 27 (zQ pc 26 .caload 1) (zQ pc 27 (.bipush 48) 2)))) (zH pc 32 (zH pc 30 (zQ pc 29 .isub 1) (zH pc 31 (zQ pc 30 .iadd 1) (zQ pc 31 (.istore_n 1) 1))) (zH pc 38 (zH pc 35 (zQ pc 32 (.iinc 2 1) 3) (zQ pc 35 (.goto (-31)) 3)) (zH pc 39 (zQ pc 38 (.iload_n 1) 1) (zQ pc 39 .ireturn 1)))))) else none
def zc_67 (pc : Nat) : Option (Instr × Nat) := bif Nat.blt pc 44 then (zH pc 22 (zH pc 9 (zH pc 3 (zH pc 1 (zQ pc 0 (.lconst 0) 1) (zH pc 2 (zQ pc 1 (.lstore_n 1) 1) (zQ pc 2 (.iconst 0) 1))) (zH pc 5 (zH pc 4 (zQ pc 3 (.istore_n 3) 1) (zQ pc 4 (.iload_n 3) 1)) (zH pc 6 (zQ pc 5 (.aload_n 0) 1) (zQ pc 6 (.getfield 24) 3)))) (zH pc 16 (zH pc 12 (zQ pc 9 (.if_icmp .ge 33) 3) (zH pc 13 (zQ pc 12 (.lload_n 1) 1) (zQ pc 13 (.ldc2_w 82) 3))) (zH pc 18 (zH pc 17 (zQ pc 16 .lmul 1) (zQ pc 17 (.aload_n 0) 1)) (zH pc 21 (zQ pc 18 (.getfield 11) 3) (zQ pc 21 (.aload_n 0) 1))))) (zH pc 32 (zH pc 27 (zH pc 25 (zQ pc 22 (.getfield 21) 3) (zH pc 26 (zQ pc 25 (.iload_n 3) 1) (zQ pc 26 .iadd 1))) (zH pc 30 (zH pc 28 (zQ pc 27 .caload 1) (zQ pc 28 (.bipush 97) 2)) (zH pc 31 (zQ pc 30 .isub 1) (zQ pc 31 (.iconst 1) 1)))) (zH pc 36 (zH pc 34 (zH pc 33 (zQ pc 32 .iadd 1) (zQ pc 33 .i2l 1)) (zH pc 35 (zQ pc 34 .ladd 1) (zQ pc 35 (.lstore_n 1) 1))) (zH pc 42 (zH pc 39 (zQ pc 36 (.iinc 3 1) 3) (zQ pc 39 (.goto (-35)) 3)) (zH pc 43 (zQ pc 42 (.lload_n 1) 1) (zQ pc 43 .lreturn 1)))))) else none
def zc_68 (pc : Nat) : Option (Instr × Nat) := bif Nat.blt pc 134 then (zH pc 63 (zH pc 29 (zH pc 12 (zH pc 6 (zH pc 2 (zH pc 1 (zQ pc 0 (.aload_n 0) 1) (zQ pc 1 (.iconst 0) 1)) (zH pc 5 (zQ pc 2 (.putfield 43) 3) (zQ pc 5 (.aload_n 0) 1))) (zH pc 10 (zH pc 7 (zQ pc 6 (.iconst 0) 1) (zQ pc 7 (.putfield 47) 3)) (zH pc 11 (zQ pc 10 (.aload_n 0) 1) (zQ pc 11 (.iconst 0) 1)))) (zH pc 20 (zH pc 16 (zH pc 15 (zQ pc 12 (.putfield 50) 3) (zQ pc 15 (.aload_n 0) 1)) (zH pc 17 (zQ pc 16 (.iconst 0) 1) (zQ pc 17 (.putfield 53) 3))) (zH pc 24 (zH pc 21 (zQ pc 20 (.aload_n 0) 1) (zQ pc 21 (.getfield 39) 3)) (zH pc 27 (zQ pc 24 (.invokevirtual 56) 3) (zH pc 28 (zQ pc 27 (.iconst 1) 1) (zQ pc 28 (.istore_n 1) 1)))))) (zH pc 42 (zH pc 34 (zH pc 31 (zH pc 30 (zQ pc 29 (.iconst 0) 1) (zQ pc 30 (.istore_n 2) 1)) (zH pc 32 (zQ pc 31 (.iload_n 2) 1) (zQ pc 32 (.bipush 16) 2))) (zH pc 38 (zH pc 37 (zQ pc 34 (.if_icmp .gt 95) 3) (zQ pc 37 (.iload_n 1) 1)) (zH pc 41 (zQ pc 38 (.ifCond .eq 91) 3) (zQ pc 41 (.aload_n 0) 1)))) (zH pc 52 (zH pc 48 (zH pc 45 (zQ pc 42 (.getfield 39) 3) (zQ pc 45 (.invokevirtual 59) 3)) (zH pc 51 (zQ pc 48 (.ifCond .ne 81) 3) (zQ pc 51 (.aload_n 0) 1))) (zH pc 58 (zH pc 55 (zQ pc 52 (.getfield 39) 3) (zQ pc 55 (.getstatic 63) 3)) (zH pc 61 (zQ pc 58 (.invokevirtual 69) 3) (zH pc 62 (zQ pc 61 (.istore_n 3) 1) (zQ pc 62 (.aload_n 0) 1))))))) (zH pc 100 (zH pc 83 (zH pc 73 (zH pc 69 (zH pc 66 (zQ pc 63 (.invokevirtual 73) 3) (zQ pc 66 (.ifCond .eq 28) 3)) (zH pc 70 (zQ pc 69 (.iload_n 3) 1) (zQ pc 70 (.ifCond .eq 13) 3))) (zH pc 77 (zH pc 74 (zQ pc 73 (.aload_n 0) 1) (zQ pc 74 (.invokevirtual 76) 3)) (zH pc 80 (zQ pc 77 (.ifCond .eq 17) 3) (zQ pc 80 (.goto 10) 3)))) (zH pc 91 (zH pc 87 (zH pc 84 (zQ pc 83 (.aload_n 0) 1) (zQ pc 84 (.invokevirtual 79) 3)) (zH pc 90 (zQ pc 87 (.ifCond .eq 7) 3) (zQ pc 90 (.iconst 1) 1))) (zH pc 95 (zH pc 94 (zQ pc 91 (.goto 4) 3) (zQ pc 94 (.iconst 0) 1)) (zH pc 96 (zQ pc 95 (.istore_n 1) 1) (zH pc 97 (zQ pc 96 (.iload_n 1) 1) (zQ pc 97 (.ifCond .eq 26) 3)))))) (zH pc 115 (zH pc 108 (zH pc 104 (zH pc 101 (zQ pc 100 (.aload_n 0) 1) (zQ pc 101 (.getfield 18) 3)) (zH pc 105 (zQ pc 104 (.aload_n 0) 1) (zQ pc 105 (.getfield 47) 3))) (zH pc 112 (zH pc 109 (zQ pc 108 (.aload_n 0) 1) (zQ pc 109 (.getfield 53) 3)) (zH pc 113 (zQ pc 112 .iastore 1) (zH pc 114 (zQ pc 113 (.aload_n 0) 1) (zQ pc 114 .dup 1))))) (zH pc 123 (zH pc 119 (zH pc 118 (zQ pc 115 (.getfield 47) 3) (zQ pc 118 (.iconst 1) 1)) (zH pc 120 (zQ pc 119 .iadd 1) (zQ pc 120 (.putfield 47) 3))) (zH pc 129 (zH pc 126 (zQ pc 123 (.iinc 2 1) 3) (zQ pc 126 (.goto (-95)) 3)) (zH pc 130 (zQ pc 129 (.aload_n 0) 1) (zH pc 133 (zQ pc 130 (.getfield 43) 3) (zQ pc 133 .ireturn 1)))))))) else none
def zc_69 (pc : Nat) : Option (Instr × Nat) := bif Nat.blt pc 56 then (zH pc 31 (zH pc 14 (zH pc 7 (zH pc 1 (zQ pc 0 (.aload_n 0) 1) (zH pc 4 (zQ pc 1 (.getfield 39) 3) (zQ pc 4 (.getstatic 63) 3))) (zH pc 10 (zQ pc 7 (.invokevirtual 69) 3) (zH pc 13 (zQ pc 10 (.ifCond .ne 22) 3) (zQ pc 13 (.aload_n 0) 1)))) (zH pc 23 (zH pc 17 (zQ pc 14 (.getfield 39) 3) (zH pc 20 (zQ pc 17 (.getstatic 82) 3) (zQ pc 20 (.invokevirtual 69) 3))) (zH pc 27 (zH pc 26 (zQ pc 23 (.ifCond .ne 9) 3) (zQ pc 26 (.aload_n 0) 1)) (zH pc 28 (zQ pc 27 (.iconst 1) 1) (zQ pc 28 (.invokevirtual 85) 3))))) (zH pc 43 (zH pc 36 (zH pc 32 (zQ pc 31 .ireturn 1) (zH pc 33 (zQ pc 32 (.aload_n 0) 1) (zQ pc 33 (.getfield 47) 3))) (zH pc 41 (zH pc 38 (zQ pc 36 (.bipush 16) 2) (zQ pc 38 (.if_icmp .ne 9) 3)) (zH pc 42 (zQ pc 41 (.aload_n 0) 1) (zQ pc 42 (.iconst 5) 1)))) (zH pc 48 (zH pc 46 (zQ pc 43 (.invokevirtual 85) 3) (zH pc 47 (zQ pc 46 .ireturn 1) (zQ pc 47 (.aload_n 0) 1))) (zH pc 54 (zH pc 51 (zQ pc 48 (.getfield 39) 3) (zQ pc 51 (.invokevirtual 89) 3)) (zH pc 55 (zQ pc 54 (.iconst 1) 1) (zQ pc 55 .ireturn 1)))))) else none
def zc_70 (pc : Nat) : Option (Instr × Nat) := bif Nat.blt pc 122 then (zH pc 62 (zH pc 30 (zH pc 16 (zH pc 10 (zH pc 4 (zH pc 1 (zQ pc 0 (.aload_n 0) 1) (zQ pc 1 (.getfield 39) 3)) (zH pc 7 (zQ pc 4 (.invokevirtual 92) 3) (zQ pc 7 (.ifCond .ne 9) 3))) (zH pc 12 (zH pc 11 (zQ pc 10 (.aload_n 0) 1) (zQ pc 11 (.iconst 1) 1)) (zH pc 15 (zQ pc 12 (.invokevirtual 85) 3) (zQ pc 15 .ireturn 1)))) (zH pc 24 (zH pc 20 (zH pc 17 (zQ pc 16 (.aload_n 0) 1) (zQ pc 17 (.getfield 39) 3)) (zH pc 23 (zQ pc 20 (.invokevirtual 95) 3) (zQ pc 23 (.lstore_n 1) 1))) (zH pc 26 (zH pc 25 (zQ pc 24 (.aload_n 0) 1) (zQ pc 25 (.lload_n 1) 1)) (zH pc 29 (zQ pc 26 (.invokevirtual 99) 3) (zQ pc 29 (.iconst (-1)) 1))))) (zH pc 45 (zH pc 38 (zH pc 34 (zH pc 33 (zQ pc 30 (.if_icmp .eq 9) 3) (zQ pc 33 (.aload_n 0) 1)) (zH pc 35 (zQ pc 34 (.iconst 3) 1) (zQ pc 35 (.invokevirtual 85) 3))) (zH pc 40 (zH pc 39 (zQ pc 38 .ireturn 1) (zQ pc 39 (.aload_n 0) 1)) (zH pc 43 (zQ pc 40 (.getfield 50) 3) (zQ pc 43 (.bipush 6) 2)))) (zH pc 53 (zH pc 49 (zH pc 48 (zQ pc 45 (.if_icmp .ne 9) 3) (zQ pc 48 (.aload_n 0) 1)) (zH pc 50 (zQ pc 49 (.iconst 5) 1) (zQ pc 50 (.invokevirtual 85) 3))) (zH pc 55 (zH pc 54 (zQ pc 53 .ireturn 1) (zQ pc 54 (.aload_n 0) 1)) (zH pc 58 (zQ pc 55 (.getfield 39) 3) (zH pc 61 (zQ pc 58 (.invokevirtual 89) 3) (zQ pc 61 (.aload_n 0) 1))))))) (zH pc 95 (zH pc 77 (zH pc 70 (zH pc 66 (zH pc 65 (zQ pc 62 (.getfield 11) 3) (zQ pc 65 (.aload_n 0) 1)) (zH pc 69 (zQ pc 66 (.getfield 47) 3) (zQ pc 69 (.iconst (-1)) 1))) (zH pc 72 (zH pc 71 (zQ pc 70 .iastore 1) (zQ pc 71 (.aload_n 0) 1)) (zH pc 74 (zQ pc 72 (.bipush 61) 2) (zQ pc 74 (.invokevirtual 103) 3)))) (zH pc 83 (zH pc 81 (zH pc 80 (zQ pc 77 (.ifCond .eq 21) 3) (zQ pc 80 (.aload_n 0) 1)) (zH pc 82 (zQ pc 81 (.iconst 0) 1) (zQ pc 82 (.iconst 0) 1))) (zH pc 89 (zH pc 86 (zQ pc 83 (.invokevirtual 107) 3) (zQ pc 86 (.ifCond .eq 12) 3)) (zH pc 90 (zQ pc 89 (.aload_n 0) 1) (zH pc 92 (zQ pc 90 (.bipush 59) 2) (zQ pc 92 (.invokevirtual 103) 3)))))) (zH pc 109 (zH pc 101 (zH pc 99 (zH pc 98 (zQ pc 95 (.ifCond .ne 5) 3) (zQ pc 98 (.iconst 0) 1)) (zH pc 100 (zQ pc 99 .ireturn 1) (zQ pc 100 (.aload_n 0) 1))) (zH pc 105 (zH pc 104 (zQ pc 101 (.getfield 26) 3) (zQ pc 104 (.aload_n 0) 1)) (zH pc 108 (zQ pc 105 (.getfield 50) 3) (zQ pc 108 (.lload_n 1) 1)))) (zH pc 115 (zH pc 111 (zH pc 110 (zQ pc 109 .lastore 1) (zQ pc 110 (.aload_n 0) 1)) (zH pc 112 (zQ pc 111 .dup 1) (zQ pc 112 (.getfield 50) 3))) (zH pc 117 (zH pc 116 (zQ pc 115 (.iconst 1) 1) (zQ pc 116 .iadd 1)) (zH pc 120 (zQ pc 117 (.putfield 50) 3) (zH pc 121 (zQ pc 120 (.iconst 1) 1) (zQ pc 121 .ireturn 1)))))))) else none
def zc_71 (pc : Nat) : Option (Instr × Nat) := bif Nat.blt pc 116 then (zH pc 58 (zH pc 27 (zH pc 12 (zH pc 4 (zH pc 1 (zQ pc 0 (.aload_n 0) 1) (zH pc 2 (zQ pc 1 (.iconst 0) 1) (zQ pc 2 (.bipush 99) 2))) (zH pc 10 (zH pc 7 (zQ pc 4 (.invokevirtual 111) 3) (zQ pc 7 (.ifCond .ne 5) 3)) (zH pc 11 (zQ pc 10 (.iconst 0) 1) (zQ pc 11 .ireturn 1)))) (zH pc 17 (zH pc 13 (zQ pc 12 (.aload_n 0) 1) (zH pc 16 (zQ pc 13 (.getfield 11) 3) (zQ pc 16 (.aload_n 0) 1))) (zH pc 21 (zH pc 20 (zQ pc 17 (.getfield 47) 3) (zQ pc 20 (.aload_n 0) 1)) (zH pc 24 (zQ pc 21 (.getfield 39) 3) (zQ pc 24 (.invokevirtual 114) 3))))) (zH pc 42 (zH pc 32 (zH pc 28 (zQ pc 27 .iastore 1) (zH pc 29 (zQ pc 28 (.aload_n 0) 1) (zQ pc 29 (.getfield 39) 3))) (zH pc 36 (zH pc 35 (zQ pc 32 (.invokevirtual 89) 3) (zQ pc 35 (.aload_n 0) 1)) (zH pc 39 (zQ pc 36 (.getstatic 118) 3) (zQ pc 39 (.invokevirtual 121) 3)))) (zH pc 48 (zH pc 45 (zQ pc 42 (.ifCond .eq 15) 3) (zH pc 46 (zQ pc 45 (.aload_n 0) 1) (zQ pc 46 (.bipush 30) 2))) (zH pc 54 (zH pc 51 (zQ pc 48 (.sipush 9999) 3) (zQ pc 51 (.invokevirtual 111) 3)) (zH pc 57 (zQ pc 54 (.ifCond .ne 5) 3) (zQ pc 57 (.iconst 0) 1)))))) (zH pc 86 (zH pc 71 (zH pc 63 (zH pc 59 (zQ pc 58 .ireturn 1) (zH pc 60 (zQ pc 59 (.aload_n 0) 1) (zQ pc 60 (.getfield 15) 3))) (zH pc 67 (zH pc 64 (zQ pc 63 (.aload_n 0) 1) (zQ pc 64 (.getfield 47) 3)) (zH pc 68 (zQ pc 67 (.aload_n 0) 1) (zQ pc 68 (.getfield 39) 3)))) (zH pc 76 (zH pc 74 (zQ pc 71 (.invokevirtual 114) 3) (zH pc 75 (zQ pc 74 .iastore 1) (zQ pc 75 (.aload_n 0) 1))) (zH pc 82 (zH pc 79 (zQ pc 76 (.getfield 39) 3) (zQ pc 79 (.invokevirtual 89) 3)) (zH pc 83 (zQ pc 82 (.aload_n 0) 1) (zQ pc 83 (.getstatic 124) 3))))) (zH pc 101 (zH pc 93 (zH pc 89 (zQ pc 86 (.invokevirtual 121) 3) (zH pc 92 (zQ pc 89 (.ifCond .eq 25) 3) (zQ pc 92 (.aload_n 0) 1))) (zH pc 95 (zH pc 94 (zQ pc 93 (.iconst 0) 1) (zQ pc 94 (.iconst 0) 1)) (zH pc 98 (zQ pc 95 (.invokevirtual 107) 3) (zQ pc 98 (.ifCond .eq 16) 3)))) (zH pc 110 (zH pc 104 (zH pc 102 (zQ pc 101 (.aload_n 0) 1) (zQ pc 102 (.bipush 59) 2)) (zH pc 107 (zQ pc 104 (.invokevirtual 103) 3) (zQ pc 107 (.ifCond .eq 7) 3))) (zH pc 114 (zH pc 111 (zQ pc 110 (.iconst 1) 1) (zQ pc 111 (.goto 4) 3)) (zH pc 115 (zQ pc 114 (.iconst 0) 1) (zQ pc 115 .ireturn 1))))))) else none
def zc_72 (pc : Nat) : Option (Instr × Nat) := bif Nat.blt pc 18 then (zH pc 8 (zH pc 2 (zH pc 1 (zQ pc 0 (.aload_n 0) 1) (zQ pc 1 (.iload_n 1) 1)) (zH pc 4 (zQ pc 2 (.bipush 16) 2) (zH pc 5 (zQ pc 4 (.aload_n 0) 1) (zQ pc 5 (.getfield 39) 3)))) (zH pc 13 (zH pc 11 (zQ pc 8 (.getfield 127) 3) (zH pc 12 (zQ pc 11 .imul 1) (zQ pc 12 .iadd 1))) (zH pc 16 (zQ pc 13 (.putfield 43) 3) (zH pc 17 (zQ pc 16 (.iconst 0) 1) (zQ pc 17 .ireturn 1))))) else none
def zc_73 (pc : Nat) : Option (Instr × Nat) := bif Nat.blt pc 26 then (zH pc 13 (zH pc 5 (zH pc 1 (zQ pc 0 (.aload_n 0) 1) (zH pc 4 (zQ pc 1 (.getfield 39) 3) (zQ pc 4 (.iload_n 1) 1))) (zH pc 11 (zH pc 8 (zQ pc 5 (.invokevirtual 130) 3) (zQ pc 8 (.ifCond .ne 9) 3)) (zH pc 12 (zQ pc 11 (.aload_n 0) 1) (zQ pc 12 (.iconst 1) 1)))) (zH pc 18 (zH pc 16 (zQ pc 13 (.invokevirtual 85) 3) (zH pc 17 (zQ pc 16 .ireturn 1) (zQ pc 17 (.aload_n 0) 1))) (zH pc 24 (zH pc 21 (zQ pc 18 (.getfield 39) 3) (zQ pc 21 (.invokevirtual 89) 3)) (zH pc 25 (zQ pc 24 (.iconst 1) 1) (zQ pc 25 .ireturn 1))))) else none
def zc_74 (pc : Nat) : Option (Instr × Nat) := bif Nat.blt pc 26 then (zH pc 13 (zH pc 5 (zH pc 1 (zQ pc 0 (.aload_n 0) 1) (zH pc 4 (zQ pc 1 (.getfield 39) 3) (zQ pc 4 (.aload_n 1) 1))) (zH pc 11 (zH pc 8 (zQ pc 5 (.invokevirtual 69) 3) (zQ pc 8 (.ifCond .ne 9) 3)) (zH pc 12 (zQ pc 11 (.aload_n 0) 1) (zQ pc 12 (.iconst 1) 1)))) (zH pc 18 (zH pc 16 (zQ pc 13 (.invokevirtual 85) 3) (zH pc 17 (zQ pc 16 .ireturn 1) (zQ pc 17 (.aload_n 0) 1))) (zH pc 24 (zH pc 21 (zQ pc 18 (.getfield 39) 3) (zQ pc 21 (.invokevirtual 89) 3)) (zH pc 25 (zQ pc 24 (.iconst 1) 1) (zQ pc 25 .ireturn 1))))) else none
def zc_75 (pc : Nat) : Option (Instr × Nat) := bif Nat.blt pc 52 then (zH pc 27 (zH pc 12 (zH pc 7 (zH pc 1 (zQ pc 0 (.aload_n 0) 1) (zH pc 4 (zQ pc 1 (.getfield 39) 3) (zQ pc 4 (.invokevirtual 133) 3))) (zH pc 10 (zQ pc 7 (.ifCond .ne 9) 3) (zH pc 11 (zQ pc 10 (.aload_n 0) 1) (zQ pc 11 (.iconst 1) 1)))) (zH pc 17 (zH pc 15 (zQ pc 12 (.invokevirtual 85) 3) (zH pc 16 (zQ pc 15 .ireturn 1) (zQ pc 16 (.aload_n 0) 1))) (zH pc 23 (zH pc 20 (zQ pc 17 (.getfield 39) 3) (zQ pc 20 (.invokevirtual 114) 3)) (zH pc 24 (zQ pc 23 (.iload_n 1) 1) (zQ pc 24 (.if_icmp .lt 14) 3))))) (zH pc 39 (zH pc 34 (zH pc 28 (zQ pc 27 (.aload_n 0) 1) (zH pc 31 (zQ pc 28 (.getfield 39) 3) (zQ pc 31 (.invokevirtual 114) 3))) (zH pc 35 (zQ pc 34 (.iload_n 2) 1) (zH pc 38 (zQ pc 35 (.if_icmp .le 11) 3) (zQ pc 38 (.aload_n 0) 1)))) (zH pc 46 (zH pc 40 (zQ pc 39 (.iconst 4) 1) (zH pc 43 (zQ pc 40 (.invokevirtual 85) 3) (zQ pc 43 (.ifCond .eq 7) 3))) (zH pc 50 (zH pc 47 (zQ pc 46 (.iconst 1) 1) (zQ pc 47 (.goto 4) 3)) (zH pc 51 (zQ pc 50 (.iconst 0) 1) (zQ pc 51 .ireturn 1)))))) else none
def zc_76 (pc : Nat) : Option (Instr × Nat) := bif Nat.blt pc 31 then (zH pc 15 (zH pc 4 (zH pc 2 (zH pc 1 (zQ pc 0 (.iconst 0) 1) (zQ pc 1 (.istore_n 3) 1)) (zH pc 3 (zQ pc 2 (.iload_n 3) 1) (zQ pc 3 (.aload_n 0) 1))) (zH pc 10 (zH pc 7 (zQ pc 4 (.getfield 50) 3) (zQ pc 7 (.if_icmp .ge 22) 3)) (zH pc 11 (zQ pc 10 (.aload_n 0) 1) (zH pc 14 (zQ pc 11 (.getfield 26) 3) (zQ pc 14 (.iload_n 3) 1))))) (zH pc 22 (zH pc 17 (zH pc 16 (zQ pc 15 .laload 1) (zQ pc 16 (.lload_n 1) 1)) (zH pc 18 (zQ pc 17 .lcmp 1) (zH pc 21 (zQ pc 18 (.ifCond .ne 5) 3) (zQ pc 21 (.iload_n 3) 1)))) (zH pc 26 (zH pc 23 (zQ pc 22 .ireturn 1) (zQ pc 23 (.iinc 3 1) 3)) (zH pc 29 (zQ pc 26 (.goto (-24)) 3) (zH pc 30 (zQ pc 29 (.iconst (-1)) 1) (zQ pc 30 .ireturn 1)))))) else none
def zc_77 (pc : Nat) : Option (Instr × Nat) := bif Nat.blt pc 100 then (zH pc 47 (zH pc 22 (zH pc 11 (zH pc 5 (zH pc 1 (zQ pc 0 (.iload_n 1) 1) (zH pc 2 (zQ pc 1 (.iconst 4) 1) (zQ pc 2 (.if_icmp .lt 9) 3))) (zH pc 7 (zH pc 6 (zQ pc 5 (.aload_n 0) 1) (zQ pc 6 (.iload_n 2) 1)) (zH pc 10 (zQ pc 7 (.invokevirtual 136) 3) (zQ pc 10 .ireturn 1)))) (zH pc 14 (zH pc 12 (zQ pc 11 (.aload_n 0) 1) (zH pc 13 (zQ pc 12 (.iload_n 1) 1) (zQ pc 13 (.iconst 1) 1))) (zH pc 16 (zH pc 15 (zQ pc 14 .iadd 1) (zQ pc 15 (.iload_n 2) 1)) (zH pc 19 (zQ pc 16 (.invokevirtual 107) 3) (zQ pc 19 (.ifCond .ne 5) 3))))) (zH pc 33 (zH pc 25 (zH pc 23 (zQ pc 22 (.iconst 0) 1) (zH pc 24 (zQ pc 23 .ireturn 1) (zQ pc 24 (.iload_n 1) 1))) (zH pc 29 (zH pc 26 (zQ pc 25 (.iconst 1) 1) (zQ pc 26 (.if_icmp .ne 7) 3)) (zH pc 30 (zQ pc 29 (.iconst 1) 1) (zQ pc 30 (.goto 6) 3)))) (zH pc 39 (zH pc 37 (zH pc 36 (zQ pc 33 (.sipush 1000) 3) (zQ pc 36 (.istore_n 3) 1)) (zH pc 38 (zQ pc 37 (.aload_n 0) 1) (zQ pc 38 (.iload_n 1) 1))) (zH pc 44 (zH pc 42 (zQ pc 39 (.invokevirtual 139) 3) (zQ pc 42 (.istore 4) 2)) (zH pc 45 (zQ pc 44 (.iconst 0) 1) (zQ pc 45 (.istore 5) 2)))))) (zH pc 71 (zH pc 60 (zH pc 53 (zH pc 49 (zQ pc 47 (.iload 5) 2) (zH pc 50 (zQ pc 49 (.iload_n 3) 1) (zQ pc 50 (.if_icmp .ge 48) 3))) (zH pc 56 (zH pc 55 (zQ pc 53 (.iload 4) 2) (zQ pc 55 (.iconst (-1)) 1)) (zH pc 59 (zQ pc 56 (.if_icmp .eq 42) 3) (zQ pc 59 (.aload_n 0) 1)))) (zH pc 67 (zH pc 63 (zQ pc 60 (.getfield 39) 3) (zH pc 66 (zQ pc 63 (.invokevirtual 89) 3) (zQ pc 66 (.aload_n 0) 1))) (zH pc 69 (zH pc 68 (zQ pc 67 (.iload_n 1) 1) (zQ pc 68 (.iconst 1) 1)) (zH pc 70 (zQ pc 69 .iadd 1) (zQ pc 70 (.iload_n 2) 1))))) (zH pc 85 (zH pc 78 (zH pc 74 (zQ pc 71 (.invokevirtual 107) 3) (zH pc 77 (zQ pc 74 (.ifCond .ne 5) 3) (zQ pc 77 (.iconst 0) 1))) (zH pc 80 (zH pc 79 (zQ pc 78 .ireturn 1) (zQ pc 79 (.aload_n 0) 1)) (zH pc 82 (zQ pc 80 (.iload 4) 2) (zQ pc 82 (.invokevirtual 143) 3)))) (zH pc 92 (zH pc 87 (zH pc 86 (zQ pc 85 (.aload_n 0) 1) (zQ pc 86 (.iload_n 1) 1)) (zH pc 90 (zQ pc 87 (.invokevirtual 139) 3) (zQ pc 90 (.istore 4) 2))) (zH pc 98 (zH pc 95 (zQ pc 92 (.iinc 5 1) 3) (zQ pc 95 (.goto (-48)) 3)) (zH pc 99 (zQ pc 98 (.iconst 1) 1) (zQ pc 99 .ireturn 1))))))) else none
def zc_78 (pc : Nat) : Option (Instr × Nat) := bif Nat.blt pc 164 then (zH pc 95 (zH pc 60 (zH pc 41 (zH pc 29 (zH pc 1 (zQ pc 0 (.iload_n 1) 1) (zH pc 28 (zQ pc 1 (.tableswitch 143 0 2 #[27, 67, 105]) 27) (zQ pc 28 (.aload_n 0) 1))) (zH pc 35 (zH pc 32 (zQ pc 29 (.getfield 39) 3) (zQ pc 32 (.getstatic 147) 3)) (zH pc 38 (zQ pc 35 (.invokevirtual 69) 3) (zQ pc 38 (.ifCond .eq 9) 3)))) (zH pc 48 (zH pc 44 (zQ pc 41 (.sipush 30001) 3) (zH pc 47 (zQ pc 44 (.goto 23) 3) (zQ pc 47 (.aload_n 0) 1))) (zH pc 54 (zH pc 51 (zQ pc 48 (.getfield 39) 3) (zQ pc 51 (.getstatic 150) 3)) (zH pc 57 (zQ pc 54 (.invokevirtual 69) 3) (zQ pc 57 (.ifCond .eq 9) 3))))) (zH pc 74 (zH pc 67 (zH pc 63 (zQ pc 60 (.sipush 30002) 3) (zH pc 66 (zQ pc 63 (.goto 4) 3) (zQ pc 66 (.iconst (-1)) 1))) (zH pc 69 (zH pc 68 (zQ pc 67 .ireturn 1) (zQ pc 68 (.aload_n 0) 1)) (zH pc 72 (zQ pc 69 (.getfield 39) 3) (zQ pc 72 (.bipush 60) 2)))) (zH pc 86 (zH pc 80 (zH pc 77 (zQ pc 74 (.invokevirtual 130) 3) (zQ pc 77 (.ifCond .eq 9) 3)) (zH pc 83 (zQ pc 80 (.sipush 30003) 3) (zQ pc 83 (.goto 22) 3))) (zH pc 90 (zH pc 87 (zQ pc 86 (.aload_n 0) 1) (zQ pc 87 (.getfield 39) 3)) (zH pc 92 (zQ pc 90 (.bipush 61) 2) (zQ pc 92 (.invokevirtual 130) 3)))))) (zH pc 130 (zH pc 110 (zH pc 104 (zH pc 98 (zQ pc 95 (.ifCond .eq 9) 3) (zH pc 101 (zQ pc 98 (.sipush 30004) 3) (zQ pc 101 (.goto 4) 3))) (zH pc 106 (zH pc 105 (zQ pc 104 (.iconst (-1)) 1) (zQ pc 105 .ireturn 1)) (zH pc 107 (zQ pc 106 (.aload_n 0) 1) (zQ pc 107 (.getfield 39) 3)))) (zH pc 121 (zH pc 115 (zH pc 112 (zQ pc 110 (.bipush 43) 2) (zQ pc 112 (.invokevirtual 130) 3)) (zH pc 118 (zQ pc 115 (.ifCond .eq 9) 3) (zQ pc 118 (.sipush 30005) 3))) (zH pc 125 (zH pc 124 (zQ pc 121 (.goto 22) 3) (zQ pc 124 (.aload_n 0) 1)) (zH pc 128 (zQ pc 125 (.getfield 39) 3) (zQ pc 128 (.bipush 45) 2))))) (zH pc 145 (zH pc 139 (zH pc 133 (zQ pc 130 (.invokevirtual 130) 3) (zH pc 136 (zQ pc 133 (.ifCond .eq 9) 3) (zQ pc 136 (.sipush 30006) 3))) (zH pc 143 (zH pc 142 (zQ pc 139 (.goto 4) 3) (zQ pc 142 (.iconst (-1)) 1)) (zH pc 144 (zQ pc 143 .ireturn 1) (zQ pc 144 (.aload_n 0) 1)))) (zH pc 156 (zH pc 150 (zH pc 148 (zQ pc 145 (.getfield 39) 3) (zQ pc 148 (.bipush 42) 2)) (zH pc 153 (zQ pc 150 (.invokevirtual 130) 3) (zQ pc 153 (.ifCond .eq 9) 3))) (zH pc 162 (zH pc 159 (zQ pc 156 (.sipush 30007) 3) (zQ pc 159 (.goto 4) 3)) (zH pc 163 (zQ pc 162 (.iconst (-1)) 1) (zQ pc 163 .ireturn 1))))))) else none
def zc_79 (pc : Nat) : Option (Instr × Nat) := bif Nat.blt pc 188 then (zH pc 99 (zH pc 50 (zH pc 23 (zH pc 9 (zH pc 4 (zH pc 1 (zQ pc 0 (.aload_n 0) 1) (zQ pc 1 (.getfield 39) 3)) (zH pc 7 (zQ pc 4 (.invokevirtual 153) 3) (zH pc 8 (zQ pc 7 (.istore_n 2) 1) (zQ pc 8 (.aload_n 0) 1)))) (zH pc 16 (zH pc 12 (zQ pc 9 (.getfield 39) 3) (zH pc 15 (zQ pc 12 (.invokevirtual 92) 3) (zQ pc 15 (.istore_n 3) 1))) (zH pc 17 (zQ pc 16 (.aload_n 0) 1) (zH pc 20 (zQ pc 17 (.getfield 39) 3) (zQ pc 20 (.getstatic 156) 3))))) (zH pc 37 (zH pc 29 (zH pc 26 (zQ pc 23 (.invokevirtual 69) 3) (zH pc 28 (zQ pc 26 (.istore 4) 2) (zQ pc 28 (.aload_n 0) 1))) (zH pc 32 (zQ pc 29 (.getfield 39) 3) (zH pc 34 (zQ pc 32 (.bipush 40) 2) (zQ pc 34 (.invokevirtual 130) 3)))) (zH pc 43 (zH pc 39 (zQ pc 37 (.istore 5) 2) (zH pc 40 (zQ pc 39 (.iload_n 3) 1) (zQ pc 40 (.ifCond .ne 34) 3))) (zH pc 45 (zQ pc 43 (.iload 4) 2) (zH pc 48 (zQ pc 45 (.ifCond .ne 29) 3) (zQ pc 48 (.iload 5) 2)))))) (zH pc 74 (zH pc 62 (zH pc 55 (zH pc 53 (zQ pc 50 (.ifCond .ne 24) 3) (zH pc 54 (zQ pc 53 (.iload_n 2) 1) (zQ pc 54 (.iconst (-1)) 1))) (zH pc 58 (zQ pc 55 (.if_icmp .ne 19) 3) (zH pc 59 (zQ pc 58 (.aload_n 0) 1) (zQ pc 59 (.getfield 39) 3)))) (zH pc 69 (zH pc 65 (zQ pc 62 (.invokevirtual 133) 3) (zH pc 68 (zQ pc 65 (.ifCond .ne 9) 3) (zQ pc 68 (.aload_n 0) 1))) (zH pc 70 (zQ pc 69 (.iconst 1) 1) (zH pc 73 (zQ pc 70 (.invokevirtual 85) 3) (zQ pc 73 .ireturn 1))))) (zH pc 86 (zH pc 79 (zH pc 75 (zQ pc 74 (.iload_n 3) 1) (zH pc 78 (zQ pc 75 (.ifCond .eq 17) 3) (zQ pc 78 (.aload_n 0) 1))) (zH pc 80 (zQ pc 79 (.aload_n 0) 1) (zH pc 83 (zQ pc 80 (.getfield 39) 3) (zQ pc 83 (.invokevirtual 95) 3)))) (zH pc 93 (zH pc 89 (zQ pc 86 (.invokevirtual 99) 3) (zH pc 92 (zQ pc 89 (.goto 4) 3) (zQ pc 92 (.iconst (-1)) 1))) (zH pc 95 (zQ pc 93 (.istore 6) 2) (zH pc 96 (zQ pc 95 (.iload_n 3) 1) (zQ pc 96 (.ifCond .eq 15) 3))))))) (zH pc 141 (zH pc 118 (zH pc 110 (zH pc 105 (zH pc 101 (zQ pc 99 (.iload 6) 2) (zH pc 102 (zQ pc 101 (.iconst (-1)) 1) (zQ pc 102 (.if_icmp .ne 9) 3))) (zH pc 106 (zQ pc 105 (.aload_n 0) 1) (zH pc 107 (zQ pc 106 (.iconst 2) 1) (zQ pc 107 (.invokevirtual 85) 3)))) (zH pc 113 (zH pc 111 (zQ pc 110 .ireturn 1) (zH pc 112 (zQ pc 111 (.iload_n 1) 1) (zQ pc 112 (.iconst 5) 1))) (zH pc 116 (zQ pc 113 (.if_icmp .lt 9) 3) (zH pc 117 (zQ pc 116 (.aload_n 0) 1) (zQ pc 117 (.iconst 5) 1))))) (zH pc 132 (zH pc 124 (zH pc 121 (zQ pc 118 (.invokevirtual 85) 3) (zH pc 122 (zQ pc 121 .ireturn 1) (zQ pc 122 (.iload 4) 2))) (zH pc 127 (zQ pc 124 (.ifCond .ne 8) 3) (zH pc 129 (zQ pc 127 (.iload 5) 2) (zQ pc 129 (.ifCond .eq 13) 3)))) (zH pc 136 (zH pc 133 (zQ pc 132 (.aload_n 0) 1) (zH pc 135 (zQ pc 133 (.iload 4) 2) (zQ pc 135 (.iload_n 1) 1))) (zH pc 137 (zQ pc 136 (.iconst 1) 1) (zH pc 138 (zQ pc 137 .iadd 1) (zQ pc 138 (.invokevirtual 159) 3)))))) (zH pc 164 (zH pc 152 (zH pc 144 (zH pc 142 (zQ pc 141 .ireturn 1) (zH pc 143 (zQ pc 142 (.aload_n 0) 1) (zQ pc 143 (.iload_n 3) 1))) (zH pc 147 (zQ pc 144 (.ifCond .eq 12) 3) (zH pc 150 (zQ pc 147 (.sipush 20000) 3) (zQ pc 150 (.iload 6) 2)))) (zH pc 157 (zH pc 153 (zQ pc 152 .iadd 1) (zH pc 156 (zQ pc 153 (.goto 23) 3) (zQ pc 156 (.iload_n 2) 1))) (zH pc 158 (zQ pc 157 (.iconst (-1)) 1) (zH pc 161 (zQ pc 158 (.if_icmp .eq 11) 3) (zQ pc 161 (.sipush 10000) 3))))) (zH pc 176 (zH pc 169 (zH pc 165 (zQ pc 164 (.iload_n 2) 1) (zH pc 166 (zQ pc 165 .iadd 1) (zQ pc 166 (.goto 10) 3))) (zH pc 170 (zQ pc 169 (.aload_n 0) 1) (zH pc 173 (zQ pc 170 (.getfield 39) 3) (zQ pc 173 (.invokevirtual 114) 3)))) (zH pc 183 (zH pc 179 (zQ pc 176 (.invokevirtual 143) 3) (zH pc 180 (zQ pc 179 (.aload_n 0) 1) (zQ pc 180 (.getfield 39) 3))) (zH pc 186 (zQ pc 183 (.invokevirtual 89) 3) (zH pc 187 (zQ pc 186 (.iconst 1) 1) (zQ pc 187 .ireturn 1)))))))) else none
def zc_80 (pc : Nat) : Option (Instr × Nat) := bif Nat.blt pc 54 then (zH pc 29 (zH pc 13 (zH pc 7 (zH pc 1 (zQ pc 0 (.aload_n 0) 1) (zH pc 4 (zQ pc 1 (.getfield 39) 3) (zQ pc 4 (.invokevirtual 89) 3))) (zH pc 11 (zH pc 8 (zQ pc 7 (.iload_n 1) 1) (zQ pc 8 (.ifCond .ne 27) 3)) (zH pc 12 (zQ pc 11 (.aload_n 0) 1) (zQ pc 12 (.iconst 0) 1)))) (zH pc 20 (zH pc 14 (zQ pc 13 (.iload_n 2) 1) (zH pc 17 (zQ pc 14 (.invokevirtual 107) 3) (zQ pc 17 (.ifCond .eq 16) 3))) (zH pc 23 (zH pc 21 (zQ pc 20 (.aload_n 0) 1) (zQ pc 21 (.bipush 41) 2)) (zH pc 26 (zQ pc 23 (.invokevirtual 103) 3) (zQ pc 26 (.ifCond .eq 7) 3))))) (zH pc 40 (zH pc 34 (zH pc 30 (zQ pc 29 (.iconst 1) 1) (zH pc 33 (zQ pc 30 (.goto 4) 3) (zQ pc 33 (.iconst 0) 1))) (zH pc 36 (zH pc 35 (zQ pc 34 .ireturn 1) (zQ pc 35 (.aload_n 0) 1)) (zH pc 37 (zQ pc 36 (.iload_n 2) 1) (zQ pc 37 (.invokevirtual 136) 3)))) (zH pc 46 (zH pc 44 (zH pc 43 (zQ pc 40 (.ifCond .ne 5) 3) (zQ pc 43 (.iconst 0) 1)) (zH pc 45 (zQ pc 44 .ireturn 1) (zQ pc 45 (.aload_n 0) 1))) (zH pc 52 (zH pc 49 (zQ pc 46 (.sipush 30000) 3) (zQ pc 49 (.invokevirtual 143) 3)) (zH pc 53 (zQ pc 52 (.iconst 1) 1) (zQ pc 53 .ireturn 1)))))) else none
def zc_81 (pc : Nat) : Option (Instr × Nat) := bif Nat.blt pc 33 then (zH pc 17 (zH pc 8 (zH pc 4 (zH pc 1 (zQ pc 0 (.aload_n 0) 1) (zQ pc 1 (.getfield 53) 3)) (zH pc 5 (zQ pc 4 (.aload_n 0) 1) (zQ pc 5 (.getfield 23) 3))) (zH pc 12 (zH pc 9 (zQ pc 8 .arraylength 1) (zQ pc 9 (.if_icmp .ge 23) 3)) (zH pc 13 (zQ pc 12 (.aload_n 0) 1) (zH pc 16 (zQ pc 13 (.getfield 23) 3) (zQ pc 16 (.aload_n 0) 1))))) (zH pc 24 (zH pc 21 (zH pc 20 (zQ pc 17 (.getfield 53) 3) (zQ pc 20 (.iload_n 1) 1)) (zH pc 22 (zQ pc 21 .iastore 1) (zH pc 23 (zQ pc 22 (.aload_n 0) 1) (zQ pc 23 .dup 1)))) (zH pc 28 (zH pc 27 (zQ pc 24 (.getfield 53) 3) (zQ pc 27 (.iconst 1) 1)) (zH pc 29 (zQ pc 28 .iadd 1) (zH pc 32 (zQ pc 29 (.putfield 53) 3) (zQ pc 32 .return_ 1)))))) else none
def zc_82 (pc : Nat) : Option (Instr × Nat) := bif Nat.blt pc 174 then (zH pc 86 (zH pc 43 (zH pc 24 (zH pc 11 (zH pc 4 (zH pc 1 (zQ pc 0 (.aload_n 0) 1) (zQ pc 1 (.getfield 33) 3)) (zH pc 7 (zQ pc 4 (.getstatic 163) 3) (zH pc 10 (zQ pc 7 (.getfield 166) 3) (zQ pc 10 (.iload_n 3) 1)))) (zH pc 16 (zH pc 12 (zQ pc 11 .iastore 1) (zH pc 13 (zQ pc 12 (.aload_n 0) 1) (zQ pc 13 (.getfield 33) 3))) (zH pc 19 (zQ pc 16 (.getstatic 168) 3) (zH pc 22 (zQ pc 19 (.getfield 166) 3) (zQ pc 22 (.iload 4) 2))))) (zH pc 31 (zH pc 26 (zH pc 25 (zQ pc 24 .iastore 1) (zQ pc 25 (.iconst 0) 1)) (zH pc 28 (zQ pc 26 (.istore 5) 2) (zH pc 29 (zQ pc 28 (.iload_n 1) 1) (zQ pc 29 (.istore 6) 2)))) (zH pc 36 (zH pc 32 (zQ pc 31 (.iconst 0) 1) (zH pc 34 (zQ pc 32 (.istore 7) 2) (zQ pc 34 (.iload 7) 2))) (zH pc 38 (zQ pc 36 (.ldc 171) 2) (zH pc 41 (zQ pc 38 (.if_icmp .gt 133) 3) (zQ pc 41 (.iload 6) 2)))))) (zH pc 66 (zH pc 54 (zH pc 47 (zH pc 44 (zQ pc 43 (.iload_n 2) 1) (zQ pc 44 (.if_icmp .ge 127) 3)) (zH pc 48 (zQ pc 47 (.aload_n 0) 1) (zH pc 51 (zQ pc 48 (.getfield 33) 3) (zQ pc 51 (.getstatic 172) 3)))) (zH pc 62 (zH pc 57 (zQ pc 54 (.getfield 166) 3) (zH pc 59 (zQ pc 57 (.iload 6) 2) (zQ pc 59 (.sipush 3600) 3))) (zH pc 63 (zQ pc 62 .idiv 1) (zH pc 65 (zQ pc 63 (.bipush 24) 2) (zQ pc 65 .irem 1))))) (zH pc 77 (zH pc 68 (zH pc 67 (zQ pc 66 .iastore 1) (zQ pc 67 (.aload_n 0) 1)) (zH pc 71 (zQ pc 68 (.getfield 33) 3) (zH pc 74 (zQ pc 71 (.getstatic 175) 3) (zQ pc 74 (.getfield 166) 3)))) (zH pc 82 (zH pc 79 (zQ pc 77 (.iload 6) 2) (zH pc 81 (zQ pc 79 (.ldc 178) 2) (zQ pc 81 .idiv 1))) (zH pc 84 (zQ pc 82 (.bipush 7) 2) (zH pc 85 (zQ pc 84 .irem 1) (zQ pc 85 .iastore 1))))))) (zH pc 129 (zH pc 108 (zH pc 98 (zH pc 90 (zH pc 87 (zQ pc 86 (.aload_n 0) 1) (zQ pc 87 (.getfield 33) 3)) (zH pc 93 (zQ pc 90 (.getstatic 179) 3) (zH pc 96 (zQ pc 93 (.getfield 166) 3) (zQ pc 96 (.iload 6) 2)))) (zH pc 101 (zH pc 99 (zQ pc 98 (.iload_n 1) 1) (zH pc 100 (zQ pc 99 .isub 1) (zQ pc 100 .iastore 1))) (zH pc 102 (zQ pc 101 (.aload_n 0) 1) (zH pc 105 (zQ pc 102 (.getfield 33) 3) (zQ pc 105 (.getstatic 182) 3))))) (zH pc 118 (zH pc 113 (zH pc 111 (zQ pc 108 (.getfield 166) 3) (zQ pc 111 (.iload 5) 2)) (zH pc 114 (zQ pc 113 .iastore 1) (zH pc 115 (zQ pc 114 (.aload_n 0) 1) (zQ pc 115 (.invokevirtual 185) 3)))) (zH pc 124 (zH pc 120 (zQ pc 118 (.istore 8) 2) (zH pc 122 (zQ pc 120 (.iload 5) 2) (zQ pc 122 (.iload 8) 2))) (zH pc 125 (zQ pc 124 (.iconst (-1)) 1) (zH pc 128 (zQ pc 125 (.if_icmp .ne 7) 3) (zQ pc 128 (.iconst 0) 1)))))) (zH pc 150 (zH pc 139 (zH pc 133 (zH pc 132 (zQ pc 129 (.goto 10) 3) (zQ pc 132 (.aload_n 0) 1)) (zH pc 136 (zQ pc 133 (.getfield 11) 3) (zH pc 138 (zQ pc 136 (.iload 8) 2) (zQ pc 138 .iaload 1)))) (zH pc 144 (zH pc 140 (zQ pc 139 .iadd 1) (zH pc 142 (zQ pc 140 (.istore 5) 2) (zQ pc 142 (.iload 6) 2))) (zH pc 146 (zQ pc 144 (.iload 8) 2) (zH pc 147 (zQ pc 146 (.iconst (-1)) 1) (zQ pc 147 (.if_icmp .ne 8) 3))))) (zH pc 162 (zH pc 156 (zH pc 152 (zQ pc 150 (.bipush 60) 2) (zH pc 155 (zQ pc 152 (.goto 10) 3) (zQ pc 155 (.aload_n 0) 1))) (zH pc 159 (zQ pc 156 (.getfield 15) 3) (zH pc 161 (zQ pc 159 (.iload 8) 2) (zQ pc 161 .iaload 1)))) (zH pc 168 (zH pc 163 (zQ pc 162 .iadd 1) (zH pc 165 (zQ pc 163 (.istore 6) 2) (zQ pc 165 (.iinc 7 1) 3))) (zH pc 171 (zQ pc 168 (.goto (-134)) 3) (zH pc 173 (zQ pc 171 (.iload 5) 2) (zQ pc 173 .ireturn 1)))))))) else none
def zc_83 (pc : Nat) : Option (Instr × Nat) := bif Nat.blt pc 86 then (zH pc 39 (zH pc 17 (zH pc 6 (zH pc 3 (zH pc 1 (zQ pc 0 (.iconst 0) 1) (zH pc 2 (zQ pc 1 (.istore_n 1) 1) (zQ pc 2 (.iconst 0) 1))) (zH pc 4 (zQ pc 3 (.istore_n 2) 1) (zH pc 5 (zQ pc 4 (.iconst 0) 1) (zQ pc 5 (.istore_n 3) 1)))) (zH pc 11 (zH pc 7 (zQ pc 6 (.iload_n 3) 1) (zH pc 8 (zQ pc 7 (.aload_n 0) 1) (zQ pc 8 (.getfield 47) 3))) (zH pc 15 (zH pc 14 (zQ pc 11 (.if_icmp .ge 73) 3) (zQ pc 14 (.aload_n 0) 1)) (zH pc 16 (zQ pc 15 (.iload_n 1) 1) (zQ pc 16 (.aload_n 0) 1))))) (zH pc 28 (zH pc 22 (zH pc 20 (zQ pc 17 (.getfield 18) 3) (zH pc 21 (zQ pc 20 (.iload_n 3) 1) (zQ pc 21 .iaload 1))) (zH pc 25 (zQ pc 22 (.invokevirtual 188) 3) (zH pc 27 (zQ pc 25 (.istore 4) 2) (zQ pc 27 (.aload_n 0) 1)))) (zH pc 33 (zH pc 31 (zQ pc 28 (.getfield 18) 3) (zH pc 32 (zQ pc 31 (.iload_n 3) 1) (zQ pc 32 .iaload 1))) (zH pc 35 (zH pc 34 (zQ pc 33 (.istore_n 1) 1) (zQ pc 34 (.aload_n 0) 1)) (zH pc 38 (zQ pc 35 (.getfield 11) 3) (zQ pc 38 (.iload_n 3) 1)))))) (zH pc 61 (zH pc 50 (zH pc 44 (zH pc 40 (zQ pc 39 .iaload 1) (zH pc 41 (zQ pc 40 (.iconst (-1)) 1) (zQ pc 41 (.if_icmp .eq 10) 3))) (zH pc 46 (zQ pc 44 (.iload 4) 2) (zH pc 49 (zQ pc 46 (.ifCond .eq 5) 3) (zQ pc 49 (.iload_n 3) 1)))) (zH pc 55 (zH pc 51 (zQ pc 50 .ireturn 1) (zH pc 52 (zQ pc 51 (.aload_n 0) 1) (zQ pc 52 (.getfield 11) 3))) (zH pc 57 (zH pc 56 (zQ pc 55 (.iload_n 3) 1) (zQ pc 56 .iaload 1)) (zH pc 58 (zQ pc 57 (.iconst (-1)) 1) (zQ pc 58 (.if_icmp .ne 20) 3))))) (zH pc 72 (zH pc 67 (zH pc 62 (zQ pc 61 (.iload_n 2) 1) (zH pc 64 (zQ pc 62 (.bipush 6) 2) (zQ pc 64 (.if_icmp .ge 14) 3))) (zH pc 68 (zQ pc 67 (.aload_n 0) 1) (zH pc 71 (zQ pc 68 (.getfield 30) 3) (zQ pc 71 (.iload_n 2) 1)))) (zH pc 78 (zH pc 74 (zQ pc 72 (.iload 4) 2) (zH pc 75 (zQ pc 74 .iastore 1) (zQ pc 75 (.iinc 2 1) 3))) (zH pc 84 (zH pc 81 (zQ pc 78 (.iinc 3 1) 3) (zQ pc 81 (.goto (-75)) 3)) (zH pc 85 (zQ pc 84 (.iconst (-1)) 1) (zQ pc 85 .ireturn 1))))))) else none
def zc_84 (pc : Nat) : Option (Instr × Nat) := bif Nat.blt pc 151 then (zH pc 79 (zH pc 38 (zH pc 17 (zH pc 7 (zH pc 2 (zH pc 1 (zQ pc 0 (.iconst 0) 1) (zQ pc 1 (.istore_n 3) 1)) (zH pc 3 (zQ pc 2 (.iload_n 1) 1) (zH pc 5 (zQ pc 3 (.istore 4) 2) (zQ pc 5 (.iload 4) 2)))) (zH pc 11 (zH pc 8 (zQ pc 7 (.iload_n 2) 1) (zQ pc 8 (.if_icmp .ge 136) 3)) (zH pc 12 (zQ pc 11 (.aload_n 0) 1) (zH pc 15 (zQ pc 12 (.getfield 23) 3) (zQ pc 15 (.iload 4) 2))))) (zH pc 28 (zH pc 20 (zH pc 18 (zQ pc 17 .iaload 1) (zQ pc 18 (.istore 5) 2)) (zH pc 22 (zQ pc 20 (.iload 5) 2) (zH pc 25 (zQ pc 22 (.sipush 30000) 3) (zQ pc 25 (.if_icmp .ge 30) 3)))) (zH pc 33 (zH pc 29 (zQ pc 28 (.iload_n 3) 1) (zH pc 30 (zQ pc 29 (.aload_n 0) 1) (zQ pc 30 (.getfield 36) 3))) (zH pc 34 (zQ pc 33 .arraylength 1) (zH pc 37 (zQ pc 34 (.if_icmp .ge 21) 3) (zQ pc 37 (.aload_n 0) 1)))))) (zH pc 60 (zH pc 48 (zH pc 42 (zH pc 41 (zQ pc 38 (.getfield 36) 3) (zQ pc 41 (.iload_n 3) 1)) (zH pc 43 (zQ pc 42 (.aload_n 0) 1) (zH pc 45 (zQ pc 43 (.iload 5) 2) (zQ pc 45 (.invokevirtual 192) 3)))) (zH pc 52 (zH pc 49 (zQ pc 48 .iastore 1) (zQ pc 49 (.iinc 3 1) 3)) (zH pc 55 (zQ pc 52 (.goto 86) 3) (zH pc 57 (zQ pc 55 (.iload 5) 2) (zQ pc 57 (.sipush 30000) 3))))) (zH pc 69 (zH pc 64 (zH pc 63 (zQ pc 60 (.if_icmp .ne 35) 3) (zQ pc 63 (.iload_n 3) 1)) (zH pc 65 (zQ pc 64 (.iconst 1) 1) (zH pc 68 (zQ pc 65 (.if_icmp .lt 30) 3) (zQ pc 68 (.aload_n 0) 1)))) (zH pc 74 (zH pc 72 (zQ pc 69 (.getfield 36) 3) (zH pc 73 (zQ pc 72 (.iload_n 3) 1) (zQ pc 73 (.iconst 1) 1))) (zH pc 75 (zQ pc 74 .isub 1) (zH pc 76 (zQ pc 75 (.aload_n 0) 1) (zQ pc 76 (.getfield 36) 3))))))) (zH pc 117 (zH pc 95 (zH pc 86 (zH pc 81 (zH pc 80 (zQ pc 79 (.iload_n 3) 1) (zQ pc 80 (.iconst 1) 1)) (zH pc 82 (zQ pc 81 .isub 1) (zH pc 83 (zQ pc 82 .iaload 1) (zQ pc 83 (.ifCond .ne 7) 3)))) (zH pc 90 (zH pc 87 (zQ pc 86 (.iconst 1) 1) (zQ pc 87 (.goto 4) 3)) (zH pc 91 (zQ pc 90 (.iconst 0) 1) (zH pc 92 (zQ pc 91 .iastore 1) (zQ pc 92 (.goto 46) 3))))) (zH pc 105 (zH pc 100 (zH pc 97 (zQ pc 95 (.iload 5) 2) (zQ pc 97 (.sipush 30000) 3)) (zH pc 103 (zQ pc 100 (.if_icmp .le 38) 3) (zH pc 104 (zQ pc 103 (.iload_n 3) 1) (zQ pc 104 (.iconst 2) 1)))) (zH pc 112 (zH pc 108 (zQ pc 105 (.if_icmp .lt 33) 3) (zH pc 111 (zQ pc 108 (.iinc 3 (-1)) 3) (zQ pc 111 (.aload_n 0) 1))) (zH pc 115 (zQ pc 112 (.getfield 36) 3) (zH pc 116 (zQ pc 115 (.iload_n 3) 1) (zQ pc 116 (.iconst 1) 1)))))) (zH pc 132 (zH pc 125 (zH pc 120 (zH pc 118 (zQ pc 117 .isub 1) (zQ pc 118 (.iload 5) 2)) (zH pc 121 (zQ pc 120 (.aload_n 0) 1) (zH pc 124 (zQ pc 121 (.getfield 36) 3) (zQ pc 124 (.iload_n 3) 1)))) (zH pc 127 (zH pc 126 (zQ pc 125 (.iconst 1) 1) (zQ pc 126 .isub 1)) (zH pc 128 (zQ pc 127 .iaload 1) (zH pc 129 (zQ pc 128 (.aload_n 0) 1) (zQ pc 129 (.getfield 36) 3))))) (zH pc 141 (zH pc 134 (zH pc 133 (zQ pc 132 (.iload_n 3) 1) (zQ pc 133 .iaload 1)) (zH pc 137 (zQ pc 134 (.invokestatic 195) 3) (zH pc 138 (zQ pc 137 .iastore 1) (zQ pc 138 (.iinc 4 1) 3)))) (zH pc 148 (zH pc 144 (zQ pc 141 (.goto (-136)) 3) (zH pc 145 (zQ pc 144 (.aload_n 0) 1) (zQ pc 145 (.getfield 36) 3))) (zH pc 149 (zQ pc 148 (.iconst 0) 1) (zH pc 150 (zQ pc 149 .iaload 1) (zQ pc 150 .ireturn 1)))))))) else none
def zc_85 (pc : Nat) : Option (Instr × Nat) := bif Nat.blt pc 40 then (zH pc 19 (zH pc 11 (zH pc 4 (zH pc 1 (zQ pc 0 (.iload_n 1) 1) (zQ pc 1 (.sipush 20000) 3)) (zH pc 7 (zQ pc 4 (.if_icmp .lt 14) 3) (zH pc 8 (zQ pc 7 (.aload_n 0) 1) (zQ pc 8 (.getfield 30) 3)))) (zH pc 16 (zH pc 12 (zQ pc 11 (.iload_n 1) 1) (zH pc 15 (zQ pc 12 (.sipush 20000) 3) (zQ pc 15 .isub 1))) (zH pc 17 (zQ pc 16 .iaload 1) (zH pc 18 (zQ pc 17 .ireturn 1) (zQ pc 18 (.iload_n 1) 1))))) (zH pc 30 (zH pc 25 (zH pc 22 (zQ pc 19 (.sipush 10000) 3) (zQ pc 22 (.if_icmp .lt 16) 3)) (zH pc 26 (zQ pc 25 (.aload_n 0) 1) (zH pc 29 (zQ pc 26 (.getfield 33) 3) (zQ pc 29 (.iload_n 1) 1)))) (zH pc 35 (zH pc 33 (zQ pc 30 (.sipush 10000) 3) (zH pc 34 (zQ pc 33 .isub 1) (zQ pc 34 .iaload 1))) (zH pc 38 (zQ pc 35 (.goto 4) 3) (zH pc 39 (zQ pc 38 (.iload_n 1) 1) (zQ pc 39 .ireturn 1)))))) else none
def zc_86 (pc : Nat) : Option (Instr × Nat) := bif Nat.blt pc 102 then (zH pc 74 (zH pc 55 (zH pc 45 (zH pc 40 (zH pc 1 (zQ pc 0 (.iload_n 0) 1) (zQ pc 1 (.tableswitch 97 30001 30006 #[39, 53, 67, 78, 89, 93]) 39)) (zH pc 41 (zQ pc 40 (.iload_n 1) 1) (zH pc 44 (zQ pc 41 (.ifCond .eq 11) 3) (zQ pc 44 (.iload_n 2) 1)))) (zH pc 52 (zH pc 48 (zQ pc 45 (.ifCond .eq 7) 3) (zH pc 49 (zQ pc 48 (.iconst 1) 1) (zQ pc 49 (.goto 4) 3))) (zH pc 53 (zQ pc 52 (.iconst 0) 1) (zH pc 54 (zQ pc 53 .ireturn 1) (zQ pc 54 (.iload_n 1) 1))))) (zH pc 66 (zH pc 59 (zH pc 58 (zQ pc 55 (.ifCond .ne 7) 3) (zQ pc 58 (.iload_n 2) 1)) (zH pc 62 (zQ pc 59 (.ifCond .eq 7) 3) (zH pc 63 (zQ pc 62 (.iconst 1) 1) (zQ pc 63 (.goto 4) 3)))) (zH pc 69 (zH pc 67 (zQ pc 66 (.iconst 0) 1) (zH pc 68 (zQ pc 67 .ireturn 1) (zQ pc 68 (.iload_n 1) 1))) (zH pc 70 (zQ pc 69 (.iload_n 2) 1) (zH pc 73 (zQ pc 70 (.if_icmp .ge 7) 3) (zQ pc 73 (.iconst 1) 1)))))) (zH pc 91 (zH pc 81 (zH pc 78 (zH pc 77 (zQ pc 74 (.goto 4) 3) (zQ pc 77 (.iconst 0) 1)) (zH pc 79 (zQ pc 78 .ireturn 1) (zH pc 80 (zQ pc 79 (.iload_n 1) 1) (zQ pc 80 (.iload_n 2) 1)))) (zH pc 88 (zH pc 84 (zQ pc 81 (.if_icmp .ne 7) 3) (zH pc 85 (zQ pc 84 (.iconst 1) 1) (zQ pc 85 (.goto 4) 3))) (zH pc 89 (zQ pc 88 (.iconst 0) 1) (zH pc 90 (zQ pc 89 .ireturn 1) (zQ pc 90 (.iload_n 1) 1))))) (zH pc 96 (zH pc 93 (zH pc 92 (zQ pc 91 (.iload_n 2) 1) (zQ pc 92 .iadd 1)) (zH pc 94 (zQ pc 93 .ireturn 1) (zH pc 95 (zQ pc 94 (.iload_n 1) 1) (zQ pc 95 (.iload_n 2) 1)))) (zH pc 99 (zH pc 97 (zQ pc 96 .isub 1) (zH pc 98 (zQ pc 97 .ireturn 1) (zQ pc 98 (.iload_n 1) 1))) (zH pc 100 (zQ pc 99 (.iload_n 2) 1) (zH pc 101 (zQ pc 100 .imul 1) (zQ pc 101 .ireturn 1))))))) else none
def zc_87 (pc : Nat) : Option (Instr × Nat) := bif Nat.blt pc 108 then (zH pc 57 (zH pc 25 (zH pc 12 (zH pc 6 (zH pc 1 (zQ pc 0 (.aload_n 0) 1) (zH pc 4 (zQ pc 1 (.getfield 41) 3) (zQ pc 4 (.bipush 60) 2))) (zH pc 10 (zH pc 9 (zQ pc 6 (.if_icmp .ne 4) 3) (zQ pc 9 .return_ 1)) (zH pc 11 (zQ pc 10 (.iconst 0) 1) (zQ pc 11 (.istore_n 3) 1)))) (zH pc 17 (zH pc 13 (zQ pc 12 (.iconst 0) 1) (zH pc 15 (zQ pc 13 (.istore 4) 2) (zQ pc 15 (.iload 4) 2))) (zH pc 21 (zH pc 18 (zQ pc 17 (.aload_n 1) 1) (zQ pc 18 (.getfield 45) 3)) (zH pc 24 (zQ pc 21 (.if_icmp .ge 56) 3) (zQ pc 24 (.iload_n 3) 1))))) (zH pc 40 (zH pc 31 (zH pc 27 (zQ pc 25 (.bipush 6) 2) (zH pc 30 (zQ pc 27 (.if_icmp .ge 50) 3) (zQ pc 30 (.aload_n 0) 1))) (zH pc 35 (zH pc 34 (zQ pc 31 (.getfield 37) 3) (zQ pc 34 (.aload_n 1) 1)) (zH pc 38 (zQ pc 35 (.getfield 50) 3) (zQ pc 38 (.iload 4) 2)))) (zH pc 48 (zH pc 44 (zH pc 41 (zQ pc 40 .iaload 1) (zQ pc 41 (.invokevirtual 53) 3)) (zH pc 47 (zQ pc 44 (.ifCond .eq 27) 3) (zQ pc 47 (.aload_n 0) 1))) (zH pc 52 (zH pc 51 (zQ pc 48 (.getfield 11) 3) (zQ pc 51 (.aload_n 0) 1)) (zH pc 55 (zQ pc 52 (.getfield 41) 3) (zQ pc 55 (.bipush 6) 2)))))) (zH pc 85 (zH pc 67 (zH pc 60 (zH pc 58 (zQ pc 57 .imul 1) (zH pc 59 (zQ pc 58 (.iload_n 3) 1) (zQ pc 59 .iadd 1))) (zH pc 64 (zH pc 61 (zQ pc 60 (.aload_n 1) 1) (zQ pc 61 (.getfield 50) 3)) (zH pc 66 (zQ pc 64 (.iload 4) 2) (zQ pc 66 .iaload 1)))) (zH pc 77 (zH pc 71 (zH pc 68 (zQ pc 67 .iastore 1) (zQ pc 68 (.iinc 3 1) 3)) (zH pc 74 (zQ pc 71 (.iinc 4 1) 3) (zQ pc 74 (.goto (-59)) 3))) (zH pc 81 (zH pc 78 (zQ pc 77 (.aload_n 0) 1) (zQ pc 78 (.getfield 15) 3)) (zH pc 82 (zQ pc 81 (.aload_n 0) 1) (zQ pc 82 (.getfield 41) 3))))) (zH pc 96 (zH pc 88 (zH pc 86 (zQ pc 85 (.iload_n 3) 1) (zH pc 87 (zQ pc 86 .iastore 1) (zQ pc 87 (.aload_n 0) 1))) (zH pc 92 (zH pc 91 (zQ pc 88 (.getfield 18) 3) (zQ pc 91 (.aload_n 0) 1)) (zH pc 95 (zQ pc 92 (.getfield 41) 3) (zQ pc 95 (.iload_n 2) 1)))) (zH pc 102 (zH pc 98 (zH pc 97 (zQ pc 96 .bastore 1) (zQ pc 97 (.aload_n 0) 1)) (zH pc 99 (zQ pc 98 .dup 1) (zQ pc 99 (.getfield 41) 3))) (zH pc 104 (zH pc 103 (zQ pc 102 (.iconst 1) 1) (zQ pc 103 .iadd 1)) (zH pc 107 (zQ pc 104 (.putfield 41) 3) (zQ pc 107 .return_ 1))))))) else none
def zc_88 (pc : Nat) : Option (Instr × Nat) := bif Nat.blt pc 47 then (zH pc 21 (zH pc 10 (zH pc 5 (zH pc 1 (zQ pc 0 (.aload_n 0) 1) (zH pc 2 (zQ pc 1 (.iconst 0) 1) (zQ pc 2 (.putfield 59) 3))) (zH pc 6 (zQ pc 5 (.aload_n 0) 1) (zH pc 9 (zQ pc 6 (.getfield 34) 3) (zQ pc 9 (.iconst 0) 1)))) (zH pc 17 (zH pc 13 (zQ pc 10 (.invokestatic 62) 3) (zH pc 14 (zQ pc 13 (.aload_n 0) 1) (zQ pc 14 (.invokevirtual 68) 3))) (zH pc 19 (zH pc 18 (zQ pc 17 (.iconst 0) 1) (zQ pc 18 (.istore_n 1) 1)) (zH pc 20 (zQ pc 19 (.iload_n 1) 1) (zQ pc 20 (.iconst 3) 1))))) (zH pc 34 (zH pc 26 (zH pc 24 (zQ pc 21 (.if_icmp .gt 24) 3) (zH pc 25 (zQ pc 24 (.aload_n 0) 1) (zQ pc 25 (.iconst 0) 1))) (zH pc 30 (zH pc 27 (zQ pc 26 (.iload_n 1) 1) (zQ pc 27 (.invokevirtual 71) 3)) (zH pc 31 (zQ pc 30 (.aload_n 0) 1) (zQ pc 31 (.getfield 59) 3)))) (zH pc 39 (zH pc 37 (zQ pc 34 (.ifCond .le 5) 3) (zH pc 38 (zQ pc 37 (.iload_n 1) 1) (zQ pc 38 .ireturn 1))) (zH pc 45 (zH pc 42 (zQ pc 39 (.iinc 1 1) 3) (zQ pc 42 (.goto (-23)) 3)) (zH pc 46 (zQ pc 45 (.iconst (-1)) 1) (zQ pc 46 .ireturn 1)))))) else none
def zc_89 (pc : Nat) : Option (Instr × Nat) := bif Nat.blt pc 26 then (zH pc 13 (zH pc 7 (zH pc 1 (zQ pc 0 (.aload_n 0) 1) (zH pc 4 (zQ pc 1 (.getfield 59) 3) (zQ pc 4 (.ifCond .le 20) 3))) (zH pc 11 (zH pc 8 (zQ pc 7 (.aload_n 0) 1) (zQ pc 8 (.getfield 34) 3)) (zH pc 12 (zQ pc 11 (.iload_n 1) 1) (zQ pc 12 .iaload 1)))) (zH pc 20 (zH pc 14 (zQ pc 13 (.aload_n 0) 1) (zH pc 17 (zQ pc 14 (.getfield 59) 3) (zQ pc 17 (.if_icmp .ne 7) 3))) (zH pc 24 (zH pc 21 (zQ pc 20 (.iconst 1) 1) (zQ pc 21 (.goto 4) 3)) (zH pc 25 (zQ pc 24 (.iconst 0) 1) (zQ pc 25 .ireturn 1))))) else none
def zc_90 (pc : Nat) : Option (Instr × Nat) := bif Nat.blt pc 82 then (zH pc 39 (zH pc 21 (zH pc 9 (zH pc 3 (zH pc 1 (zQ pc 0 (.iconst 0) 1) (zH pc 2 (zQ pc 1 (.istore_n 1) 1) (zQ pc 2 (.iload_n 1) 1))) (zH pc 5 (zQ pc 3 (.bipush 96) 2) (zH pc 8 (zQ pc 5 (.if_icmp .ge 16) 3) (zQ pc 8 (.aload_n 0) 1)))) (zH pc 14 (zH pc 12 (zQ pc 9 (.getfield 22) 3) (zH pc 13 (zQ pc 12 (.iload_n 1) 1) (zQ pc 13 (.iconst 0) 1))) (zH pc 15 (zQ pc 14 .bastore 1) (zH pc 18 (zQ pc 15 (.iinc 1 1) 3) (zQ pc 18 (.goto (-16)) 3))))) (zH pc 31 (zH pc 24 (zH pc 22 (zQ pc 21 (.iconst 0) 1) (zH pc 23 (zQ pc 22 (.istore_n 1) 1) (zQ pc 23 (.iload_n 1) 1))) (zH pc 25 (zQ pc 24 (.aload_n 0) 1) (zH pc 28 (zQ pc 25 (.getfield 41) 3) (zQ pc 28 (.if_icmp .ge 53) 3)))) (zH pc 34 (zH pc 32 (zQ pc 31 (.iconst 0) 1) (zH pc 33 (zQ pc 32 (.istore_n 2) 1) (zQ pc 33 (.iload_n 2) 1))) (zH pc 35 (zQ pc 34 (.aload_n 0) 1) (zH pc 38 (zQ pc 35 (.getfield 15) 3) (zQ pc 38 (.iload_n 1) 1)))))) (zH pc 61 (zH pc 49 (zH pc 44 (zH pc 40 (zQ pc 39 .iaload 1) (zH pc 43 (zQ pc 40 (.if_icmp .ge 35) 3) (zQ pc 43 (.aload_n 0) 1))) (zH pc 47 (zQ pc 44 (.getfield 18) 3) (zH pc 48 (zQ pc 47 (.iload_n 1) 1) (zQ pc 48 .baload 1)))) (zH pc 56 (zH pc 52 (zQ pc 49 (.ifCond .ne 26) 3) (zH pc 53 (zQ pc 52 (.aload_n 0) 1) (zQ pc 53 (.getfield 22) 3))) (zH pc 57 (zQ pc 56 (.aload_n 0) 1) (zH pc 60 (zQ pc 57 (.getfield 11) 3) (zQ pc 60 (.iload_n 1) 1))))) (zH pc 68 (zH pc 65 (zH pc 63 (zQ pc 61 (.bipush 6) 2) (zH pc 64 (zQ pc 63 .imul 1) (zQ pc 64 (.iload_n 2) 1))) (zH pc 66 (zQ pc 65 .iadd 1) (zH pc 67 (zQ pc 66 .iaload 1) (zQ pc 67 (.iconst 1) 1)))) (zH pc 75 (zH pc 69 (zQ pc 68 .bastore 1) (zH pc 72 (zQ pc 69 (.iinc 2 1) 3) (zQ pc 72 (.goto (-39)) 3))) (zH pc 78 (zQ pc 75 (.iinc 1 1) 3) (zH pc 81 (zQ pc 78 (.goto (-55)) 3) (zQ pc 81 .return_ 1))))))) else none
def zc_91 (pc : Nat) : Option (Instr × Nat) := bif Nat.blt pc 83 then (zH pc 41 (zH pc 18 (zH pc 8 (zH pc 5 (zH pc 1 (zQ pc 0 (.aload_n 0) 1) (zH pc 2 (zQ pc 1 (.iload_n 1) 1) (zQ pc 2 (.invokevirtual 75) 3))) (zH pc 6 (zQ pc 5 (.istore_n 3) 1) (zH pc 7 (zQ pc 6 (.iload_n 3) 1) (zQ pc 7 (.iconst (-1)) 1)))) (zH pc 13 (zH pc 11 (zQ pc 8 (.if_icmp .ne 9) 3) (zH pc 12 (zQ pc 11 (.aload_n 0) 1) (zQ pc 12 (.iload_n 1) 1))) (zH pc 16 (zQ pc 13 (.invokevirtual 79) 3) (zH pc 17 (zQ pc 16 .return_ 1) (zQ pc 17 (.iconst 0) 1))))) (zH pc 28 (zH pc 23 (zH pc 20 (zQ pc 18 (.istore 4) 2) (zH pc 22 (zQ pc 20 (.iload 4) 2) (zQ pc 22 (.aload_n 0) 1))) (zH pc 26 (zQ pc 23 (.getfield 15) 3) (zH pc 27 (zQ pc 26 (.iload_n 3) 1) (zQ pc 27 .iaload 1)))) (zH pc 33 (zH pc 31 (zQ pc 28 (.if_icmp .ge 54) 3) (zH pc 32 (zQ pc 31 (.iload_n 1) 1) (zQ pc 32 (.iload_n 2) 1))) (zH pc 37 (zH pc 36 (zQ pc 33 (.if_icmp .ge 49) 3) (zQ pc 36 (.aload_n 0) 1)) (zH pc 40 (zQ pc 37 (.getfield 11) 3) (zQ pc 40 (.iload_n 3) 1)))))) (zH pc 61 (zH pc 50 (zH pc 46 (zH pc 43 (zQ pc 41 (.bipush 6) 2) (zH pc 44 (zQ pc 43 .imul 1) (zQ pc 44 (.iload 4) 2))) (zH pc 47 (zQ pc 46 .iadd 1) (zH pc 48 (zQ pc 47 .iaload 1) (zQ pc 48 (.istore 5) 2)))) (zH pc 56 (zH pc 51 (zQ pc 50 (.aload_n 0) 1) (zH pc 54 (zQ pc 51 (.getfield 22) 3) (zQ pc 54 (.iload 5) 2))) (zH pc 57 (zQ pc 56 .baload 1) (zH pc 60 (zQ pc 57 (.ifCond .ne 19) 3) (zQ pc 60 (.aload_n 0) 1))))) (zH pc 70 (zH pc 67 (zH pc 64 (zQ pc 61 (.getfield 25) 3) (zH pc 65 (zQ pc 64 (.iload_n 1) 1) (zQ pc 65 (.iload 5) 2))) (zH pc 68 (zQ pc 67 .iastore 1) (zH pc 69 (zQ pc 68 (.aload_n 0) 1) (zQ pc 69 (.iload_n 1) 1)))) (zH pc 73 (zH pc 71 (zQ pc 70 (.iconst 1) 1) (zH pc 72 (zQ pc 71 .iadd 1) (zQ pc 72 (.iload_n 2) 1))) (zH pc 79 (zH pc 76 (zQ pc 73 (.invokevirtual 71) 3) (zQ pc 76 (.iinc 4 1) 3)) (zH pc 82 (zQ pc 79 (.goto (-59)) 3) (zQ pc 82 .return_ 1))))))) else none
def zc_92 (pc : Nat) : Option (Instr × Nat) := bif Nat.blt pc 38 then (zH pc 19 (zH pc 7 (zH pc 2 (zH pc 1 (zQ pc 0 (.iconst 0) 1) (zQ pc 1 (.istore_n 2) 1)) (zH pc 3 (zQ pc 2 (.iload_n 2) 1) (zH pc 4 (zQ pc 3 (.aload_n 0) 1) (zQ pc 4 (.getfield 41) 3)))) (zH pc 14 (zH pc 10 (zQ pc 7 (.if_icmp .ge 29) 3) (zH pc 11 (zQ pc 10 (.aload_n 0) 1) (zQ pc 11 (.getfield 18) 3))) (zH pc 15 (zQ pc 14 (.iload_n 2) 1) (zH pc 16 (zQ pc 15 .baload 1) (zQ pc 16 (.ifCond .eq 14) 3))))) (zH pc 28 (zH pc 21 (zH pc 20 (zQ pc 19 (.aload_n 0) 1) (zQ pc 20 (.iload_n 2) 1)) (zH pc 22 (zQ pc 21 (.iload_n 1) 1) (zH pc 25 (zQ pc 22 (.invokevirtual 83) 3) (zQ pc 25 (.ifCond .ne 5) 3)))) (zH pc 33 (zH pc 29 (zQ pc 28 (.iload_n 2) 1) (zH pc 30 (zQ pc 29 .ireturn 1) (zQ pc 30 (.iinc 2 1) 3))) (zH pc 36 (zQ pc 33 (.goto (-31)) 3) (zH pc 37 (zQ pc 36 (.iconst (-1)) 1) (zQ pc 37 .ireturn 1)))))) else none
def zc_93 (pc : Nat) : Option (Instr × Nat) := bif Nat.blt pc 58 then (zH pc 28 (zH pc 12 (zH pc 4 (zH pc 2 (zH pc 1 (zQ pc 0 (.iconst 0) 1) (zQ pc 1 (.istore_n 3) 1)) (zH pc 3 (zQ pc 2 (.iload_n 3) 1) (zQ pc 3 (.aload_n 0) 1))) (zH pc 8 (zH pc 7 (zQ pc 4 (.getfield 15) 3) (zQ pc 7 (.iload_n 1) 1)) (zH pc 9 (zQ pc 8 .iaload 1) (zQ pc 9 (.if_icmp .ge 47) 3)))) (zH pc 18 (zH pc 15 (zH pc 13 (zQ pc 12 (.iconst 0) 1) (zQ pc 13 (.istore 4) 2)) (zH pc 17 (zQ pc 15 (.iload 4) 2) (zQ pc 17 (.iload_n 2) 1))) (zH pc 22 (zH pc 21 (zQ pc 18 (.if_icmp .ge 32) 3) (zQ pc 21 (.aload_n 0) 1)) (zH pc 25 (zQ pc 22 (.getfield 11) 3) (zH pc 26 (zQ pc 25 (.iload_n 1) 1) (zQ pc 26 (.bipush 6) 2)))))) (zH pc 39 (zH pc 32 (zH pc 30 (zH pc 29 (zQ pc 28 .imul 1) (zQ pc 29 (.iload_n 3) 1)) (zH pc 31 (zQ pc 30 .iadd 1) (zQ pc 31 .iaload 1))) (zH pc 36 (zH pc 33 (zQ pc 32 (.aload_n 0) 1) (zQ pc 33 (.getfield 25) 3)) (zH pc 38 (zQ pc 36 (.iload 4) 2) (zQ pc 38 .iaload 1)))) (zH pc 47 (zH pc 43 (zH pc 42 (zQ pc 39 (.if_icmp .ne 5) 3) (zQ pc 42 (.iconst 1) 1)) (zH pc 44 (zQ pc 43 .ireturn 1) (zQ pc 44 (.iinc 4 1) 3))) (zH pc 53 (zH pc 50 (zQ pc 47 (.goto (-32)) 3) (zQ pc 50 (.iinc 3 1) 3)) (zH pc 56 (zQ pc 53 (.goto (-51)) 3) (zH pc 57 (zQ pc 56 (.iconst 0) 1) (zQ pc 57 .ireturn 1))))))) else none
def zc_94 (pc : Nat) : Option (Instr × Nat) := bif Nat.blt pc 123 then (zH pc 55 (zH pc 24 (zH pc 15 (zH pc 4 (zH pc 2 (zH pc 1 (zQ pc 0 (.iconst 0) 1) (zQ pc 1 (.istore_n 2) 1)) (zH pc 3 (zQ pc 2 (.iload_n 2) 1) (zQ pc 3 (.iload_n 1) 1))) (zH pc 8 (zH pc 7 (zQ pc 4 (.if_icmp .ge 79) 3) (zQ pc 7 (.aload_n 0) 1)) (zH pc 11 (zQ pc 8 (.getfield 34) 3) (zH pc 12 (zQ pc 11 (.aload_n 0) 1) (zQ pc 12 (.getfield 25) 3))))) (zH pc 19 (zH pc 17 (zH pc 16 (zQ pc 15 (.iload_n 2) 1) (zQ pc 16 .iaload 1)) (zH pc 18 (zQ pc 17 .dup2 1) (zQ pc 18 .iaload 1))) (zH pc 21 (zH pc 20 (zQ pc 19 (.iconst 1) 1) (zQ pc 20 .iadd 1)) (zH pc 22 (zQ pc 21 .iastore 1) (zH pc 23 (zQ pc 22 (.iload_n 2) 1) (zQ pc 23 (.istore_n 3) 1)))))) (zH pc 37 (zH pc 32 (zH pc 28 (zH pc 25 (zQ pc 24 (.iload_n 3) 1) (zQ pc 25 (.ifCond .le 40) 3)) (zH pc 29 (zQ pc 28 (.aload_n 0) 1) (zQ pc 29 (.getfield 28) 3))) (zH pc 34 (zH pc 33 (zQ pc 32 (.iload_n 3) 1) (zQ pc 33 (.iconst 1) 1)) (zH pc 35 (zQ pc 34 .isub 1) (zH pc 36 (zQ pc 35 .iaload 1) (zQ pc 36 (.aload_n 0) 1))))) (zH pc 46 (zH pc 41 (zH pc 40 (zQ pc 37 (.getfield 25) 3) (zQ pc 40 (.iload_n 2) 1)) (zH pc 42 (zQ pc 41 .iaload 1) (zH pc 45 (zQ pc 42 (.if_icmp .le 23) 3) (zQ pc 45 (.aload_n 0) 1)))) (zH pc 50 (zH pc 49 (zQ pc 46 (.getfield 28) 3) (zQ pc 49 (.iload_n 3) 1)) (zH pc 51 (zQ pc 50 (.aload_n 0) 1) (zH pc 54 (zQ pc 51 (.getfield 28) 3) (zQ pc 54 (.iload_n 3) 1))))))) (zH pc 90 (zH pc 70 (zH pc 59 (zH pc 57 (zH pc 56 (zQ pc 55 (.iconst 1) 1) (zQ pc 56 .isub 1)) (zH pc 58 (zQ pc 57 .iaload 1) (zQ pc 58 .iastore 1))) (zH pc 65 (zH pc 62 (zQ pc 59 (.iinc 3 (-1)) 3) (zQ pc 62 (.goto (-38)) 3)) (zH pc 66 (zQ pc 65 (.aload_n 0) 1) (zH pc 69 (zQ pc 66 (.getfield 28) 3) (zQ pc 69 (.iload_n 3) 1))))) (zH pc 77 (zH pc 74 (zH pc 71 (zQ pc 70 (.aload_n 0) 1) (zQ pc 71 (.getfield 25) 3)) (zH pc 75 (zQ pc 74 (.iload_n 2) 1) (zH pc 76 (zQ pc 75 .iaload 1) (zQ pc 76 .iastore 1)))) (zH pc 83 (zH pc 80 (zQ pc 77 (.iinc 2 1) 3) (zQ pc 80 (.goto (-78)) 3)) (zH pc 84 (zQ pc 83 (.aload_n 0) 1) (zH pc 87 (zQ pc 84 (.getfield 59) 3) (zQ pc 87 (.ifCond .eq 11) 3)))))) (zH pc 107 (zH pc 98 (zH pc 92 (zH pc 91 (zQ pc 90 (.aload_n 0) 1) (zQ pc 91 (.iload_n 1) 1)) (zH pc 95 (zQ pc 92 (.invokevirtual 87) 3) (zQ pc 95 (.ifCond .eq 17) 3))) (zH pc 102 (zH pc 99 (zQ pc 98 (.aload_n 0) 1) (zQ pc 99 (.getfield 28) 3)) (zH pc 103 (zQ pc 102 (.iconst 0) 1) (zH pc 104 (zQ pc 103 (.aload_n 0) 1) (zQ pc 104 (.getfield 31) 3))))) (zH pc 114 (zH pc 109 (zH pc 108 (zQ pc 107 (.iconst 0) 1) (zQ pc 108 (.iload_n 1) 1)) (zH pc 112 (zQ pc 109 (.invokestatic 90) 3) (zH pc 113 (zQ pc 112 (.aload_n 0) 1) (zQ pc 113 .dup 1)))) (zH pc 118 (zH pc 117 (zQ pc 114 (.getfield 59) 3) (zQ pc 117 (.iconst 1) 1)) (zH pc 119 (zQ pc 118 .iadd 1) (zH pc 122 (zQ pc 119 (.putfield 59) 3) (zQ pc 122 .return_ 1)))))))) else none
def zc_95 (pc : Nat) : Option (Instr × Nat) := bif Nat.blt pc 51 then (zH pc 23 (zH pc 11 (zH pc 3 (zH pc 1 (zQ pc 0 (.iconst 0) 1) (zH pc 2 (zQ pc 1 (.istore_n 2) 1) (zQ pc 2 (.iload_n 2) 1))) (zH pc 7 (zH pc 4 (zQ pc 3 (.iload_n 1) 1) (zQ pc 4 (.if_icmp .ge 45) 3)) (zH pc 8 (zQ pc 7 (.aload_n 0) 1) (zQ pc 8 (.getfield 28) 3)))) (zH pc 17 (zH pc 13 (zH pc 12 (zQ pc 11 (.iload_n 2) 1) (zQ pc 12 .iaload 1)) (zH pc 14 (zQ pc 13 (.aload_n 0) 1) (zQ pc 14 (.getfield 31) 3))) (zH pc 19 (zH pc 18 (zQ pc 17 (.iload_n 2) 1) (zQ pc 18 .iaload 1)) (zH pc 22 (zQ pc 19 (.if_icmp .eq 24) 3) (zQ pc 22 (.aload_n 0) 1))))) (zH pc 37 (zH pc 29 (zH pc 27 (zH pc 26 (zQ pc 23 (.getfield 28) 3) (zQ pc 26 (.iload_n 2) 1)) (zH pc 28 (zQ pc 27 .iaload 1) (zQ pc 28 (.aload_n 0) 1))) (zH pc 33 (zH pc 32 (zQ pc 29 (.getfield 31) 3) (zQ pc 32 (.iload_n 2) 1)) (zH pc 34 (zQ pc 33 .iaload 1) (zQ pc 34 (.if_icmp .ge 7) 3)))) (zH pc 43 (zH pc 41 (zH pc 38 (zQ pc 37 (.iconst 1) 1) (zQ pc 38 (.goto 4) 3)) (zH pc 42 (zQ pc 41 (.iconst 0) 1) (zQ pc 42 .ireturn 1))) (zH pc 49 (zH pc 46 (zQ pc 43 (.iinc 2 1) 3) (zQ pc 46 (.goto (-44)) 3)) (zH pc 50 (zQ pc 49 (.iconst 0) 1) (zQ pc 50 .ireturn 1)))))) else none
def zc_96 (pc : Nat) : Option (Instr × Nat) := bif Nat.blt pc 64 then (zH pc 31 (zH pc 16 (zH pc 8 (zH pc 2 (zH pc 1 (zQ pc 0 (.aload_n 0) 1) (zQ pc 1 (.aload_n 1) 1)) (zH pc 5 (zQ pc 2 (.getfield 15) 3) (zQ pc 5 (.putfield 21) 3))) (zH pc 10 (zH pc 9 (zQ pc 8 (.aload_n 0) 1) (zQ pc 9 (.aload_n 1) 1)) (zH pc 13 (zQ pc 10 (.getfield 24) 3) (zQ pc 13 (.putfield 27) 3)))) (zH pc 23 (zH pc 19 (zH pc 17 (zQ pc 16 (.aload_n 0) 1) (zQ pc 17 (.bipush (-2)) 2)) (zH pc 22 (zQ pc 19 (.putfield 28) 3) (zQ pc 22 (.aload_n 0) 1))) (zH pc 25 (zH pc 24 (zQ pc 23 (.iload_n 3) 1) (zQ pc 24 (.iconst 5) 1)) (zH pc 28 (zQ pc 25 (.invokestatic 31) 3) (zQ pc 28 (.putfield 37) 3))))) (zH pc 47 (zH pc 37 (zH pc 34 (zH pc 32 (zQ pc 31 (.iconst 0) 1) (zQ pc 32 (.istore 4) 2)) (zH pc 36 (zQ pc 34 (.iload 4) 2) (zQ pc 36 (.aload_n 0) 1))) (zH pc 43 (zH pc 40 (zQ pc 37 (.getfield 37) 3) (zQ pc 40 (.if_icmp .ge 23) 3)) (zH pc 44 (zQ pc 43 (.aload_n 0) 1) (zQ pc 44 (.getfield 9) 3)))) (zH pc 53 (zH pc 50 (zH pc 49 (zQ pc 47 (.iload 4) 2) (zQ pc 49 (.iload_n 2) 1)) (zH pc 51 (zQ pc 50 (.iload_n 3) 1) (zQ pc 51 (.iload 4) 2))) (zH pc 57 (zH pc 56 (zQ pc 53 (.invokestatic 40) 3) (zQ pc 56 .iastore 1)) (zH pc 60 (zQ pc 57 (.iinc 4 1) 3) (zH pc 63 (zQ pc 60 (.goto (-26)) 3) (zQ pc 63 .return_ 1))))))) else none
def zc_97 (pc : Nat) : Option (Instr × Nat) := bif Nat.blt pc 66 then (zH pc 33 (zH pc 16 (zH pc 8 (zH pc 2 (zH pc 1 (zQ pc 0 (.aload_n 0) 1) (zQ pc 1 (.aload_n 1) 1)) (zH pc 5 (zQ pc 2 (.getfield 15) 3) (zQ pc 5 (.putfield 21) 3))) (zH pc 10 (zH pc 9 (zQ pc 8 (.aload_n 0) 1) (zQ pc 9 (.aload_n 1) 1)) (zH pc 13 (zQ pc 10 (.getfield 24) 3) (zQ pc 13 (.putfield 27) 3)))) (zH pc 22 (zH pc 18 (zH pc 17 (zQ pc 16 (.aload_n 0) 1) (zQ pc 17 (.aload_n 1) 1)) (zH pc 21 (zQ pc 18 (.getfield 44) 3) (zQ pc 21 (.iconst (-1)) 1))) (zH pc 26 (zH pc 25 (zQ pc 22 (.if_icmp .ne 7) 3) (zQ pc 25 (.iconst (-1)) 1)) (zH pc 29 (zQ pc 26 (.goto 7) 3) (zH pc 30 (zQ pc 29 (.aload_n 1) 1) (zQ pc 30 (.getfield 44) 3)))))) (zH pc 49 (zH pc 41 (zH pc 37 (zH pc 36 (zQ pc 33 (.putfield 28) 3) (zQ pc 36 (.aload_n 0) 1)) (zH pc 38 (zQ pc 37 (.aload_n 1) 1) (zQ pc 38 (.getfield 47) 3))) (zH pc 45 (zH pc 42 (zQ pc 41 (.iconst 5) 1) (zQ pc 42 (.invokestatic 31) 3)) (zH pc 48 (zQ pc 45 (.putfield 37) 3) (zQ pc 48 (.aload_n 1) 1)))) (zH pc 57 (zH pc 53 (zH pc 52 (zQ pc 49 (.getfield 50) 3) (zQ pc 52 (.iconst 0) 1)) (zH pc 54 (zQ pc 53 (.aload_n 0) 1) (zQ pc 54 (.getfield 9) 3))) (zH pc 59 (zH pc 58 (zQ pc 57 (.iconst 0) 1) (zQ pc 58 (.aload_n 0) 1)) (zH pc 62 (zQ pc 59 (.getfield 37) 3) (zH pc 65 (zQ pc 62 (.invokestatic 51) 3) (zQ pc 65 .return_ 1))))))) else none
def zc_98 (pc : Nat) : Option (Instr × Nat) := bif Nat.blt pc 23 then (zH pc 10 (zH pc 5 (zH pc 1 (zQ pc 0 (.aload_n 0) 1) (zH pc 4 (zQ pc 1 (.getfield 37) 3) (zQ pc 4 (.iload_n 1) 1))) (zH pc 6 (zQ pc 5 .isub 1) (zH pc 7 (zQ pc 6 (.iconst 3) 1) (zQ pc 7 (.if_icmp .lt 14) 3)))) (zH pc 17 (zH pc 11 (zQ pc 10 (.aload_n 0) 1) (zH pc 14 (zQ pc 11 (.getfield 28) 3) (zQ pc 14 (.ifCond .ge 7) 3))) (zH pc 21 (zH pc 18 (zQ pc 17 (.iconst 1) 1) (zQ pc 18 (.goto 4) 3)) (zH pc 22 (zQ pc 21 (.iconst 0) 1) (zQ pc 22 .ireturn 1))))) else none
def zc_99 (pc : Nat) : Option (Instr × Nat) := bif Nat.blt pc 93 then (zH pc 38 (zH pc 19 (zH pc 10 (zH pc 5 (zH pc 1 (zQ pc 0 (.aload_n 0) 1) (zH pc 4 (zQ pc 1 (.getfield 37) 3) (zQ pc 4 (.iload_n 3) 1))) (zH pc 6 (zQ pc 5 .isub 1) (zH pc 7 (zQ pc 6 (.iconst 2) 1) (zQ pc 7 (.if_icmp .ge 5) 3)))) (zH pc 13 (zH pc 11 (zQ pc 10 (.iconst 0) 1) (zH pc 12 (zQ pc 11 .ireturn 1) (zQ pc 12 (.aload_n 1) 1))) (zH pc 15 (zH pc 14 (zQ pc 13 (.iload_n 2) 1) (zQ pc 14 (.aload_n 0) 1)) (zH pc 18 (zQ pc 15 (.getfield 9) 3) (zQ pc 18 (.iload_n 3) 1))))) (zH pc 28 (zH pc 23 (zH pc 20 (zQ pc 19 .iaload 1) (zH pc 22 (zQ pc 20 (.bipush 10) 2) (zQ pc 22 .imul 1))) (zH pc 24 (zQ pc 23 (.aload_n 0) 1) (zH pc 27 (zQ pc 24 (.getfield 9) 3) (zQ pc 27 (.iload_n 3) 1)))) (zH pc 31 (zH pc 29 (zQ pc 28 (.iconst 1) 1) (zH pc 30 (zQ pc 29 .iadd 1) (zQ pc 30 .iaload 1))) (zH pc 35 (zH pc 32 (zQ pc 31 .iadd 1) (zQ pc 32 (.invokevirtual 57) 3)) (zH pc 37 (zQ pc 35 (.istore 4) 2) (zQ pc 37 (.aload_n 0) 1)))))) (zH pc 68 (zH pc 52 (zH pc 46 (zH pc 41 (zQ pc 38 (.getfield 28) 3) (zH pc 43 (zQ pc 41 (.bipush (-2)) 2) (zQ pc 43 (.if_icmp .ne 29) 3))) (zH pc 48 (zQ pc 46 (.iload 4) 2) (zH pc 49 (zQ pc 48 (.aload_n 0) 1) (zQ pc 49 (.getfield 21) 3)))) (zH pc 58 (zH pc 55 (zQ pc 52 (.if_icmp .eq 16) 3) (zH pc 56 (zQ pc 55 (.aload_n 1) 1) (zQ pc 56 (.iload 4) 2))) (zH pc 64 (zH pc 61 (zQ pc 58 (.invokevirtual 62) 3) (zQ pc 61 (.ifCond .eq 7) 3)) (zH pc 65 (zQ pc 64 (.iconst 1) 1) (zQ pc 65 (.goto 27) 3))))) (zH pc 80 (zH pc 74 (zH pc 69 (zQ pc 68 (.iconst 0) 1) (zH pc 72 (zQ pc 69 (.goto 23) 3) (zQ pc 72 (.iload 4) 2))) (zH pc 75 (zQ pc 74 (.iconst (-1)) 1) (zH pc 78 (zQ pc 75 (.if_icmp .eq 16) 3) (zQ pc 78 (.iload 4) 2)))) (zH pc 87 (zH pc 81 (zQ pc 80 (.aload_n 0) 1) (zH pc 84 (zQ pc 81 (.getfield 28) 3) (zQ pc 84 (.if_icmp .ne 7) 3))) (zH pc 91 (zH pc 88 (zQ pc 87 (.iconst 1) 1) (zQ pc 88 (.goto 4) 3)) (zH pc 92 (zQ pc 91 (.iconst 0) 1) (zQ pc 92 .ireturn 1))))))) else none
def zc_100 (pc : Nat) : Option (Instr × Nat) := bif Nat.blt pc 38 then (zH pc 21 (zH pc 10 (zH pc 4 (zH pc 1 (zQ pc 0 (.iload_n 1) 1) (zQ pc 1 (.ifCond .lt 20) 3)) (zH pc 5 (zQ pc 4 (.iload_n 1) 1) (zH pc 7 (zQ pc 5 (.ldc 78) 2) (zQ pc 7 (.if_icmp .gt 14) 3)))) (zH pc 14 (zH pc 11 (zQ pc 10 (.iload_n 1) 1) (zH pc 13 (zQ pc 11 (.ldc 79) 2) (zQ pc 13 (.aload_n 0) 1))) (zH pc 17 (zQ pc 14 (.getfield 74) 3) (zH pc 18 (zQ pc 17 .isub 1) (zQ pc 18 (.if_icmp .le 5) 3))))) (zH pc 28 (zH pc 23 (zH pc 22 (zQ pc 21 (.iconst (-1)) 1) (zQ pc 22 .ireturn 1)) (zH pc 24 (zQ pc 23 (.aload_n 0) 1) (zH pc 25 (zQ pc 24 .dup 1) (zQ pc 25 (.getfield 74) 3)))) (zH pc 33 (zH pc 29 (zQ pc 28 (.iload_n 1) 1) (zH pc 30 (zQ pc 29 .iadd 1) (zQ pc 30 (.putfield 74) 3))) (zH pc 34 (zQ pc 33 (.aload_n 0) 1) (zH pc 37 (zQ pc 34 (.getfield 74) 3) (zQ pc 37 .ireturn 1)))))) else none
def zc_101 (pc : Nat) : Option (Instr × Nat) := bif Nat.blt pc 11 then (zH pc 5 (zH pc 1 (zQ pc 0 (.aload_n 0) 1) (zH pc 4 (zQ pc 1 (.getfield 12) 3) (zQ pc 4 (.iload_n 1) 1))) (zH pc 7 (zH pc 6 (zQ pc 5 (.iload_n 2) 1) (zQ pc 6 (.iload_n 3) 1)) (zH pc 10 (zQ pc 7 (.invokevirtual 80) 3) (zQ pc 10 .ireturn 1)))) else none
def zc_102 (pc : Nat) : Option (Instr × Nat) := bif Nat.blt pc 15 then (zH pc 6 (zH pc 4 (zH pc 1 (zQ pc 0 (.aload_n 0) 1) (zQ pc 1 (.getfield 12) 3)) (zH pc 5 (zQ pc 4 (.iload_n 1) 1) (zQ pc 5 (.iload_n 2) 1))) (zH pc 9 (zH pc 7 (zQ pc 6 (.iload_n 3) 1) (zQ pc 7 (.iload 4) 2)) (zH pc 11 (zQ pc 9 (.iload 5) 2) (zH pc 14 (zQ pc 11 (.invokevirtual 84) 3) (zQ pc 14 .ireturn 1))))) else none
def zc_103 (pc : Nat) : Option (Instr × Nat) := bif Nat.blt pc 10 then (zH pc 5 (zH pc 1 (zQ pc 0 (.aload_n 0) 1) (zH pc 4 (zQ pc 1 (.getfield 12) 3) (zQ pc 4 (.iload_n 1) 1))) (zH pc 6 (zQ pc 5 (.iload_n 2) 1) (zH pc 9 (zQ pc 6 (.invokevirtual 88) 3) (zQ pc 9 .ireturn 1)))) else none
def zc_104 (pc : Nat) : Option (Instr × Nat) := bif Nat.blt pc 11 then (zH pc 5 (zH pc 1 (zQ pc 0 (.aload_n 0) 1) (zH pc 4 (zQ pc 1 (.getfield 21) 3) (zQ pc 4 (.iload_n 1) 1))) (zH pc 7 (zH pc 6 (zQ pc 5 (.iload_n 2) 1) (zQ pc 6 (.iload_n 3) 1)) (zH pc 10 (zQ pc 7 (.invokevirtual 92) 3) (zQ pc 10 .ireturn 1)))) else none
def zc_105 (pc : Nat) : Option (Instr × Nat) := bif Nat.blt pc 25 then (zH pc 13 (zH pc 5 (zH pc 1 (zQ pc 0 (.aload_n 0) 1) (zH pc 4 (zQ pc 1 (.getfield 12) 3) (zQ pc 4 (.iload_n 1) 1))) (zH pc 11 (zH pc 8 (zQ pc 5 (.invokevirtual 95) 3) (zQ pc 8 (.ifCond .ne 5) 3)) (zH pc 12 (zQ pc 11 (.iconst 0) 1) (zQ pc 12 .ireturn 1)))) (zH pc 21 (zH pc 17 (zH pc 14 (zQ pc 13 (.aload_n 0) 1) (zQ pc 14 (.getfield 12) 3)) (zH pc 20 (zQ pc 17 (.getfield 99) 3) (zQ pc 20 (.iload_n 1) 1))) (zH pc 23 (zH pc 22 (zQ pc 21 (.iload_n 2) 1) (zQ pc 22 .bastore 1)) (zH pc 24 (zQ pc 23 (.iconst 1) 1) (zQ pc 24 .ireturn 1))))) else none
def zc_106 (pc : Nat) : Option (Instr × Nat) := bif Nat.blt pc 25 then (zH pc 13 (zH pc 5 (zH pc 1 (zQ pc 0 (.aload_n 0) 1) (zH pc 4 (zQ pc 1 (.getfield 12) 3) (zQ pc 4 (.iload_n 1) 1))) (zH pc 11 (zH pc 8 (zQ pc 5 (.invokevirtual 95) 3) (zQ pc 8 (.ifCond .ne 5) 3)) (zH pc 12 (zQ pc 11 (.iconst 0) 1) (zQ pc 12 .ireturn 1)))) (zH pc 21 (zH pc 17 (zH pc 14 (zQ pc 13 (.aload_n 0) 1) (zQ pc 14 (.getfield 12) 3)) (zH pc 20 (zQ pc 17 (.getfield 103) 3) (zQ pc 20 (.iload_n 1) 1))) (zH pc 23 (zH pc 22 (zQ pc 21 (.iload_n 2) 1) (zQ pc 22 .bastore 1)) (zH pc 24 (zQ pc 23 (.iconst 1) 1) (zQ pc 24 .ireturn 1))))) else none
def zc_107 (pc : Nat) : Option (Instr × Nat) := bif Nat.blt pc 32 then (zH pc 16 (zH pc 8 (zH pc 4 (zH pc 1 (zQ pc 0 (.aload_n 0) 1) (zQ pc 1 (.getfield 21) 3)) (zH pc 5 (zQ pc 4 (.iload_n 1) 1) (zQ pc 5 (.invokevirtual 106) 3))) (zH pc 12 (zH pc 11 (zQ pc 8 (.ifCond .eq 22) 3) (zQ pc 11 (.aload_n 0) 1)) (zH pc 15 (zQ pc 12 (.getfield 21) 3) (zQ pc 15 (.aload_n 0) 1)))) (zH pc 24 (zH pc 22 (zH pc 19 (zQ pc 16 (.getfield 21) 3) (zQ pc 19 (.getfield 109) 3)) (zH pc 23 (zQ pc 22 (.iload_n 1) 1) (zQ pc 23 .aaload 1))) (zH pc 30 (zH pc 27 (zQ pc 24 (.invokevirtual 113) 3) (zQ pc 27 (.goto 4) 3)) (zH pc 31 (zQ pc 30 (.iconst (-1)) 1) (zQ pc 31 .ireturn 1))))) else none
def zc_108 (pc : Nat) : Option (Instr × Nat) := bif Nat.blt pc 41 then (zH pc 22 (zH pc 11 (zH pc 4 (zH pc 1 (zQ pc 0 (.aload_n 0) 1) (zQ pc 1 (.getfield 21) 3)) (zH pc 5 (zQ pc 4 (.iload_n 1) 1) (zH pc 8 (zQ pc 5 (.invokevirtual 117) 3) (zQ pc 8 (.ifCond .eq 13) 3)))) (zH pc 16 (zH pc 12 (zQ pc 11 (.iload_n 2) 1) (zH pc 15 (zQ pc 12 (.ifCond .lt 9) 3) (zQ pc 15 (.iload_n 2) 1))) (zH pc 18 (zQ pc 16 (.bipush 10) 2) (zH pc 21 (zQ pc 18 (.if_icmp .lt 5) 3) (zQ pc 21 (.iconst (-1)) 1))))) (zH pc 31 (zH pc 24 (zH pc 23 (zQ pc 22 .ireturn 1) (zQ pc 23 (.aload_n 0) 1)) (zH pc 27 (zQ pc 24 (.getfield 21) 3) (zH pc 28 (zQ pc 27 (.aload_n 0) 1) (zQ pc 28 (.getfield 21) 3)))) (zH pc 36 (zH pc 34 (zQ pc 31 (.getfield 109) 3) (zH pc 35 (zQ pc 34 (.iload_n 1) 1) (zQ pc 35 .aaload 1))) (zH pc 37 (zQ pc 36 (.iload_n 2) 1) (zH pc 40 (zQ pc 37 (.invokevirtual 120) 3) (zQ pc 40 .ireturn 1)))))) else none
def zc_109 (pc : Nat) : Option (Instr × Nat) := bif Nat.blt pc 61 then (zH pc 30 (zH pc 18 (zH pc 8 (zH pc 4 (zH pc 1 (zQ pc 0 (.aload_n 0) 1) (zQ pc 1 (.getfield 21) 3)) (zH pc 5 (zQ pc 4 (.iload_n 1) 1) (zQ pc 5 (.invokevirtual 117) 3))) (zH pc 12 (zH pc 11 (zQ pc 8 (.ifCond .eq 19) 3) (zQ pc 11 (.aload_n 0) 1)) (zH pc 15 (zQ pc 12 (.getfield 21) 3) (zQ pc 15 (.getfield 109) 3)))) (zH pc 24 (zH pc 20 (zH pc 19 (zQ pc 18 (.iload_n 1) 1) (zQ pc 19 .aaload 1)) (zH pc 23 (zQ pc 20 (.getfield 124) 3) (zQ pc 23 (.iconst 5) 1))) (zH pc 28 (zH pc 27 (zQ pc 24 (.if_icmp .eq 5) 3) (zQ pc 27 (.iconst 0) 1)) (zH pc 29 (zQ pc 28 .ireturn 1) (zQ pc 29 (.aload_n 0) 1))))) (zH pc 47 (zH pc 38 (zH pc 36 (zH pc 33 (zQ pc 30 (.getfield 21) 3) (zQ pc 33 (.getfield 109) 3)) (zH pc 37 (zQ pc 36 (.iload_n 1) 1) (zQ pc 37 .aaload 1))) (zH pc 43 (zH pc 40 (zQ pc 38 (.bipush 6) 2) (zQ pc 40 (.putfield 124) 3)) (zH pc 44 (zQ pc 43 (.aload_n 0) 1) (zQ pc 44 (.getfield 21) 3)))) (zH pc 53 (zH pc 51 (zH pc 50 (zQ pc 47 (.getfield 109) 3) (zQ pc 50 (.iload_n 1) 1)) (zH pc 52 (zQ pc 51 .aaload 1) (zQ pc 52 (.aload_n 0) 1))) (zH pc 59 (zH pc 56 (zQ pc 53 (.getfield 74) 3) (zQ pc 56 (.putfield 129) 3)) (zH pc 60 (zQ pc 59 (.iconst 1) 1) (zQ pc 60 .ireturn 1)))))) else none
def zc_110 (pc : Nat) : Option (Instr × Nat) := bif Nat.blt pc 92 then (zH pc 46 (zH pc 22 (zH pc 12 (zH pc 5 (zH pc 1 (zQ pc 0 (.aload_n 0) 1) (zH pc 4 (zQ pc 1 (.getfield 21) 3) (zQ pc 4 (.iload_n 1) 1))) (zH pc 8 (zQ pc 5 (.invokevirtual 117) 3) (zH pc 11 (zQ pc 8 (.ifCond .ne 5) 3) (zQ pc 11 (.iconst (-1)) 1)))) (zH pc 17 (zH pc 13 (zQ pc 12 .ireturn 1) (zH pc 14 (zQ pc 13 (.aload_n 0) 1) (zQ pc 14 (.getfield 21) 3))) (zH pc 20 (zQ pc 17 (.getfield 109) 3) (zH pc 21 (zQ pc 20 (.iload_n 1) 1) (zQ pc 21 .aaload 1))))) (zH pc 31 (zH pc 25 (zH pc 23 (zQ pc 22 (.astore_n 2) 1) (zH pc 24 (zQ pc 23 (.iconst 0) 1) (zQ pc 24 (.istore_n 3) 1))) (zH pc 26 (zQ pc 25 (.aload_n 2) 1) (zH pc 29 (zQ pc 26 (.getfield 124) 3) (zQ pc 29 (.bipush 6) 2)))) (zH pc 38 (zH pc 34 (zQ pc 31 (.if_icmp .ne 51) 3) (zH pc 35 (zQ pc 34 (.aload_n 0) 1) (zQ pc 35 (.getfield 67) 3))) (zH pc 42 (zH pc 39 (zQ pc 38 (.aload_n 2) 1) (zQ pc 39 (.getfield 129) 3)) (zH pc 43 (zQ pc 42 (.aload_n 0) 1) (zQ pc 43 (.getfield 74) 3)))))) (zH pc 68 (zH pc 58 (zH pc 51 (zH pc 47 (zQ pc 46 (.aload_n 0) 1) (zH pc 50 (zQ pc 47 (.getfield 12) 3) (zQ pc 50 (.aload_n 2) 1))) (zH pc 54 (zQ pc 51 (.invokevirtual 132) 3) (zH pc 57 (zQ pc 54 (.invokevirtual 136) 3) (zQ pc 57 (.iload_n 1) 1)))) (zH pc 63 (zH pc 61 (zQ pc 58 (.invokevirtual 140) 3) (zH pc 62 (zQ pc 61 (.istore_n 3) 1) (zQ pc 62 (.aload_n 0) 1))) (zH pc 66 (zQ pc 63 (.getfield 51) 3) (zH pc 67 (zQ pc 66 (.iload_n 1) 1) (zQ pc 67 (.iload_n 3) 1))))) (zH pc 79 (zH pc 74 (zH pc 69 (zQ pc 68 (.aload_n 2) 1) (zH pc 72 (zQ pc 69 (.getfield 129) 3) (zQ pc 72 (.ldc 144) 2))) (zH pc 75 (zQ pc 74 .idiv 1) (zH pc 76 (zQ pc 75 (.aload_n 0) 1) (zQ pc 76 (.invokevirtual 145) 3)))) (zH pc 86 (zH pc 82 (zQ pc 79 (.invokevirtual 148) 3) (zH pc 83 (zQ pc 82 (.aload_n 0) 1) (zQ pc 83 (.getfield 21) 3))) (zH pc 90 (zH pc 87 (zQ pc 86 (.aload_n 2) 1) (zQ pc 87 (.invokevirtual 152) 3)) (zH pc 91 (zQ pc 90 (.iload_n 3) 1) (zQ pc 91 .ireturn 1))))))) else none
def zc_111 (pc : Nat) : Option (Instr × Nat) := bif Nat.blt pc 33 then (zH pc 16 (zH pc 8 (zH pc 4 (zH pc 1 (zQ pc 0 (.aload_n 0) 1) (zQ pc 1 (.getfield 58) 3)) (zH pc 5 (zQ pc 4 (.lload_n 1) 1) (zQ pc 5 (.invokevirtual 156) 3))) (zH pc 12 (zH pc 9 (zQ pc 8 (.aload_n 0) 1) (zQ pc 9 (.getfield 58) 3)) (zH pc 13 (zQ pc 12 (.lload_n 3) 1) (zQ pc 13 (.invokevirtual 156) 3)))) (zH pc 25 (zH pc 20 (zH pc 17 (zQ pc 16 (.aload_n 0) 1) (zQ pc 17 (.getfield 58) 3)) (zH pc 22 (zQ pc 20 (.lload 5) 2) (zQ pc 22 (.invokevirtual 156) 3))) (zH pc 29 (zH pc 26 (zQ pc 25 (.aload_n 0) 1) (zQ pc 26 (.getfield 58) 3)) (zH pc 32 (zQ pc 29 (.getfield 160) 3) (zQ pc 32 .ireturn 1))))) else none
def zc_112 (pc : Nat) : Option (Instr × Nat) := bif Nat.blt pc 40 then (zH pc 21 (zH pc 9 (zH pc 4 (zH pc 1 (zQ pc 0 (.aload_n 0) 1) (zQ pc 1 (.getfield 71) 3)) (zH pc 7 (zQ pc 4 (.invokevirtual 163) 3) (zH pc 8 (zQ pc 7 (.istore_n 1) 1) (zQ pc 8 (.aload_n 0) 1)))) (zH pc 16 (zH pc 12 (zQ pc 9 (.getfield 58) 3) (zH pc 13 (zQ pc 12 (.iconst 0) 1) (zQ pc 13 (.putfield 160) 3))) (zH pc 17 (zQ pc 16 (.iload_n 1) 1) (zH pc 20 (zQ pc 17 (.ifCond .ne 21) 3) (zQ pc 20 (.aload_n 0) 1))))) (zH pc 30 (zH pc 25 (zH pc 24 (zQ pc 21 (.getfield 71) 3) (zQ pc 24 (.astore_n 2) 1)) (zH pc 26 (zQ pc 25 (.aload_n 0) 1) (zH pc 27 (zQ pc 26 (.aload_n 0) 1) (zQ pc 27 (.getfield 67) 3)))) (zH pc 35 (zH pc 33 (zQ pc 30 (.putfield 71) 3) (zH pc 34 (zQ pc 33 (.aload_n 0) 1) (zQ pc 34 (.aload_n 2) 1))) (zH pc 38 (zQ pc 35 (.putfield 67) 3) (zH pc 39 (zQ pc 38 (.iload_n 1) 1) (zQ pc 39 .ireturn 1)))))) else none
def zc_113 (pc : Nat) : Option (Instr × Nat) := bif Nat.blt pc 14 then (zH pc 6 (zH pc 4 (zH pc 1 (zQ pc 0 (.aload_n 0) 1) (zQ pc 1 (.getfield 51) 3)) (zH pc 5 (zQ pc 4 (.iload_n 1) 1) (zQ pc 5 (.iload_n 2) 1))) (zH pc 10 (zH pc 7 (zQ pc 6 (.aload_n 0) 1) (zQ pc 7 (.invokevirtual 145) 3)) (zH pc 13 (zQ pc 10 (.invokevirtual 166) 3) (zQ pc 13 .ireturn 1)))) else none
def zc_114 (pc : Nat) : Option (Instr × Nat) := bif Nat.blt pc 69 then (zH pc 34 (zH pc 15 (zH pc 6 (zH pc 4 (zH pc 1 (zQ pc 0 (.iload_n 2) 1) (zQ pc 1 (.ifCond .lt 32) 3)) (zH pc 5 (zQ pc 4 (.iload_n 2) 1) (zQ pc 5 (.iload_n 3) 1))) (zH pc 10 (zH pc 9 (zQ pc 6 (.if_icmp .gt 27) 3) (zQ pc 9 (.iload_n 3) 1)) (zH pc 12 (zQ pc 10 (.bipush 11) 2) (zQ pc 12 (.if_icmp .gt 21) 3)))) (zH pc 23 (zH pc 20 (zH pc 17 (zQ pc 15 (.iload 4) 2) (zQ pc 17 (.ifCond .lt 16) 3)) (zH pc 22 (zQ pc 20 (.iload 4) 2) (zQ pc 22 (.aload_n 0) 1))) (zH pc 29 (zH pc 26 (zQ pc 23 (.invokevirtual 145) 3) (zQ pc 26 (.if_icmp .gt 7) 3)) (zH pc 30 (zQ pc 29 (.iconst 1) 1) (zH pc 33 (zQ pc 30 (.goto 4) 3) (zQ pc 33 (.iconst 0) 1)))))) (zH pc 53 (zH pc 42 (zH pc 38 (zH pc 36 (zQ pc 34 (.istore 5) 2) (zQ pc 36 (.iload 5) 2)) (zH pc 41 (zQ pc 38 (.ifCond .eq 29) 3) (zQ pc 41 (.aload_n 0) 1))) (zH pc 46 (zH pc 45 (zQ pc 42 (.getfield 21) 3) (zQ pc 45 (.iload_n 1) 1)) (zH pc 49 (zQ pc 46 (.invokevirtual 170) 3) (zH pc 52 (zQ pc 49 (.ifCond .eq 18) 3) (zQ pc 52 (.aload_n 0) 1))))) (zH pc 59 (zH pc 57 (zH pc 56 (zQ pc 53 (.getfield 51) 3) (zQ pc 56 (.iload_n 1) 1)) (zH pc 58 (zQ pc 57 (.iload_n 2) 1) (zQ pc 58 (.iload_n 3) 1))) (zH pc 64 (zH pc 61 (zQ pc 59 (.iload 4) 2) (zQ pc 61 (.invokevirtual 173) 3)) (zH pc 67 (zQ pc 64 (.goto 4) 3) (zH pc 68 (zQ pc 67 (.iconst (-1)) 1) (zQ pc 68 .ireturn 1))))))) else none
def zc_115 (pc : Nat) : Option (Instr × Nat) := bif Nat.blt pc 51 then (zH pc 24 (zH pc 11 (zH pc 3 (zH pc 1 (zQ pc 0 (.aload_n 0) 1) (zH pc 2 (zQ pc 1 (.iload_n 1) 1) (zQ pc 2 (.iload_n 2) 1))) (zH pc 7 (zH pc 4 (zQ pc 3 (.iload_n 3) 1) (zQ pc 4 (.invokevirtual 176) 3)) (zH pc 10 (zQ pc 7 (.ifCond .ne 5) 3) (zQ pc 10 (.iconst (-1)) 1)))) (zH pc 16 (zH pc 12 (zQ pc 11 .ireturn 1) (zH pc 13 (zQ pc 12 (.aload_n 0) 1) (zQ pc 13 (.getfield 21) 3))) (zH pc 20 (zH pc 17 (zQ pc 16 (.aload_n 0) 1) (zQ pc 17 (.getfield 21) 3)) (zH pc 23 (zQ pc 20 (.getfield 109) 3) (zQ pc 23 (.iload_n 1) 1))))) (zH pc 36 (zH pc 27 (zH pc 25 (zQ pc 24 .aaload 1) (zH pc 26 (zQ pc 25 (.iload_n 2) 1) (zQ pc 26 (.iload_n 3) 1))) (zH pc 32 (zH pc 30 (zQ pc 27 (.invokevirtual 179) 3) (zQ pc 30 (.istore 4) 2)) (zH pc 33 (zQ pc 32 (.aload_n 0) 1) (zQ pc 33 (.getfield 21) 3)))) (zH pc 44 (zH pc 40 (zH pc 37 (zQ pc 36 (.aload_n 0) 1) (zQ pc 37 (.getfield 21) 3)) (zH pc 43 (zQ pc 40 (.getfield 109) 3) (zQ pc 43 (.iload_n 1) 1))) (zH pc 48 (zH pc 45 (zQ pc 44 .aaload 1) (zQ pc 45 (.invokevirtual 152) 3)) (zH pc 50 (zQ pc 48 (.iload 4) 2) (zQ pc 50 .ireturn 1)))))) else none
def zc_116 (pc : Nat) : Option (Instr × Nat) := bif Nat.blt pc 102 then (zH pc 52 (zH pc 26 (zH pc 10 (zH pc 6 (zH pc 1 (zQ pc 0 (.iload_n 1) 1) (zH pc 3 (zQ pc 1 (.iload 4) 2) (zQ pc 3 (.if_icmp .eq 26) 3))) (zH pc 8 (zH pc 7 (zQ pc 6 (.aload_n 0) 1) (zQ pc 7 (.iload_n 1) 1)) (zH pc 9 (zQ pc 8 (.iload_n 2) 1) (zQ pc 9 (.iload_n 3) 1)))) (zH pc 17 (zH pc 13 (zQ pc 10 (.invokevirtual 176) 3) (zH pc 16 (zQ pc 13 (.ifCond .eq 16) 3) (zQ pc 16 (.aload_n 0) 1))) (zH pc 21 (zH pc 19 (zQ pc 17 (.iload 4) 2) (zQ pc 19 (.iload 5) 2)) (zH pc 23 (zQ pc 21 (.iload 6) 2) (zQ pc 23 (.invokevirtual 176) 3))))) (zH pc 35 (zH pc 31 (zH pc 29 (zQ pc 26 (.ifCond .ne 5) 3) (zH pc 30 (zQ pc 29 (.iconst (-1)) 1) (zQ pc 30 .ireturn 1))) (zH pc 33 (zH pc 32 (zQ pc 31 (.aload_n 0) 1) (zQ pc 32 (.iload_n 1) 1)) (zH pc 34 (zQ pc 33 (.iload_n 2) 1) (zQ pc 34 (.iload_n 3) 1)))) (zH pc 43 (zH pc 39 (zH pc 38 (zQ pc 35 (.invokevirtual 183) 3) (zQ pc 38 (.iconst 5) 1)) (zH pc 42 (zQ pc 39 (.if_icmp .ne 17) 3) (zQ pc 42 (.aload_n 0) 1))) (zH pc 47 (zH pc 45 (zQ pc 43 (.iload 4) 2) (zQ pc 45 (.iload 5) 2)) (zH pc 49 (zQ pc 47 (.iload 6) 2) (zQ pc 49 (.invokevirtual 183) 3)))))) (zH pc 78 (zH pc 61 (zH pc 57 (zH pc 53 (zQ pc 52 (.iconst 5) 1) (zH pc 56 (zQ pc 53 (.if_icmp .eq 5) 3) (zQ pc 56 (.iconst (-1)) 1))) (zH pc 59 (zH pc 58 (zQ pc 57 .ireturn 1) (zQ pc 58 (.aload_n 0) 1)) (zH pc 60 (zQ pc 59 (.iload_n 1) 1) (zQ pc 60 (.iload_n 2) 1)))) (zH pc 68 (zH pc 64 (zH pc 62 (zQ pc 61 (.iload_n 3) 1) (zQ pc 62 (.iload 4) 2)) (zH pc 66 (zQ pc 64 (.iload 5) 2) (zQ pc 66 (.iload 6) 2))) (zH pc 74 (zH pc 71 (zQ pc 68 (.invokevirtual 186) 3) (zQ pc 71 (.ifCond .eq 7) 3)) (zH pc 75 (zQ pc 74 (.iconst 1) 1) (zQ pc 75 (.goto 4) 3))))) (zH pc 88 (zH pc 82 (zH pc 79 (zQ pc 78 (.iconst 0) 1) (zH pc 80 (zQ pc 79 (.aload_n 0) 1) (zQ pc 80 (.iload 4) 2))) (zH pc 86 (zH pc 84 (zQ pc 82 (.iload 5) 2) (zQ pc 84 (.iload 6) 2)) (zH pc 87 (zQ pc 86 (.iload_n 1) 1) (zQ pc 87 (.iload_n 2) 1)))) (zH pc 96 (zH pc 92 (zH pc 89 (zQ pc 88 (.iload_n 3) 1) (zQ pc 89 (.invokevirtual 186) 3)) (zH pc 95 (zQ pc 92 (.ifCond .eq 7) 3) (zQ pc 95 (.iconst 2) 1))) (zH pc 100 (zH pc 99 (zQ pc 96 (.goto 4) 3) (zQ pc 99 (.iconst 0) 1)) (zH pc 101 (zQ pc 100 .iadd 1) (zQ pc 101 .ireturn 1))))))) else none
def zc_117 (pc : Nat) : Option (Instr × Nat) := bif Nat.blt pc 53 then (zH pc 24 (zH pc 12 (zH pc 3 (zH pc 1 (zQ pc 0 (.aload_n 0) 1) (zH pc 2 (zQ pc 1 (.iload_n 1) 1) (zQ pc 2 (.iload_n 2) 1))) (zH pc 7 (zH pc 4 (zQ pc 3 (.iload_n 3) 1) (zQ pc 4 (.invokevirtual 176) 3)) (zH pc 10 (zQ pc 7 (.ifCond .eq 14) 3) (zQ pc 10 (.iload 4) 2)))) (zH pc 18 (zH pc 15 (zQ pc 12 (.ifCond .lt 9) 3) (zH pc 17 (zQ pc 15 (.iload 4) 2) (zQ pc 17 (.iconst 1) 1))) (zH pc 22 (zH pc 21 (zQ pc 18 (.if_icmp .le 5) 3) (zQ pc 21 (.iconst (-1)) 1)) (zH pc 23 (zQ pc 22 .ireturn 1) (zQ pc 23 (.aload_n 0) 1))))) (zH pc 37 (zH pc 29 (zH pc 27 (zQ pc 24 (.getfield 30) 3) (zH pc 28 (zQ pc 27 (.iload_n 1) 1) (zQ pc 28 (.iload_n 2) 1))) (zH pc 33 (zH pc 30 (zQ pc 29 (.iload_n 3) 1) (zQ pc 30 (.invokevirtual 190) 3)) (zH pc 35 (zQ pc 33 (.istore 5) 2) (zQ pc 35 (.iload 4) 2)))) (zH pc 45 (zH pc 40 (zQ pc 37 (.ifCond .ne 8) 3) (zH pc 42 (zQ pc 40 (.iload 5) 2) (zQ pc 42 (.goto 10) 3))) (zH pc 49 (zH pc 46 (zQ pc 45 (.aload_n 0) 1) (zQ pc 46 (.getfield 30) 3)) (zH pc 52 (zQ pc 49 (.getfield 193) 3) (zQ pc 52 .ireturn 1)))))) else none
def zc_118 (pc : Nat) : Option (Instr × Nat) := bif Nat.blt pc 27 then (zH pc 13 (zH pc 5 (zH pc 1 (zQ pc 0 (.aload_n 0) 1) (zH pc 4 (zQ pc 1 (.getfield 37) 3) (zQ pc 4 (.iload_n 1) 1))) (zH pc 7 (zH pc 6 (zQ pc 5 (.iload_n 2) 1) (zQ pc 6 (.iload_n 3) 1)) (zH pc 10 (zQ pc 7 (.invokevirtual 196) 3) (zQ pc 10 (.ifCond .eq 15) 3)))) (zH pc 19 (zH pc 17 (zH pc 14 (zQ pc 13 (.aload_n 0) 1) (zQ pc 14 (.getfield 37) 3)) (zH pc 18 (zQ pc 17 (.iload_n 3) 1) (zQ pc 18 (.iconst 0) 1))) (zH pc 25 (zH pc 22 (zQ pc 19 (.invokevirtual 199) 3) (zQ pc 22 (.goto 4) 3)) (zH pc 26 (zQ pc 25 (.iconst (-1)) 1) (zQ pc 26 .ireturn 1))))) else none
def zc_119 (pc : Nat) : Option (Instr × Nat) := bif Nat.blt pc 43 then (zH pc 21 (zH pc 13 (zH pc 5 (zH pc 2 (zQ pc 0 (.iload 4) 2) (zQ pc 2 (.ifCond .lt 11) 3)) (zH pc 7 (zQ pc 5 (.iload 4) 2) (zH pc 10 (zQ pc 7 (.sipush 1000) 3) (zQ pc 10 (.if_icmp .le 5) 3)))) (zH pc 16 (zH pc 14 (zQ pc 13 (.iconst (-1)) 1) (zH pc 15 (zQ pc 14 .ireturn 1) (zQ pc 15 (.aload_n 0) 1))) (zH pc 19 (zQ pc 16 (.getfield 37) 3) (zH pc 20 (zQ pc 19 (.iload_n 1) 1) (zQ pc 20 (.iload_n 2) 1))))) (zH pc 32 (zH pc 25 (zH pc 22 (zQ pc 21 (.iload_n 3) 1) (zQ pc 22 (.invokevirtual 196) 3)) (zH pc 28 (zQ pc 25 (.ifCond .eq 16) 3) (zH pc 29 (zQ pc 28 (.aload_n 0) 1) (zQ pc 29 (.getfield 37) 3)))) (zH pc 38 (zH pc 33 (zQ pc 32 (.iload_n 3) 1) (zH pc 35 (zQ pc 33 (.iload 4) 2) (zQ pc 35 (.invokevirtual 203) 3))) (zH pc 41 (zQ pc 38 (.goto 4) 3) (zH pc 42 (zQ pc 41 (.iconst (-1)) 1) (zQ pc 42 .ireturn 1)))))) else none
def zc_120 (pc : Nat) : Option (Instr × Nat) := bif Nat.blt pc 80 then (zH pc 36 (zH pc 16 (zH pc 7 (zH pc 2 (zH pc 1 (zQ pc 0 (.aload_n 0) 1) (zQ pc 1 (.iload_n 1) 1)) (zH pc 3 (zQ pc 2 (.iload_n 2) 1) (zH pc 4 (zQ pc 3 (.iload_n 3) 1) (zQ pc 4 (.invokevirtual 176) 3)))) (zH pc 11 (zH pc 10 (zQ pc 7 (.ifCond .ne 5) 3) (zQ pc 10 (.iconst (-1)) 1)) (zH pc 12 (zQ pc 11 .ireturn 1) (zH pc 13 (zQ pc 12 (.aload_n 0) 1) (zQ pc 13 (.getfield 21) 3))))) (zH pc 24 (zH pc 20 (zH pc 19 (zQ pc 16 (.getfield 109) 3) (zQ pc 19 (.iload_n 1) 1)) (zH pc 21 (zQ pc 20 .aaload 1) (zH pc 23 (zQ pc 21 (.astore 4) 2) (zQ pc 23 (.aload_n 0) 1)))) (zH pc 30 (zH pc 27 (zQ pc 24 (.getfield 21) 3) (zH pc 29 (zQ pc 27 (.aload 4) 2) (zQ pc 29 (.iload_n 2) 1))) (zH pc 31 (zQ pc 30 (.iload_n 3) 1) (zH pc 34 (zQ pc 31 (.invokevirtual 179) 3) (zQ pc 34 (.istore 5) 2)))))) (zH pc 57 (zH pc 45 (zH pc 39 (zH pc 38 (zQ pc 36 (.iload 5) 2) (zQ pc 38 (.iconst 2) 1)) (zH pc 42 (zQ pc 39 (.if_icmp .eq 9) 3) (zH pc 44 (zQ pc 42 (.iload 5) 2) (zQ pc 44 (.iconst 5) 1)))) (zH pc 52 (zH pc 48 (zQ pc 45 (.if_icmp .ne 23) 3) (zH pc 49 (zQ pc 48 (.aload_n 0) 1) (zQ pc 49 (.getfield 44) 3))) (zH pc 54 (zQ pc 52 (.aload 4) 2) (zH pc 56 (zQ pc 54 (.iload 5) 2) (zQ pc 56 (.iconst 2) 1))))) (zH pc 68 (zH pc 61 (zH pc 60 (zQ pc 57 (.if_icmp .ne 7) 3) (zQ pc 60 (.iconst 1) 1)) (zH pc 64 (zQ pc 61 (.goto 4) 3) (zH pc 65 (zQ pc 64 (.iconst 0) 1) (zQ pc 65 (.invokevirtual 206) 3)))) (zH pc 74 (zH pc 69 (zQ pc 68 (.aload_n 0) 1) (zH pc 72 (zQ pc 69 (.getfield 21) 3) (zQ pc 72 (.aload 4) 2))) (zH pc 77 (zQ pc 74 (.invokevirtual 152) 3) (zH pc 79 (zQ pc 77 (.iload 5) 2) (zQ pc 79 .ireturn 1))))))) else none
def zc_121 (pc : Nat) : Option (Instr × Nat) := bif Nat.blt pc 46 then (zH pc 24 (zH pc 11 (zH pc 5 (zH pc 1 (zQ pc 0 (.iload_n 1) 1) (zH pc 4 (zQ pc 1 (.ifCond .lt 8) 3) (zQ pc 4 (.iload_n 1) 1))) (zH pc 9 (zH pc 6 (zQ pc 5 (.iconst 3) 1) (zQ pc 6 (.if_icmp .le 5) 3)) (zH pc 10 (zQ pc 9 (.iconst (-1)) 1) (zQ pc 10 .ireturn 1)))) (zH pc 18 (zH pc 12 (zQ pc 11 (.aload_n 0) 1) (zH pc 15 (zQ pc 12 (.getfield 44) 3) (zQ pc 15 (.invokevirtual 210) 3))) (zH pc 20 (zH pc 19 (zQ pc 18 (.istore_n 2) 1) (zQ pc 19 (.iload_n 1) 1)) (zH pc 23 (zQ pc 20 (.ifCond .ne 5) 3) (zQ pc 23 (.iload_n 2) 1))))) (zH pc 37 (zH pc 27 (zH pc 25 (zQ pc 24 .ireturn 1) (zH pc 26 (zQ pc 25 (.iload_n 1) 1) (zQ pc 26 (.iload_n 2) 1))) (zH pc 31 (zH pc 30 (zQ pc 27 (.if_icmp .gt 17) 3) (zQ pc 30 (.aload_n 0) 1)) (zH pc 34 (zQ pc 31 (.getfield 44) 3) (zQ pc 34 (.getfield 213) 3)))) (zH pc 40 (zH pc 38 (zQ pc 37 (.iload_n 1) 1) (zH pc 39 (zQ pc 38 (.iconst 1) 1) (zQ pc 39 .isub 1))) (zH pc 44 (zH pc 41 (zQ pc 40 .iaload 1) (zQ pc 41 (.goto 4) 3)) (zH pc 45 (zQ pc 44 (.iconst (-1)) 1) (zQ pc 45 .ireturn 1)))))) else none
def zc_122 (pc : Nat) : Option (Instr × Nat) := bif Nat.blt pc 41 then (zH pc 22 (zH pc 11 (zH pc 4 (zH pc 1 (zQ pc 0 (.aload_n 0) 1) (zQ pc 1 (.getfield 12) 3)) (zH pc 5 (zQ pc 4 (.iload_n 1) 1) (zH pc 8 (zQ pc 5 (.invokevirtual 95) 3) (zQ pc 8 (.ifCond .eq 14) 3)))) (zH pc 15 (zH pc 12 (zQ pc 11 (.aload_n 0) 1) (zQ pc 12 (.getfield 44) 3)) (zH pc 18 (zQ pc 15 (.invokevirtual 210) 3) (zH pc 19 (zQ pc 18 (.iconst (-1)) 1) (zQ pc 19 (.if_icmp .ne 5) 3))))) (zH pc 29 (zH pc 24 (zH pc 23 (zQ pc 22 (.iconst (-1)) 1) (zQ pc 23 .ireturn 1)) (zH pc 25 (zQ pc 24 (.aload_n 0) 1) (zH pc 28 (zQ pc 25 (.getfield 44) 3) (zQ pc 28 (.iload_n 1) 1)))) (zH pc 36 (zH pc 32 (zQ pc 29 (.invokevirtual 217) 3) (zH pc 35 (zQ pc 32 (.ifCond .eq 7) 3) (zQ pc 35 (.iconst 1) 1))) (zH pc 39 (zQ pc 36 (.goto 4) 3) (zH pc 40 (zQ pc 39 (.iconst 0) 1) (zQ pc 40 .ireturn 1)))))) else none
def zc_123 (pc : Nat) : Option (Instr × Nat) := bif Nat.blt pc 18 then (zH pc 9 (zH pc 4 (zH pc 1 (zQ pc 0 (.aload_n 0) 1) (zQ pc 1 (.getfield 44) 3)) (zH pc 7 (zQ pc 4 (.getfield 220) 3) (zH pc 8 (zQ pc 7 (.istore_n 1) 1) (zQ pc 8 (.aload_n 0) 1)))) (zH pc 13 (zH pc 12 (zQ pc 9 (.getfield 44) 3) (zQ pc 12 (.iconst 0) 1)) (zH pc 16 (zQ pc 13 (.putfield 220) 3) (zH pc 17 (zQ pc 16 (.iload_n 1) 1) (zQ pc 17 .ireturn 1))))) else none
def zc_124 (pc : Nat) : Option (Instr × Nat) := bif Nat.blt pc 67 then (zH pc 37 (zH pc 17 (zH pc 8 (zH pc 4 (zH pc 1 (zQ pc 0 (.aload_n 0) 1) (zQ pc 1 (.getfield 21) 3)) (zH pc 5 (zQ pc 4 (.iload_n 1) 1) (zQ pc 5 (.invokevirtual 170) 3))) (zH pc 12 (zH pc 11 (zQ pc 8 (.ifCond .eq 12) 3) (zQ pc 11 (.iload_n 2) 1)) (zH pc 15 (zQ pc 12 (.ifCond .lt 8) 3) (zH pc 16 (zQ pc 15 (.iload_n 2) 1) (zQ pc 16 (.iconst 5) 1))))) (zH pc 26 (zH pc 23 (zH pc 20 (zQ pc 17 (.if_icmp .le 13) 3) (zQ pc 20 (.new 223) 3)) (zH pc 24 (zQ pc 23 .dup 1) (zQ pc 24 (.ldc 225) 2))) (zH pc 30 (zH pc 29 (zQ pc 26 (.invokespecial 227) 3) (zQ pc 29 .athrow 1)) (zH pc 31 (zQ pc 30 (.aload_n 0) 1) (zH pc 34 (zQ pc 31 (.getfield 21) 3) (zQ pc 34 (.getfield 109) 3)))))) (zH pc 50 (zH pc 41 (zH pc 39 (zH pc 38 (zQ pc 37 (.iload_n 1) 1) (zQ pc 38 .aaload 1)) (zH pc 40 (zQ pc 39 (.astore_n 3) 1) (zQ pc 40 (.iload_n 2) 1))) (zH pc 45 (zH pc 44 (zQ pc 41 (.ifCond .ne 8) 3) (zQ pc 44 (.aload_n 3) 1)) (zH pc 48 (zQ pc 45 (.getfield 230) 3) (zH pc 49 (zQ pc 48 .ireturn 1) (zQ pc 49 (.aload_n 3) 1))))) (zH pc 58 (zH pc 54 (zH pc 53 (zQ pc 50 (.getfield 230) 3) (zQ pc 53 (.iconst 1) 1)) (zH pc 57 (zQ pc 54 (.if_icmp .ne 11) 3) (zQ pc 57 (.aload_n 3) 1))) (zH pc 62 (zH pc 59 (zQ pc 58 (.iload_n 2) 1) (zQ pc 59 (.invokevirtual 233) 3)) (zH pc 65 (zQ pc 62 (.goto 4) 3) (zH pc 66 (zQ pc 65 (.iconst (-1)) 1) (zQ pc 66 .ireturn 1))))))) else none
def zc_125 (pc : Nat) : Option (Instr × Nat) := bif Nat.blt pc 48 then (zH pc 25 (zH pc 12 (zH pc 5 (zH pc 1 (zQ pc 0 (.aload_n 0) 1) (zH pc 4 (zQ pc 1 (.getfield 21) 3) (zQ pc 4 (.iload_n 1) 1))) (zH pc 8 (zQ pc 5 (.invokevirtual 170) 3) (zH pc 11 (zQ pc 8 (.ifCond .eq 23) 3) (zQ pc 11 (.iload_n 2) 1)))) (zH pc 17 (zH pc 15 (zQ pc 12 (.ifCond .lt 19) 3) (zH pc 16 (zQ pc 15 (.iload_n 2) 1) (zQ pc 16 (.aload_n 0) 1))) (zH pc 23 (zH pc 20 (zQ pc 17 (.getfield 21) 3) (zQ pc 20 (.getfield 109) 3)) (zH pc 24 (zQ pc 23 (.iload_n 1) 1) (zQ pc 24 .aaload 1))))) (zH pc 37 (zH pc 32 (zH pc 28 (zQ pc 25 (.getfield 236) 3) (zH pc 31 (zQ pc 28 (.if_icmp .lt 5) 3) (zQ pc 31 (.iconst (-1)) 1))) (zH pc 33 (zQ pc 32 .ireturn 1) (zH pc 34 (zQ pc 33 (.aload_n 0) 1) (zQ pc 34 (.getfield 21) 3)))) (zH pc 42 (zH pc 40 (zQ pc 37 (.getfield 109) 3) (zH pc 41 (zQ pc 40 (.iload_n 1) 1) (zQ pc 41 .aaload 1))) (zH pc 46 (zH pc 45 (zQ pc 42 (.getfield 239) 3) (zQ pc 45 (.iload_n 2) 1)) (zH pc 47 (zQ pc 46 .iaload 1) (zQ pc 47 .ireturn 1)))))) else none
def zc_126 (pc : Nat) : Option (Instr × Nat) := bif Nat.blt pc 25 then (zH pc 12 (zH pc 5 (zH pc 1 (zQ pc 0 (.aload_n 0) 1) (zH pc 4 (zQ pc 1 (.getfield 12) 3) (zQ pc 4 (.iload_n 1) 1))) (zH pc 8 (zQ pc 5 (.invokevirtual 242) 3) (zH pc 11 (zQ pc 8 (.ifCond .eq 15) 3) (zQ pc 11 (.aload_n 0) 1)))) (zH pc 19 (zH pc 15 (zQ pc 12 (.getfield 12) 3) (zH pc 18 (zQ pc 15 (.getfield 245) 3) (zQ pc 18 (.iload_n 1) 1))) (zH pc 23 (zH pc 20 (zQ pc 19 .iaload 1) (zQ pc 20 (.goto 4) 3)) (zH pc 24 (zQ pc 23 (.iconst (-1)) 1) (zQ pc 24 .ireturn 1))))) else none
def zc_127 (pc : Nat) : Option (Instr × Nat) := bif Nat.blt pc 10 then (zH pc 5 (zH pc 1 (zQ pc 0 (.aload_n 0) 1) (zH pc 4 (zQ pc 1 (.getfield 51) 3) (zQ pc 4 (.iload_n 1) 1))) (zH pc 6 (zQ pc 5 (.iload_n 2) 1) (zH pc 9 (zQ pc 6 (.invokevirtual 248) 3) (zQ pc 9 .ireturn 1)))) else none
def zc_128 (pc : Nat) : Option (Instr × Nat) := bif Nat.blt pc 178 then (zH pc 120 (zH pc 90 (zH pc 77 (zH pc 69 (zH pc 1 (zQ pc 0 (.iload_n 1) 1) (zH pc 68 (zQ pc 1 (.tableswitch 175 0 12 #[67, 72, 80, 88, 96, 107, 115, 123, 131, 139, 147, 155, 163]) 67) (zQ pc 68 (.aload_n 0) 1))) (zH pc 73 (zH pc 72 (zQ pc 69 (.getfield 74) 3) (zQ pc 72 .ireturn 1)) (zH pc 74 (zQ pc 73 (.aload_n 0) 1) (zQ pc 74 (.getfield 12) 3)))) (zH pc 82 (zH pc 80 (zQ pc 77 (.getfield 251) 3) (zH pc 81 (zQ pc 80 .ireturn 1) (zQ pc 81 (.aload_n 0) 1))) (zH pc 88 (zH pc 85 (zQ pc 82 (.getfield 21) 3) (zQ pc 85 (.getfield 254) 3)) (zH pc 89 (zQ pc 88 .ireturn 1) (zQ pc 89 (.aload_n 0) 1))))) (zH pc 104 (zH pc 97 (zH pc 93 (zQ pc 90 (.getfield 21) 3) (zH pc 96 (zQ pc 93 (.invokevirtual 255) 3) (zQ pc 96 .ireturn 1))) (zH pc 101 (zH pc 98 (zQ pc 97 (.aload_n 0) 1) (zQ pc 98 (.getfield 12) 3)) (zH pc 102 (zQ pc 101 (.iconst 0) 1) (zQ pc 102 (.bipush 96) 2)))) (zH pc 112 (zH pc 108 (zH pc 107 (zQ pc 104 (.invokevirtual 258) 3) (zQ pc 107 .ireturn 1)) (zH pc 109 (zQ pc 108 (.aload_n 0) 1) (zQ pc 109 (.getfield 51) 3))) (zH pc 116 (zH pc 115 (zQ pc 112 (.getfield 261) 3) (zQ pc 115 .ireturn 1)) (zH pc 117 (zQ pc 116 (.aload_n 0) 1) (zQ pc 117 (.getfield 51) 3)))))) (zH pc 149 (zH pc 133 (zH pc 125 (zH pc 123 (zQ pc 120 (.getfield 262) 3) (zH pc 124 (zQ pc 123 .ireturn 1) (zQ pc 124 (.aload_n 0) 1))) (zH pc 131 (zH pc 128 (zQ pc 125 (.getfield 44) 3) (zQ pc 128 (.getfield 220) 3)) (zH pc 132 (zQ pc 131 .ireturn 1) (zQ pc 132 (.aload_n 0) 1)))) (zH pc 141 (zH pc 139 (zH pc 136 (zQ pc 133 (.getfield 67) 3) (zQ pc 136 (.getfield 265) 3)) (zH pc 140 (zQ pc 139 .ireturn 1) (zQ pc 140 (.aload_n 0) 1))) (zH pc 147 (zH pc 144 (zQ pc 141 (.getfield 67) 3) (zQ pc 144 (.getfield 267) 3)) (zH pc 148 (zQ pc 147 .ireturn 1) (zQ pc 148 (.aload_n 0) 1))))) (zH pc 164 (zH pc 156 (zH pc 152 (zQ pc 149 (.getfield 58) 3) (zH pc 155 (zQ pc 152 (.getfield 160) 3) (zQ pc 155 .ireturn 1))) (zH pc 160 (zH pc 157 (zQ pc 156 (.aload_n 0) 1) (zQ pc 157 (.getfield 12) 3)) (zH pc 163 (zQ pc 160 (.invokevirtual 270) 3) (zQ pc 163 .ireturn 1)))) (zH pc 172 (zH pc 168 (zH pc 165 (zQ pc 164 (.aload_n 0) 1) (zQ pc 165 (.getfield 12) 3)) (zH pc 170 (zQ pc 168 (.bipush 100) 2) (zQ pc 170 (.bipush 116) 2))) (zH pc 176 (zH pc 175 (zQ pc 172 (.invokevirtual 258) 3) (zQ pc 175 .ireturn 1)) (zH pc 177 (zQ pc 176 (.iconst (-1)) 1) (zQ pc 177 .ireturn 1))))))) else none
def zc_129 (pc : Nat) : Option (Instr × Nat) := bif Nat.blt pc 8 then (zH pc 4 (zH pc 1 (zQ pc 0 (.aload_n 0) 1) (zQ pc 1 (.getfield 74) 3)) (zH pc 6 (zQ pc 4 (.ldc 144) 2) (zH pc 7 (zQ pc 6 .idiv 1) (zQ pc 7 .ireturn 1)))) else none
def zc_130 (pc : Nat) : Option (Instr × Nat) := bif Nat.blt pc 38 then (zH pc 22 (zH pc 11 (zH pc 4 (zH pc 1 (zQ pc 0 (.aload_n 0) 1) (zQ pc 1 (.getfield 21) 3)) (zH pc 5 (zQ pc 4 (.iload_n 1) 1) (zH pc 8 (zQ pc 5 (.invokevirtual 106) 3) (zQ pc 8 (.ifCond .eq 28) 3)))) (zH pc 15 (zH pc 12 (zQ pc 11 (.iload_n 2) 1) (zQ pc 12 (.ifCond .lt 24) 3)) (zH pc 16 (zQ pc 15 (.iload_n 2) 1) (zH pc 19 (zQ pc 16 (.ldc_w 273) 3) (zQ pc 19 (.if_icmp .gt 17) 3))))) (zH pc 29 (zH pc 24 (zH pc 23 (zQ pc 22 (.iload_n 3) 1) (zQ pc 23 (.iconst 1) 1)) (zH pc 27 (zQ pc 24 (.if_icmp .lt 12) 3) (zH pc 28 (zQ pc 27 (.iload_n 3) 1) (zQ pc 28 (.iconst 5) 1)))) (zH pc 33 (zH pc 32 (zQ pc 29 (.if_icmp .gt 7) 3) (zQ pc 32 (.iconst 1) 1)) (zH pc 36 (zQ pc 33 (.goto 4) 3) (zH pc 37 (zQ pc 36 (.iconst 0) 1) (zQ pc 37 .ireturn 1)))))) else none
def zc_131 (pc : Nat) : Option (Instr × Nat) := bif Nat.blt pc 79 then (zH pc 38 (zH pc 18 (zH pc 11 (zH pc 4 (zH pc 1 (zQ pc 0 (.aload_n 0) 1) (zQ pc 1 (.getfield 21) 3)) (zH pc 5 (zQ pc 4 (.aload_n 0) 1) (zH pc 8 (zQ pc 5 (.getfield 21) 3) (zQ pc 8 (.getfield 109) 3)))) (zH pc 13 (zH pc 12 (zQ pc 11 (.iload_n 1) 1) (zQ pc 12 .aaload 1)) (zH pc 14 (zQ pc 13 (.iload_n 2) 1) (zH pc 15 (zQ pc 14 (.iload_n 3) 1) (zQ pc 15 (.invokevirtual 179) 3))))) (zH pc 28 (zH pc 20 (zH pc 19 (zQ pc 18 .pop 1) (zQ pc 19 (.aload_n 0) 1)) (zH pc 23 (zQ pc 20 (.getfield 21) 3) (zH pc 25 (zQ pc 23 (.iload 4) 2) (zQ pc 25 (.invokevirtual 106) 3)))) (zH pc 32 (zH pc 31 (zQ pc 28 (.ifCond .eq 21) 3) (zQ pc 31 (.aload_n 0) 1)) (zH pc 34 (zQ pc 32 (.iload 4) 2) (zH pc 36 (zQ pc 34 (.iload 5) 2) (zQ pc 36 (.iload 6) 2)))))) (zH pc 57 (zH pc 49 (zH pc 42 (zH pc 41 (zQ pc 38 (.invokevirtual 183) 3) (zQ pc 41 (.iconst 5) 1)) (zH pc 45 (zQ pc 42 (.if_icmp .ne 7) 3) (zH pc 46 (zQ pc 45 (.iconst 1) 1) (zQ pc 46 (.goto 4) 3)))) (zH pc 52 (zH pc 50 (zQ pc 49 (.iconst 0) 1) (zQ pc 50 (.istore 7) 2)) (zH pc 53 (zQ pc 52 (.aload_n 0) 1) (zH pc 56 (zQ pc 53 (.getfield 21) 3) (zQ pc 56 (.aload_n 0) 1))))) (zH pc 68 (zH pc 63 (zH pc 60 (zQ pc 57 (.getfield 21) 3) (zQ pc 60 (.getfield 109) 3)) (zH pc 64 (zQ pc 63 (.iload_n 1) 1) (zH pc 65 (zQ pc 64 .aaload 1) (zQ pc 65 (.invokevirtual 152) 3)))) (zH pc 74 (zH pc 70 (zQ pc 68 (.iload 7) 2) (zH pc 73 (zQ pc 70 (.ifCond .ne 7) 3) (zQ pc 73 (.iconst 1) 1))) (zH pc 77 (zQ pc 74 (.goto 4) 3) (zH pc 78 (zQ pc 77 (.iconst 0) 1) (zQ pc 78 .ireturn 1))))))) else none
def zc_132 (pc : Nat) : Option (Instr × Nat) := bif Nat.blt pc 33 then (zH pc 15 (zH pc 5 (zH pc 2 (zH pc 1 (zQ pc 0 (.iload_n 1) 1) (zQ pc 1 (.iconst 1) 1)) (zH pc 3 (zQ pc 2 .isub 1) (zH pc 4 (zQ pc 3 (.iload_n 2) 1) (zQ pc 4 .isub 1)))) (zH pc 10 (zH pc 6 (zQ pc 5 (.istore_n 3) 1) (zH pc 7 (zQ pc 6 (.iload_n 3) 1) (zQ pc 7 (.ifCond .lt 24) 3))) (zH pc 11 (zQ pc 10 (.iload_n 3) 1) (zH pc 14 (zQ pc 11 (.getstatic 274) 3) (zQ pc 14 .arraylength 1))))) (zH pc 24 (zH pc 19 (zH pc 18 (zQ pc 15 (.if_icmp .ge 16) 3) (zQ pc 18 (.iload_n 0) 1)) (zH pc 22 (zQ pc 19 (.getstatic 274) 3) (zH pc 23 (zQ pc 22 (.iload_n 3) 1) (zQ pc 23 .iaload 1)))) (zH pc 28 (zH pc 25 (zQ pc 24 .idiv 1) (zH pc 27 (zQ pc 25 (.bipush 10) 2) (zQ pc 27 .irem 1))) (zH pc 31 (zQ pc 28 (.goto 4) 3) (zH pc 32 (zQ pc 31 (.iconst 0) 1) (zQ pc 32 .ireturn 1)))))) else none
def zc_133 (pc : Nat) : Option (Instr × Nat) := bif Nat.blt pc 5 then (zH pc 1 (zQ pc 0 (.aload_n 0) 1) (zH pc 4 (zQ pc 1 (.getfield 201) 3) (zQ pc 4 .ireturn 1))) else none
def zc_134 (pc : Nat) : Option (Instr × Nat) := bif Nat.blt pc 16 then (zH pc 7 (zH pc 2 (zH pc 1 (zQ pc 0 (.iload_n 0) 1) (zQ pc 1 (.iload_n 1) 1)) (zH pc 5 (zQ pc 2 (.if_icmp .lt 12) 3) (zH pc 6 (zQ pc 5 (.iload_n 0) 1) (zQ pc 6 (.iload_n 2) 1)))) (zH pc 11 (zH pc 10 (zQ pc 7 (.if_icmp .gt 7) 3) (zQ pc 10 (.iconst 1) 1)) (zH pc 14 (zQ pc 11 (.goto 4) 3) (zH pc 15 (zQ pc 14 (.iconst 0) 1) (zQ pc 15 .ireturn 1))))) else none
def zc_135 (pc : Nat) : Option (Instr × Nat) := bif Nat.blt pc 43 then (zH pc 22 (zH pc 11 (zH pc 5 (zH pc 1 (zQ pc 0 (.iload_n 1) 1) (zH pc 4 (zQ pc 1 (.ifCond .lt 40) 3) (zQ pc 4 (.iload_n 1) 1))) (zH pc 7 (zQ pc 5 (.bipush 96) 2) (zH pc 10 (zQ pc 7 (.if_icmp .ge 34) 3) (zQ pc 10 (.iload_n 1) 1)))) (zH pc 15 (zH pc 13 (zQ pc 11 (.bipush 8) 2) (zH pc 14 (zQ pc 13 .idiv 1) (zQ pc 14 (.aload_n 0) 1))) (zH pc 18 (zQ pc 15 (.getfield 205) 3) (zH pc 21 (zQ pc 18 (.if_icmp .ge 23) 3) (zQ pc 21 (.iload_n 1) 1))))) (zH pc 32 (zH pc 26 (zH pc 24 (zQ pc 22 (.bipush 8) 2) (zH pc 25 (zQ pc 24 .irem 1) (zQ pc 25 (.aload_n 0) 1))) (zH pc 29 (zQ pc 26 (.getfield 13) 3) (zH pc 30 (zQ pc 29 (.iload_n 1) 1) (zQ pc 30 (.bipush 8) 2)))) (zH pc 37 (zH pc 33 (zQ pc 32 .idiv 1) (zH pc 34 (zQ pc 33 .iaload 1) (zQ pc 34 (.if_icmp .ge 7) 3))) (zH pc 41 (zH pc 38 (zQ pc 37 (.iconst 1) 1) (zQ pc 38 (.goto 4) 3)) (zH pc 42 (zQ pc 41 (.iconst 0) 1) (zQ pc 42 .ireturn 1)))))) else none
def zc_136 (pc : Nat) : Option (Instr × Nat) := bif Nat.blt pc 25 then (zH pc 11 (zH pc 5 (zH pc 1 (zQ pc 0 (.aload_n 0) 1) (zH pc 2 (zQ pc 1 (.iload_n 1) 1) (zQ pc 2 (.invokevirtual 208) 3))) (zH pc 8 (zQ pc 5 (.ifCond .ne 14) 3) (zH pc 9 (zQ pc 8 (.iload_n 1) 1) (zQ pc 9 (.bipush 100) 2)))) (zH pc 19 (zH pc 13 (zQ pc 11 (.bipush 115) 2) (zH pc 16 (zQ pc 13 (.invokestatic 212) 3) (zQ pc 16 (.ifCond .eq 7) 3))) (zH pc 23 (zH pc 20 (zQ pc 19 (.iconst 1) 1) (zQ pc 20 (.goto 4) 3)) (zH pc 24 (zQ pc 23 (.iconst 0) 1) (zQ pc 24 .ireturn 1))))) else none
def zc_137 (pc : Nat) : Option (Instr × Nat) := bif Nat.blt pc 12 then (zH pc 6 (zH pc 2 (zH pc 1 (zQ pc 0 (.iload_n 1) 1) (zQ pc 1 (.iconst 0) 1)) (zH pc 3 (zQ pc 2 (.aload_n 0) 1) (zQ pc 3 (.getfield 216) 3))) (zH pc 8 (zH pc 7 (zQ pc 6 (.iconst 1) 1) (zQ pc 7 .isub 1)) (zH pc 11 (zQ pc 8 (.invokestatic 212) 3) (zQ pc 11 .ireturn 1)))) else none
def zc_138 (pc : Nat) : Option (Instr × Nat) := bif Nat.blt pc 29 then (zH pc 14 (zH pc 6 (zH pc 2 (zH pc 1 (zQ pc 0 (.iload_n 1) 1) (zQ pc 1 (.iconst 0) 1)) (zH pc 3 (zQ pc 2 (.aload_n 0) 1) (zQ pc 3 (.getfield 205) 3))) (zH pc 8 (zH pc 7 (zQ pc 6 (.iconst 1) 1) (zQ pc 7 .isub 1)) (zH pc 11 (zQ pc 8 (.invokestatic 212) 3) (zQ pc 11 (.ifCond .eq 16) 3)))) (zH pc 20 (zH pc 18 (zH pc 15 (zQ pc 14 (.aload_n 0) 1) (zQ pc 15 (.getfield 7) 3)) (zH pc 19 (zQ pc 18 (.iload_n 1) 1) (zQ pc 19 .iaload 1))) (zH pc 24 (zH pc 23 (zQ pc 20 (.ifCond .ne 7) 3) (zQ pc 23 (.iconst 1) 1)) (zH pc 27 (zQ pc 24 (.goto 4) 3) (zH pc 28 (zQ pc 27 (.iconst 0) 1) (zQ pc 28 .ireturn 1)))))) else none
def zc_139 (pc : Nat) : Option (Instr × Nat) := bif Nat.blt pc 43 then (zH pc 21 (zH pc 9 (zH pc 5 (zH pc 1 (zQ pc 0 (.aload_n 0) 1) (zH pc 2 (zQ pc 1 (.iconst 0) 1) (zQ pc 2 (.putfield 201) 3))) (zH pc 6 (zQ pc 5 (.iload_n 1) 1) (zH pc 7 (zQ pc 6 (.iconst 0) 1) (zQ pc 7 (.ldc 219) 2)))) (zH pc 16 (zH pc 12 (zQ pc 9 (.invokestatic 212) 3) (zH pc 15 (zQ pc 12 (.ifCond .eq 14) 3) (zQ pc 15 (.aload_n 0) 1))) (zH pc 19 (zQ pc 16 (.getfield 220) 3) (zH pc 20 (zQ pc 19 (.iload_n 1) 1) (zQ pc 20 .iadd 1))))) (zH pc 30 (zH pc 27 (zH pc 23 (zQ pc 21 (.ldc 223) 2) (zH pc 26 (zQ pc 23 (.if_icmp .le 5) 3) (zQ pc 26 (.iconst (-1)) 1))) (zH pc 28 (zQ pc 27 .ireturn 1) (zH pc 29 (zQ pc 28 (.aload_n 0) 1) (zQ pc 29 .dup 1)))) (zH pc 35 (zH pc 33 (zQ pc 30 (.getfield 220) 3) (zH pc 34 (zQ pc 33 (.iload_n 1) 1) (zQ pc 34 .iadd 1))) (zH pc 39 (zH pc 38 (zQ pc 35 (.putfield 220) 3) (zQ pc 38 (.aload_n 0) 1)) (zH pc 42 (zQ pc 39 (.getfield 220) 3) (zQ pc 42 .ireturn 1)))))) else none
def zc_140 (pc : Nat) : Option (Instr × Nat) := bif Nat.blt pc 99 then (zH pc 52 (zH pc 25 (zH pc 11 (zH pc 5 (zH pc 1 (zQ pc 0 (.aload_n 0) 1) (zH pc 2 (zQ pc 1 (.iconst 0) 1) (zQ pc 2 (.putfield 201) 3))) (zH pc 7 (zH pc 6 (zQ pc 5 (.iload_n 1) 1) (zQ pc 6 (.iconst 0) 1)) (zH pc 8 (zQ pc 7 (.iconst 1) 1) (zQ pc 8 (.invokestatic 212) 3)))) (zH pc 16 (zH pc 14 (zQ pc 11 (.ifCond .eq 39) 3) (zH pc 15 (zQ pc 14 (.iload_n 2) 1) (zQ pc 15 (.iconst 1) 1))) (zH pc 21 (zH pc 18 (zQ pc 16 (.bipush 8) 2) (zQ pc 18 (.invokestatic 212) 3)) (zH pc 24 (zQ pc 21 (.ifCond .eq 29) 3) (zQ pc 24 (.iload_n 3) 1))))) (zH pc 38 (zH pc 30 (zH pc 26 (zQ pc 25 (.iconst 1) 1) (zH pc 27 (zQ pc 26 (.iload_n 1) 1) (zQ pc 27 (.ifCond .ne 7) 3))) (zH pc 34 (zH pc 31 (zQ pc 30 (.iconst 2) 1) (zQ pc 31 (.goto 4) 3)) (zH pc 35 (zQ pc 34 (.iconst 1) 1) (zQ pc 35 (.invokestatic 212) 3)))) (zH pc 45 (zH pc 41 (zQ pc 38 (.ifCond .eq 12) 3) (zH pc 42 (zQ pc 41 (.aload_n 0) 1) (zQ pc 42 (.getfield 205) 3))) (zH pc 50 (zH pc 47 (zQ pc 45 (.bipush 12) 2) (zQ pc 47 (.if_icmp .ne 5) 3)) (zH pc 51 (zQ pc 50 (.iconst (-1)) 1) (zQ pc 51 .ireturn 1)))))) (zH pc 76 (zH pc 63 (zH pc 57 (zH pc 53 (zQ pc 52 (.aload_n 0) 1) (zH pc 56 (zQ pc 53 (.getfield 7) 3) (zQ pc 56 (.aload_n 0) 1))) (zH pc 61 (zH pc 60 (zQ pc 57 (.getfield 205) 3) (zQ pc 60 (.iload_n 1) 1)) (zH pc 62 (zQ pc 61 .iastore 1) (zQ pc 62 (.aload_n 0) 1)))) (zH pc 70 (zH pc 66 (zQ pc 63 (.getfield 13) 3) (zH pc 67 (zQ pc 66 (.aload_n 0) 1) (zQ pc 67 (.getfield 205) 3))) (zH pc 72 (zH pc 71 (zQ pc 70 (.iload_n 2) 1) (zQ pc 71 .iastore 1)) (zH pc 73 (zQ pc 72 (.aload_n 0) 1) (zQ pc 73 (.getfield 16) 3))))) (zH pc 87 (zH pc 81 (zH pc 77 (zQ pc 76 (.aload_n 0) 1) (zH pc 80 (zQ pc 77 (.getfield 205) 3) (zQ pc 80 (.iload_n 3) 1))) (zH pc 83 (zH pc 82 (zQ pc 81 .iastore 1) (zQ pc 82 (.aload_n 0) 1)) (zH pc 84 (zQ pc 83 .dup 1) (zQ pc 84 (.getfield 205) 3)))) (zH pc 93 (zH pc 89 (zH pc 88 (zQ pc 87 (.iconst 1) 1) (zQ pc 88 .iadd 1)) (zH pc 92 (zQ pc 89 (.putfield 205) 3) (zQ pc 92 (.aload_n 0) 1))) (zH pc 97 (zH pc 96 (zQ pc 93 (.getfield 205) 3) (zQ pc 96 (.iconst 1) 1)) (zH pc 98 (zQ pc 97 .isub 1) (zQ pc 98 .ireturn 1))))))) else none
def zc_141 (pc : Nat) : Option (Instr × Nat) := bif Nat.blt pc 16 then (zH pc 9 (zH pc 4 (zH pc 2 (zQ pc 0 (.bipush 80) 2) (zH pc 3 (zQ pc 2 (.iload_n 0) 1) (zQ pc 3 .imul 1))) (zH pc 7 (zH pc 6 (zQ pc 4 (.bipush 40) 2) (zQ pc 6 (.iload_n 1) 1)) (zH pc 8 (zQ pc 7 .imul 1) (zQ pc 8 .iadd 1)))) (zH pc 12 (zH pc 10 (zQ pc 9 (.iconst 4) 1) (zH pc 11 (zQ pc 10 (.iload_n 2) 1) (zQ pc 11 .imul 1))) (zH pc 14 (zH pc 13 (zQ pc 12 .iadd 1) (zQ pc 13 (.iload_n 3) 1)) (zH pc 15 (zQ pc 14 .iadd 1) (zQ pc 15 .ireturn 1))))) else none
def zc_142 (pc : Nat) : Option (Instr × Nat) := bif Nat.blt pc 106 then (zH pc 51 (zH pc 22 (zH pc 13 (zH pc 5 (zH pc 1 (zQ pc 0 (.aload_n 0) 1) (zH pc 2 (zQ pc 1 (.iconst 0) 1) (zQ pc 2 (.putfield 201) 3))) (zH pc 7 (zH pc 6 (zQ pc 5 (.aload_n 0) 1) (zQ pc 6 (.iload_n 1) 1)) (zH pc 10 (zQ pc 7 (.invokevirtual 224) 3) (zQ pc 10 (.ifCond .eq 39) 3)))) (zH pc 16 (zH pc 14 (zQ pc 13 (.iload_n 2) 1) (zH pc 15 (zQ pc 14 (.iconst 0) 1) (zQ pc 15 (.aload_n 0) 1))) (zH pc 20 (zH pc 19 (zQ pc 16 (.getfield 16) 3) (zQ pc 19 (.iload_n 1) 1)) (zH pc 21 (zQ pc 20 .iaload 1) (zQ pc 21 (.iconst 1) 1))))) (zH pc 36 (zH pc 29 (zH pc 23 (zQ pc 22 .isub 1) (zH pc 26 (zQ pc 23 (.invokestatic 212) 3) (zQ pc 26 (.ifCond .eq 23) 3))) (zH pc 31 (zH pc 30 (zQ pc 29 (.iload_n 3) 1) (zQ pc 30 (.iconst 0) 1)) (zH pc 33 (zQ pc 31 (.bipush 9) 2) (zQ pc 33 (.invokestatic 212) 3)))) (zH pc 43 (zH pc 41 (zH pc 39 (zQ pc 36 (.ifCond .eq 13) 3) (zQ pc 39 (.iload 4) 2)) (zH pc 42 (zQ pc 41 (.iconst 0) 1) (zQ pc 42 (.iconst 3) 1))) (zH pc 49 (zH pc 46 (zQ pc 43 (.invokestatic 212) 3) (zQ pc 46 (.ifCond .ne 5) 3)) (zH pc 50 (zQ pc 49 (.iconst 0) 1) (zQ pc 50 .ireturn 1)))))) (zH pc 83 (zH pc 66 (zH pc 57 (zH pc 53 (zQ pc 51 (.iload 5) 2) (zH pc 54 (zQ pc 53 (.iconst (-1)) 1) (zQ pc 54 (.if_icmp .eq 12) 3))) (zH pc 60 (zH pc 58 (zQ pc 57 (.aload_n 0) 1) (zQ pc 58 (.iload 5) 2)) (zH pc 63 (zQ pc 60 (.invokevirtual 227) 3) (zQ pc 63 (.ifCond .eq 24) 3)))) (zH pc 75 (zH pc 71 (zH pc 68 (zQ pc 66 (.iload 5) 2) (zQ pc 68 (.ifCond .lt 21) 3)) (zH pc 73 (zQ pc 71 (.iload 5) 2) (zQ pc 73 (.bipush 96) 2))) (zH pc 80 (zH pc 78 (zQ pc 75 (.if_icmp .ge 14) 3) (zQ pc 78 (.iload 5) 2)) (zH pc 82 (zQ pc 80 (.bipush 8) 2) (zQ pc 82 .idiv 1))))) (zH pc 94 (zH pc 88 (zH pc 84 (zQ pc 83 (.iload_n 1) 1) (zH pc 87 (zQ pc 84 (.if_icmp .ne 5) 3) (zQ pc 87 (.iconst 0) 1))) (zH pc 90 (zH pc 89 (zQ pc 88 .ireturn 1) (zQ pc 89 (.aload_n 0) 1)) (zH pc 93 (zQ pc 90 (.getfield 19) 3) (zQ pc 93 (.iload_n 1) 1)))) (zH pc 101 (zH pc 96 (zH pc 95 (zQ pc 94 (.iload_n 2) 1) (zQ pc 95 (.iload_n 3) 1)) (zH pc 98 (zQ pc 96 (.iload 4) 2) (zQ pc 98 (.invokestatic 230) 3))) (zH pc 104 (zH pc 103 (zQ pc 101 (.iload 5) 2) (zQ pc 103 .iastore 1)) (zH pc 105 (zQ pc 104 (.iconst 1) 1) (zQ pc 105 .ireturn 1))))))) else none
def zc_143 (pc : Nat) : Option (Instr × Nat) := bif Nat.blt pc 36 then (zH pc 19 (zH pc 7 (zH pc 2 (zH pc 1 (zQ pc 0 (.aload_n 0) 1) (zQ pc 1 (.iconst 0) 1)) (zH pc 5 (zQ pc 2 (.putfield 201) 3) (zH pc 6 (zQ pc 5 (.iload_n 1) 1) (zQ pc 6 (.iconst 0) 1)))) (zH pc 15 (zH pc 9 (zQ pc 7 (.bipush 15) 2) (zH pc 12 (zQ pc 9 (.invokestatic 212) 3) (zQ pc 12 (.ifCond .eq 13) 3))) (zH pc 16 (zQ pc 15 (.iload_n 2) 1) (zH pc 17 (zQ pc 16 (.iconst 1) 1) (zQ pc 17 (.bipush 9) 2))))) (zH pc 28 (zH pc 25 (zH pc 22 (zQ pc 19 (.invokestatic 212) 3) (zQ pc 22 (.ifCond .ne 5) 3)) (zH pc 26 (zQ pc 25 (.iconst 0) 1) (zH pc 27 (zQ pc 26 .ireturn 1) (zQ pc 27 (.aload_n 0) 1)))) (zH pc 33 (zH pc 31 (zQ pc 28 (.getfield 22) 3) (zH pc 32 (zQ pc 31 (.iload_n 1) 1) (zQ pc 32 (.iload_n 2) 1))) (zH pc 34 (zQ pc 33 .iastore 1) (zH pc 35 (zQ pc 34 (.iconst 1) 1) (zQ pc 35 .ireturn 1)))))) else none
def zc_144 (pc : Nat) : Option (Instr × Nat) := bif Nat.blt pc 40 then (zH pc 20 (zH pc 10 (zH pc 3 (zH pc 1 (zQ pc 0 (.iconst 0) 1) (zH pc 2 (zQ pc 1 (.istore_n 3) 1) (zQ pc 2 (.iload_n 3) 1))) (zH pc 4 (zQ pc 3 (.aload_n 0) 1) (zH pc 7 (zQ pc 4 (.getfield 216) 3) (zQ pc 7 (.if_icmp .ge 31) 3)))) (zH pc 15 (zH pc 11 (zQ pc 10 (.aload_n 0) 1) (zH pc 14 (zQ pc 11 (.getfield 38) 3) (zQ pc 14 (.iload_n 3) 1))) (zH pc 16 (zQ pc 15 .iaload 1) (zH pc 17 (zQ pc 16 (.iload_n 1) 1) (zQ pc 17 (.if_icmp .ne 15) 3))))) (zH pc 30 (zH pc 25 (zH pc 21 (zQ pc 20 (.aload_n 0) 1) (zH pc 24 (zQ pc 21 (.getfield 41) 3) (zQ pc 24 (.iload_n 3) 1))) (zH pc 26 (zQ pc 25 .iaload 1) (zH pc 27 (zQ pc 26 (.iload_n 2) 1) (zQ pc 27 (.if_icmp .ne 5) 3)))) (zH pc 35 (zH pc 31 (zQ pc 30 (.iload_n 3) 1) (zH pc 32 (zQ pc 31 .ireturn 1) (zQ pc 32 (.iinc 3 1) 3))) (zH pc 38 (zQ pc 35 (.goto (-33)) 3) (zH pc 39 (zQ pc 38 (.iconst (-1)) 1) (zQ pc 39 .ireturn 1)))))) else none
def zc_145 (pc : Nat) : Option (Instr × Nat) := bif Nat.blt pc 114 then (zH pc 60 (zH pc 28 (zH pc 14 (zH pc 6 (zH pc 2 (zH pc 1 (zQ pc 0 (.aload_n 0) 1) (zQ pc 1 (.iconst 0) 1)) (zH pc 5 (zQ pc 2 (.putfield 201) 3) (zQ pc 5 (.aload_n 0) 1))) (zH pc 10 (zH pc 7 (zQ pc 6 (.iload_n 1) 1) (zQ pc 7 (.invokevirtual 224) 3)) (zH pc 13 (zQ pc 10 (.ifCond .eq 55) 3) (zQ pc 13 (.iload_n 2) 1)))) (zH pc 20 (zH pc 16 (zH pc 15 (zQ pc 14 (.iconst 0) 1) (zQ pc 15 (.aload_n 0) 1)) (zH pc 19 (zQ pc 16 (.getfield 205) 3) (zQ pc 19 (.iconst 1) 1))) (zH pc 24 (zH pc 21 (zQ pc 20 .isub 1) (zQ pc 21 (.invokestatic 212) 3)) (zH pc 27 (zQ pc 24 (.ifCond .eq 41) 3) (zQ pc 27 (.aload_n 0) 1))))) (zH pc 41 (zH pc 34 (zH pc 32 (zH pc 31 (zQ pc 28 (.getfield 7) 3) (zQ pc 31 (.iload_n 2) 1)) (zH pc 33 (zQ pc 32 .iaload 1) (zQ pc 33 (.iconst 1) 1))) (zH pc 38 (zH pc 37 (zQ pc 34 (.if_icmp .ne 31) 3) (zQ pc 37 (.iload_n 3) 1)) (zH pc 39 (zQ pc 38 (.iconst 0) 1) (zQ pc 39 (.bipush 99) 2)))) (zH pc 49 (zH pc 47 (zH pc 44 (zQ pc 41 (.invokestatic 212) 3) (zQ pc 44 (.ifCond .eq 21) 3)) (zH pc 48 (zQ pc 47 (.aload_n 0) 1) (zQ pc 48 (.iload_n 2) 1))) (zH pc 53 (zH pc 50 (zQ pc 49 (.iload_n 3) 1) (zQ pc 50 (.invokevirtual 234) 3)) (zH pc 56 (zQ pc 53 (.ifCond .ge 12) 3) (zH pc 57 (zQ pc 56 (.aload_n 0) 1) (zQ pc 57 (.getfield 216) 3))))))) (zH pc 87 (zH pc 75 (zH pc 67 (zH pc 65 (zH pc 62 (zQ pc 60 (.bipush 40) 2) (zQ pc 62 (.if_icmp .ne 5) 3)) (zH pc 66 (zQ pc 65 (.iconst (-1)) 1) (zQ pc 66 .ireturn 1))) (zH pc 71 (zH pc 68 (zQ pc 67 (.aload_n 0) 1) (zQ pc 68 (.getfield 35) 3)) (zH pc 72 (zQ pc 71 (.aload_n 0) 1) (zQ pc 72 (.getfield 216) 3)))) (zH pc 81 (zH pc 77 (zH pc 76 (zQ pc 75 (.iload_n 1) 1) (zQ pc 76 .iastore 1)) (zH pc 78 (zQ pc 77 (.aload_n 0) 1) (zQ pc 78 (.getfield 38) 3))) (zH pc 85 (zH pc 82 (zQ pc 81 (.aload_n 0) 1) (zQ pc 82 (.getfield 216) 3)) (zH pc 86 (zQ pc 85 (.iload_n 2) 1) (zQ pc 86 .iastore 1))))) (zH pc 99 (zH pc 95 (zH pc 91 (zH pc 88 (zQ pc 87 (.aload_n 0) 1) (zQ pc 88 (.getfield 41) 3)) (zH pc 92 (zQ pc 91 (.aload_n 0) 1) (zQ pc 92 (.getfield 216) 3))) (zH pc 97 (zH pc 96 (zQ pc 95 (.iload_n 3) 1) (zQ pc 96 .iastore 1)) (zH pc 98 (zQ pc 97 (.aload_n 0) 1) (zQ pc 98 .dup 1)))) (zH pc 107 (zH pc 103 (zH pc 102 (zQ pc 99 (.getfield 216) 3) (zQ pc 102 (.iconst 1) 1)) (zH pc 104 (zQ pc 103 .iadd 1) (zQ pc 104 (.putfield 216) 3))) (zH pc 111 (zH pc 108 (zQ pc 107 (.aload_n 0) 1) (zQ pc 108 (.getfield 216) 3)) (zH pc 112 (zQ pc 111 (.iconst 1) 1) (zH pc 113 (zQ pc 112 .isub 1) (zQ pc 113 .ireturn 1)))))))) else none
def zc_146 (pc : Nat) : Option (Instr × Nat) := bif Nat.blt pc 24 then (zH pc 14 (zH pc 6 (zH pc 2 (zH pc 1 (zQ pc 0 (.aload_n 0) 1) (zQ pc 1 (.iconst 0) 1)) (zH pc 5 (zQ pc 2 (.putfield 201) 3) (zQ pc 5 (.aload_n 0) 1))) (zH pc 10 (zH pc 7 (zQ pc 6 (.iload_n 1) 1) (zQ pc 7 (.invokevirtual 208) 3)) (zH pc 13 (zQ pc 10 (.ifCond .ne 5) 3) (zQ pc 13 (.iconst 0) 1)))) (zH pc 20 (zH pc 16 (zH pc 15 (zQ pc 14 .ireturn 1) (zQ pc 15 (.aload_n 0) 1)) (zH pc 19 (zQ pc 16 (.getfield 28) 3) (zQ pc 19 (.iload_n 1) 1))) (zH pc 22 (zH pc 21 (zQ pc 20 (.iload_n 2) 1) (zQ pc 21 .bastore 1)) (zH pc 23 (zQ pc 22 (.iconst 1) 1) (zQ pc 23 .ireturn 1))))) else none
def zc_147 (pc : Nat) : Option (Instr × Nat) := bif Nat.blt pc 24 then (zH pc 14 (zH pc 6 (zH pc 2 (zH pc 1 (zQ pc 0 (.aload_n 0) 1) (zQ pc 1 (.iconst 0) 1)) (zH pc 5 (zQ pc 2 (.putfield 201) 3) (zQ pc 5 (.aload_n 0) 1))) (zH pc 10 (zH pc 7 (zQ pc 6 (.iload_n 1) 1) (zQ pc 7 (.invokevirtual 208) 3)) (zH pc 13 (zQ pc 10 (.ifCond .ne 5) 3) (zQ pc 13 (.iconst 0) 1)))) (zH pc 20 (zH pc 16 (zH pc 15 (zQ pc 14 .ireturn 1) (zQ pc 15 (.aload_n 0) 1)) (zH pc 19 (zQ pc 16 (.getfield 32) 3) (zQ pc 19 (.iload_n 1) 1))) (zH pc 22 (zH pc 21 (zQ pc 20 (.iload_n 2) 1) (zQ pc 21 .bastore 1)) (zH pc 23 (zQ pc 22 (.iconst 1) 1) (zQ pc 23 .ireturn 1))))) else none
def zc_148 (pc : Nat) : Option (Instr × Nat) := bif Nat.blt pc 33 then (zH pc 15 (zH pc 6 (zH pc 4 (zH pc 1 (zQ pc 0 (.aload_n 0) 1) (zQ pc 1 (.getfield 25) 3)) (zH pc 5 (zQ pc 4 (.iload_n 1) 1) (zQ pc 5 .iaload 1))) (zH pc 10 (zH pc 9 (zQ pc 6 (.ifCond .ge 25) 3) (zQ pc 9 (.aload_n 0) 1)) (zH pc 13 (zQ pc 10 (.getfield 28) 3) (zH pc 14 (zQ pc 13 (.iload_n 1) 1) (zQ pc 14 .baload 1))))) (zH pc 24 (zH pc 19 (zH pc 18 (zQ pc 15 (.ifCond .ne 16) 3) (zQ pc 18 (.aload_n 0) 1)) (zH pc 22 (zQ pc 19 (.getfield 74) 3) (zH pc 23 (zQ pc 22 (.iload_n 1) 1) (zQ pc 23 .baload 1)))) (zH pc 28 (zH pc 27 (zQ pc 24 (.ifCond .ne 7) 3) (zQ pc 27 (.iconst 1) 1)) (zH pc 31 (zQ pc 28 (.goto 4) 3) (zH pc 32 (zQ pc 31 (.iconst 0) 1) (zQ pc 32 .ireturn 1)))))) else none
def zc_149 (pc : Nat) : Option (Instr × Nat) := bif Nat.blt pc 24 then (zH pc 13 (zH pc 5 (zH pc 1 (zQ pc 0 (.aload_n 0) 1) (zH pc 4 (zQ pc 1 (.getfield 44) 3) (zQ pc 4 (.iload_n 1) 1))) (zH pc 9 (zH pc 6 (zQ pc 5 .iaload 1) (zQ pc 6 (.ifCond .ne 16) 3)) (zH pc 10 (zQ pc 9 (.aload_n 0) 1) (zQ pc 10 (.getfield 77) 3)))) (zH pc 18 (zH pc 14 (zQ pc 13 (.iload_n 1) 1) (zH pc 15 (zQ pc 14 .baload 1) (zQ pc 15 (.ifCond .ne 7) 3))) (zH pc 22 (zH pc 19 (zQ pc 18 (.iconst 1) 1) (zQ pc 19 (.goto 4) 3)) (zH pc 23 (zQ pc 22 (.iconst 0) 1) (zQ pc 23 .ireturn 1))))) else none
def zc_150 (pc : Nat) : Option (Instr × Nat) := bif Nat.blt pc 40 then (zH pc 18 (zH pc 8 (zH pc 3 (zH pc 1 (zQ pc 0 (.iconst 0) 1) (zH pc 2 (zQ pc 1 (.istore_n 2) 1) (zQ pc 2 (.iload_n 2) 1))) (zH pc 4 (zQ pc 3 (.aload_n 0) 1) (zH pc 7 (zQ pc 4 (.getfield 13) 3) (zQ pc 7 (.iload_n 1) 1)))) (zH pc 13 (zH pc 9 (zQ pc 8 .iaload 1) (zH pc 12 (zQ pc 9 (.if_icmp .ge 29) 3) (zQ pc 12 (.aload_n 0) 1))) (zH pc 16 (zH pc 15 (zQ pc 13 (.bipush 8) 2) (zQ pc 15 (.iload_n 1) 1)) (zH pc 17 (zQ pc 16 .imul 1) (zQ pc 17 (.iload_n 2) 1))))) (zH pc 29 (zH pc 25 (zH pc 19 (zQ pc 18 .iadd 1) (zH pc 22 (zQ pc 19 (.invokevirtual 238) 3) (zQ pc 22 (.ifCond .eq 10) 3))) (zH pc 27 (zQ pc 25 (.bipush 8) 2) (zH pc 28 (zQ pc 27 (.iload_n 1) 1) (zQ pc 28 .imul 1)))) (zH pc 32 (zH pc 30 (zQ pc 29 (.iload_n 2) 1) (zH pc 31 (zQ pc 30 .iadd 1) (zQ pc 31 .ireturn 1))) (zH pc 38 (zH pc 35 (zQ pc 32 (.iinc 2 1) 3) (zQ pc 35 (.goto (-33)) 3)) (zH pc 39 (zQ pc 38 (.iconst (-1)) 1) (zQ pc 39 .ireturn 1)))))) else none
def zc_151 (pc : Nat) : Option (Instr × Nat) := bif Nat.blt pc 83 then (zH pc 34 (zH pc 17 (zH pc 6 (zH pc 3 (zH pc 1 (zQ pc 0 (.iload_n 1) 1) (zQ pc 1 (.bipush 8) 2)) (zH pc 4 (zQ pc 3 .idiv 1) (zH pc 5 (zQ pc 4 (.istore_n 3) 1) (zQ pc 5 (.iconst 0) 1)))) (zH pc 11 (zH pc 8 (zQ pc 6 (.istore 4) 2) (zH pc 9 (zQ pc 8 (.iconst 0) 1) (zQ pc 9 (.istore 5) 2))) (zH pc 13 (zQ pc 11 (.iload 5) 2) (zH pc 14 (zQ pc 13 (.iconst 4) 1) (zQ pc 14 (.if_icmp .ge 57) 3))))) (zH pc 26 (zH pc 22 (zH pc 18 (zQ pc 17 (.aload_n 0) 1) (zH pc 21 (zQ pc 18 (.getfield 19) 3) (zQ pc 21 (.iload_n 3) 1))) (zH pc 23 (zQ pc 22 (.iload_n 1) 1) (zH pc 25 (zQ pc 23 (.bipush 8) 2) (zQ pc 25 .irem 1)))) (zH pc 31 (zH pc 27 (zQ pc 26 (.aload_n 0) 1) (zH pc 30 (zQ pc 27 (.getfield 16) 3) (zQ pc 30 (.iload_n 3) 1))) (zH pc 32 (zQ pc 31 .iaload 1) (zH pc 33 (zQ pc 32 .irem 1) (zQ pc 33 (.iload_n 2) 1)))))) (zH pc 56 (zH pc 44 (zH pc 39 (zH pc 36 (zQ pc 34 (.iload 5) 2) (zQ pc 36 (.invokestatic 230) 3)) (zH pc 40 (zQ pc 39 .iaload 1) (zH pc 42 (zQ pc 40 (.istore 6) 2) (zQ pc 42 (.iload 6) 2)))) (zH pc 51 (zH pc 47 (zQ pc 44 (.ifCond .ge 6) 3) (zH pc 50 (zQ pc 47 (.goto 18) 3) (zQ pc 50 (.iconst 1) 1))) (zH pc 53 (zQ pc 51 (.istore 4) 2) (zH pc 54 (zQ pc 53 (.aload_n 0) 1) (zQ pc 54 (.iload 6) 2))))) (zH pc 71 (zH pc 64 (zH pc 59 (zQ pc 56 (.invokevirtual 238) 3) (zH pc 62 (zQ pc 59 (.ifCond .eq 6) 3) (zQ pc 62 (.iload 6) 2))) (zH pc 65 (zQ pc 64 .ireturn 1) (zH pc 68 (zQ pc 65 (.iinc 5 1) 3) (zQ pc 68 (.goto (-57)) 3)))) (zH pc 77 (zH pc 73 (zQ pc 71 (.iload 4) 2) (zH pc 76 (zQ pc 73 (.ifCond .eq 7) 3) (zQ pc 76 (.iconst (-1)) 1))) (zH pc 80 (zQ pc 77 (.goto 5) 3) (zH pc 82 (zQ pc 80 (.bipush (-2)) 2) (zQ pc 82 .ireturn 1))))))) else none
def zc_152 (pc : Nat) : Option (Instr × Nat) := bif Nat.blt pc 35 then (zH pc 20 (zH pc 8 (zH pc 5 (zH pc 1 (zQ pc 0 (.aload_n 0) 1) (zH pc 4 (zQ pc 1 (.getfield 25) 3) (zQ pc 4 (.iload_n 2) 1))) (zH pc 6 (zQ pc 5 (.iload_n 1) 1) (zH pc 7 (zQ pc 6 .iastore 1) (zQ pc 7 (.aload_n 0) 1)))) (zH pc 14 (zH pc 11 (zQ pc 8 (.getfield 71) 3) (zH pc 13 (zQ pc 11 (.bipush 120) 2) (zQ pc 13 (.iload_n 1) 1))) (zH pc 16 (zH pc 15 (zQ pc 14 .imul 1) (zQ pc 15 (.aload_n 0) 1)) (zH pc 19 (zQ pc 16 (.getfield 68) 3) (zQ pc 19 (.iload_n 1) 1))))) (zH pc 28 (zH pc 23 (zH pc 21 (zQ pc 20 .iaload 1) (zH pc 22 (zQ pc 21 .iadd 1) (zQ pc 22 (.iload_n 2) 1))) (zH pc 24 (zQ pc 23 .iastore 1) (zH pc 25 (zQ pc 24 (.aload_n 0) 1) (zQ pc 25 (.getfield 68) 3)))) (zH pc 31 (zH pc 29 (zQ pc 28 (.iload_n 1) 1) (zH pc 30 (zQ pc 29 .dup2 1) (zQ pc 30 .iaload 1))) (zH pc 33 (zH pc 32 (zQ pc 31 (.iconst 1) 1) (zQ pc 32 .iadd 1)) (zH pc 34 (zQ pc 33 .iastore 1) (zQ pc 34 .return_ 1)))))) else none
def zc_153 (pc : Nat) : Option (Instr × Nat) := bif Nat.blt pc 117 then (zH pc 61 (zH pc 31 (zH pc 17 (zH pc 6 (zH pc 2 (zH pc 1 (zQ pc 0 (.aload_n 0) 1) (zQ pc 1 (.iconst 0) 1)) (zH pc 5 (zQ pc 2 (.putfield 201) 3) (zQ pc 5 (.aload_n 0) 1))) (zH pc 10 (zH pc 7 (zQ pc 6 (.iload_n 1) 1) (zQ pc 7 (.invokevirtual 241) 3)) (zH pc 13 (zQ pc 10 (.ifCond .eq 12) 3) (zH pc 14 (zQ pc 13 (.aload_n 0) 1) (zQ pc 14 (.getfield 44) 3))))) (zH pc 24 (zH pc 19 (zH pc 18 (zQ pc 17 (.iload_n 1) 1) (zQ pc 18 .iaload 1)) (zH pc 22 (zQ pc 19 (.ifCond .eq 5) 3) (zH pc 23 (zQ pc 22 (.iconst (-1)) 1) (zQ pc 23 .ireturn 1)))) (zH pc 26 (zH pc 25 (zQ pc 24 (.aload_n 0) 1) (zQ pc 25 (.aload_n 0) 1)) (zH pc 29 (zQ pc 26 (.getfield 35) 3) (zH pc 30 (zQ pc 29 (.iload_n 1) 1) (zQ pc 30 .iaload 1)))))) (zH pc 47 (zH pc 39 (zH pc 35 (zH pc 34 (zQ pc 31 (.invokevirtual 244) 3) (zQ pc 34 (.istore_n 2) 1)) (zH pc 36 (zQ pc 35 (.iload_n 2) 1) (zQ pc 36 (.ifCond .ge 6) 3))) (zH pc 42 (zH pc 41 (zQ pc 39 (.bipush 7) 2) (zQ pc 41 .ireturn 1)) (zH pc 43 (zQ pc 42 (.aload_n 0) 1) (zH pc 46 (zQ pc 43 (.getfield 44) 3) (zQ pc 46 (.iload_n 1) 1))))) (zH pc 54 (zH pc 49 (zH pc 48 (zQ pc 47 (.iconst 1) 1) (zQ pc 48 .iastore 1)) (zH pc 50 (zQ pc 49 (.aload_n 0) 1) (zH pc 53 (zQ pc 50 (.getfield 68) 3) (zQ pc 53 (.iload_n 1) 1)))) (zH pc 56 (zH pc 55 (zQ pc 54 (.iconst 0) 1) (zQ pc 55 .iastore 1)) (zH pc 57 (zQ pc 56 (.aload_n 0) 1) (zH pc 60 (zQ pc 57 (.getfield 53) 3) (zQ pc 60 (.iload_n 1) 1))))))) (zH pc 86 (zH pc 74 (zH pc 67 (zH pc 63 (zH pc 62 (zQ pc 61 (.iconst 0) 1) (zQ pc 62 .iastore 1)) (zH pc 64 (zQ pc 63 (.aload_n 0) 1) (zQ pc 64 (.getfield 59) 3))) (zH pc 69 (zH pc 68 (zQ pc 67 (.iload_n 1) 1) (zQ pc 68 (.iconst 0) 1)) (zH pc 70 (zQ pc 69 .iastore 1) (zH pc 71 (zQ pc 70 (.aload_n 0) 1) (zQ pc 71 (.getfield 50) 3))))) (zH pc 81 (zH pc 76 (zH pc 75 (zQ pc 74 (.iload_n 1) 1) (zQ pc 75 (.iconst (-1)) 1)) (zH pc 77 (zQ pc 76 .iastore 1) (zH pc 78 (zQ pc 77 (.aload_n 0) 1) (zQ pc 78 (.getfield 65) 3)))) (zH pc 83 (zH pc 82 (zQ pc 81 (.iload_n 1) 1) (zQ pc 82 (.iconst (-1)) 1)) (zH pc 84 (zQ pc 83 .iastore 1) (zH pc 85 (zQ pc 84 (.aload_n 0) 1) (zQ pc 85 (.iload_n 1) 1)))))) (zH pc 101 (zH pc 94 (zH pc 90 (zH pc 87 (zQ pc 86 (.iload_n 2) 1) (zQ pc 87 (.invokevirtual 248) 3)) (zH pc 91 (zQ pc 90 (.aload_n 0) 1) (zQ pc 91 (.getfield 47) 3))) (zH pc 96 (zH pc 95 (zQ pc 94 (.iload_n 1) 1) (zQ pc 95 (.aload_n 0) 1)) (zH pc 99 (zQ pc 96 (.getfield 32) 3) (zH pc 100 (zQ pc 99 (.iload_n 2) 1) (zQ pc 100 .baload 1))))) (zH pc 110 (zH pc 105 (zH pc 104 (zQ pc 101 (.ifCond .eq 7) 3) (zQ pc 104 (.iconst 2) 1)) (zH pc 108 (zQ pc 105 (.goto 4) 3) (zH pc 109 (zQ pc 108 (.iconst 0) 1) (zQ pc 109 .iastore 1)))) (zH pc 114 (zH pc 111 (zQ pc 110 (.aload_n 0) 1) (zQ pc 111 (.getfield 47) 3)) (zH pc 115 (zQ pc 114 (.iload_n 1) 1) (zH pc 116 (zQ pc 115 .iaload 1) (zQ pc 116 .ireturn 1)))))))) else none
def zc_154 (pc : Nat) : Option (Instr × Nat) := bif Nat.blt pc 19 then (zH pc 12 (zH pc 6 (zH pc 1 (zQ pc 0 (.aload_n 0) 1) (zH pc 4 (zQ pc 1 (.getfield 71) 3) (zQ pc 4 (.bipush 120) 2))) (zH pc 8 (zH pc 7 (zQ pc 6 (.iload_n 1) 1) (zQ pc 7 .imul 1)) (zH pc 9 (zQ pc 8 (.aload_n 0) 1) (zQ pc 9 (.getfield 68) 3)))) (zH pc 15 (zH pc 13 (zQ pc 12 (.iload_n 1) 1) (zH pc 14 (zQ pc 13 .iaload 1) (zQ pc 14 .iadd 1))) (zH pc 17 (zH pc 16 (zQ pc 15 (.iconst 1) 1) (zQ pc 16 .isub 1)) (zH pc 18 (zQ pc 17 .iaload 1) (zQ pc 18 .ireturn 1))))) else none
def zc_155 (pc : Nat) : Option (Instr × Nat) := bif Nat.blt pc 25 then (zH pc 13 (zH pc 6 (zH pc 1 (zQ pc 0 (.iload_n 1) 1) (zH pc 3 (zQ pc 1 (.bipush 100) 2) (zQ pc 3 (.if_icmp .ge 16) 3))) (zH pc 10 (zH pc 7 (zQ pc 6 (.aload_n 0) 1) (zQ pc 7 (.getfield 7) 3)) (zH pc 11 (zQ pc 10 (.iload_n 1) 1) (zQ pc 11 (.bipush 8) 2)))) (zH pc 19 (zH pc 15 (zH pc 14 (zQ pc 13 .idiv 1) (zQ pc 14 .iaload 1)) (zH pc 16 (zQ pc 15 (.iconst 1) 1) (zQ pc 16 (.if_icmp .ne 7) 3))) (zH pc 23 (zH pc 20 (zQ pc 19 (.iconst 1) 1) (zQ pc 20 (.goto 4) 3)) (zH pc 24 (zQ pc 23 (.iconst 0) 1) (zQ pc 24 .ireturn 1))))) else none
def zc_156 (pc : Nat) : Option (Instr × Nat) := bif Nat.blt pc 333 then (zH pc 171 (zH pc 82 (zH pc 42 (zH pc 20 (zH pc 10 (zH pc 5 (zH pc 1 (zQ pc 0 (.aload_n 0) 1) (zH pc 2 (zQ pc 1 (.iconst 0) 1) (zQ pc 2 (.putfield 201) 3))) (zH pc 6 (zQ pc 5 (.aload_n 0) 1) (zH pc 7 (zQ pc 6 (.iload_n 1) 1) (zQ pc 7 (.invokevirtual 241) 3)))) (zH pc 17 (zH pc 13 (zQ pc 10 (.ifCond .eq 23) 3) (zH pc 14 (zQ pc 13 (.aload_n 0) 1) (zQ pc 14 (.getfield 44) 3))) (zH pc 18 (zQ pc 17 (.iload_n 1) 1) (zH pc 19 (zQ pc 18 .iaload 1) (zQ pc 19 (.iconst 1) 1))))) (zH pc 33 (zH pc 25 (zH pc 23 (zQ pc 20 (.if_icmp .ne 13) 3) (zH pc 24 (zQ pc 23 (.iload_n 2) 1) (zQ pc 24 (.iconst 0) 1))) (zH pc 27 (zQ pc 25 (.bipush 9) 2) (zH pc 30 (zQ pc 27 (.invokestatic 212) 3) (zQ pc 30 (.ifCond .ne 5) 3)))) (zH pc 36 (zH pc 34 (zQ pc 33 (.iconst (-1)) 1) (zH pc 35 (zQ pc 34 .ireturn 1) (zQ pc 35 (.aload_n 0) 1))) (zH pc 40 (zH pc 39 (zQ pc 36 (.getfield 47) 3) (zQ pc 39 (.iload_n 1) 1)) (zH pc 41 (zQ pc 40 .iaload 1) (zQ pc 41 (.iconst 1) 1)))))) (zH pc 63 (zH pc 52 (zH pc 49 (zH pc 45 (zQ pc 42 (.if_icmp .le 10) 3) (zH pc 46 (zQ pc 45 (.aload_n 0) 1) (zQ pc 46 (.getfield 47) 3))) (zH pc 50 (zQ pc 49 (.iload_n 1) 1) (zH pc 51 (zQ pc 50 .iaload 1) (zQ pc 51 .ireturn 1)))) (zH pc 57 (zH pc 53 (zQ pc 52 (.aload_n 0) 1) (zH pc 56 (zQ pc 53 (.getfield 53) 3) (zQ pc 56 (.iload_n 1) 1))) (zH pc 59 (zH pc 58 (zQ pc 57 .iaload 1) (zQ pc 58 (.iconst 5) 1)) (zH pc 62 (zQ pc 59 (.if_icmp .ge 19) 3) (zQ pc 62 (.aload_n 0) 1))))) (zH pc 73 (zH pc 68 (zH pc 66 (zQ pc 63 (.getfield 56) 3) (zH pc 67 (zQ pc 66 (.iconst 5) 1) (zQ pc 67 (.iload_n 1) 1))) (zH pc 69 (zQ pc 68 .imul 1) (zH pc 70 (zQ pc 69 (.aload_n 0) 1) (zQ pc 70 (.getfield 53) 3)))) (zH pc 76 (zH pc 74 (zQ pc 73 (.iload_n 1) 1) (zH pc 75 (zQ pc 74 .iaload 1) (zQ pc 75 .iadd 1))) (zH pc 78 (zH pc 77 (zQ pc 76 (.iload_n 2) 1) (zQ pc 77 .iastore 1)) (zH pc 79 (zQ pc 78 (.aload_n 0) 1) (zQ pc 79 (.getfield 53) 3))))))) (zH pc 123 (zH pc 99 (zH pc 88 (zH pc 85 (zH pc 83 (zQ pc 82 (.iload_n 1) 1) (zH pc 84 (zQ pc 83 .dup2 1) (zQ pc 84 .iaload 1))) (zH pc 86 (zQ pc 85 (.iconst 1) 1) (zH pc 87 (zQ pc 86 .iadd 1) (zQ pc 87 .iastore 1)))) (zH pc 93 (zH pc 89 (zQ pc 88 (.aload_n 0) 1) (zH pc 90 (zQ pc 89 (.iload_n 1) 1) (zQ pc 90 (.invokevirtual 252) 3))) (zH pc 95 (zH pc 94 (zQ pc 93 (.istore_n 3) 1) (zQ pc 94 (.aload_n 0) 1)) (zH pc 96 (zQ pc 95 (.iload_n 3) 1) (zQ pc 96 (.invokevirtual 255) 3))))) (zH pc 110 (zH pc 104 (zH pc 102 (zQ pc 99 (.ifCond .ne 72) 3) (zH pc 103 (zQ pc 102 (.aload_n 0) 1) (zQ pc 103 (.iload_n 3) 1))) (zH pc 105 (zQ pc 104 (.iload_n 2) 1) (zH pc 108 (zQ pc 105 (.invokevirtual 258) 3) (zQ pc 108 (.istore 4) 2)))) (zH pc 116 (zH pc 112 (zQ pc 110 (.iload 4) 2) (zH pc 115 (zQ pc 112 (.ifCond .lt 10) 3) (zQ pc 115 (.aload_n 0) 1))) (zH pc 119 (zH pc 117 (zQ pc 116 (.iload_n 1) 1) (zQ pc 117 (.iload 4) 2)) (zH pc 122 (zQ pc 119 (.invokevirtual 248) 3) (zQ pc 122 (.aload_n 0) 1)))))) (zH pc 149 (zH pc 134 (zH pc 129 (zH pc 126 (zQ pc 123 (.getfield 47) 3) (zH pc 127 (zQ pc 126 (.iload_n 1) 1) (zQ pc 127 (.iload 4) 2))) (zH pc 130 (zQ pc 129 (.iconst (-1)) 1) (zH pc 133 (zQ pc 130 (.if_icmp .ne 7) 3) (zQ pc 133 (.iconst 3) 1)))) (zH pc 141 (zH pc 137 (zQ pc 134 (.goto 29) 3) (zH pc 139 (zQ pc 137 (.iload 4) 2) (zQ pc 139 (.bipush (-2)) 2))) (zH pc 145 (zH pc 144 (zQ pc 141 (.if_icmp .ne 7) 3) (zQ pc 144 (.iconst 4) 1)) (zH pc 148 (zQ pc 145 (.goto 18) 3) (zQ pc 148 (.aload_n 0) 1))))) (zH pc 162 (zH pc 155 (zH pc 152 (zQ pc 149 (.getfield 32) 3) (zH pc 154 (zQ pc 152 (.iload 4) 2) (zQ pc 154 .baload 1))) (zH pc 158 (zQ pc 155 (.ifCond .eq 7) 3) (zH pc 159 (zQ pc 158 (.iconst 2) 1) (zQ pc 159 (.goto 4) 3)))) (zH pc 165 (zH pc 163 (zQ pc 162 (.iconst 1) 1) (zH pc 164 (zQ pc 163 .iastore 1) (zQ pc 164 (.aload_n 0) 1))) (zH pc 169 (zH pc 168 (zQ pc 165 (.getfield 47) 3) (zQ pc 168 (.iload_n 1) 1)) (zH pc 170 (zQ pc 169 .iaload 1) (zQ pc 170 .ireturn 1)))))))) (zH pc 248 (zH pc 208 (zH pc 188 (zH pc 179 (zH pc 176 (zH pc 172 (zQ pc 171 (.aload_n 0) 1) (zH pc 175 (zQ pc 172 (.getfield 59) 3) (zQ pc 175 (.iload_n 1) 1))) (zH pc 177 (zQ pc 176 .dup2 1) (zH pc 178 (zQ pc 177 .iaload 1) (zQ pc 178 (.iconst 1) 1)))) (zH pc 182 (zH pc 180 (zQ pc 179 .iadd 1) (zH pc 181 (zQ pc 180 .iastore 1) (zQ pc 181 (.aload_n 0) 1))) (zH pc 186 (zH pc 185 (zQ pc 182 (.getfield 59) 3) (zQ pc 185 (.iload_n 1) 1)) (zH pc 187 (zQ pc 186 .iaload 1) (zQ pc 187 (.iconst 1) 1))))) (zH pc 198 (zH pc 195 (zH pc 191 (zQ pc 188 (.if_icmp .ne 10) 3) (zH pc 192 (zQ pc 191 (.aload_n 0) 1) (zQ pc 192 (.getfield 62) 3))) (zH pc 196 (zQ pc 195 (.iload_n 1) 1) (zH pc 197 (zQ pc 196 (.iload_n 2) 1) (zQ pc 197 .iastore 1)))) (zH pc 203 (zH pc 199 (zQ pc 198 (.aload_n 0) 1) (zH pc 202 (zQ pc 199 (.getfield 47) 3) (zQ pc 202 (.iload_n 1) 1))) (zH pc 205 (zH pc 204 (zQ pc 203 (.iconst 1) 1) (zQ pc 204 .iastore 1)) (zH pc 206 (zQ pc 205 (.iload_n 3) 1) (zQ pc 206 (.bipush 100) 2)))))) (zH pc 229 (zH pc 218 (zH pc 215 (zH pc 211 (zQ pc 208 (.if_icmp .lt 27) 3) (zH pc 212 (zQ pc 211 (.aload_n 0) 1) (zQ pc 212 (.getfield 59) 3))) (zH pc 216 (zQ pc 215 (.iload_n 1) 1) (zH pc 217 (zQ pc 216 .iaload 1) (zQ pc 217 (.iconst 3) 1)))) (zH pc 225 (zH pc 221 (zQ pc 218 (.if_icmp .ne 10) 3) (zH pc 222 (zQ pc 221 (.aload_n 0) 1) (zQ pc 222 (.getfield 47) 3))) (zH pc 227 (zH pc 226 (zQ pc 225 (.iload_n 1) 1) (zQ pc 226 (.iconst 5) 1)) (zH pc 228 (zQ pc 227 .iastore 1) (zQ pc 228 (.aload_n 0) 1))))) (zH pc 239 (zH pc 234 (zH pc 232 (zQ pc 229 (.getfield 47) 3) (zH pc 233 (zQ pc 232 (.iload_n 1) 1) (zQ pc 233 .iaload 1))) (zH pc 235 (zQ pc 234 .ireturn 1) (zH pc 236 (zQ pc 235 (.aload_n 0) 1) (zQ pc 236 (.getfield 59) 3)))) (zH pc 242 (zH pc 240 (zQ pc 239 (.iload_n 1) 1) (zH pc 241 (zQ pc 240 .iaload 1) (zQ pc 241 (.iconst 2) 1))) (zH pc 246 (zH pc 245 (zQ pc 242 (.if_icmp .ge 5) 3) (zQ pc 245 (.iconst 1) 1)) (zH pc 247 (zQ pc 246 .ireturn 1) (zQ pc 247 (.aload_n 0) 1))))))) (zH pc 293 (zH pc 268 (zH pc 258 (zH pc 252 (zH pc 249 (zQ pc 248 (.iload_n 3) 1) (zH pc 251 (zQ pc 249 (.bipush 8) 2) (zQ pc 251 .idiv 1))) (zH pc 254 (zQ pc 252 (.bipush 10) 2) (zH pc 255 (zQ pc 254 (.aload_n 0) 1) (zQ pc 255 (.getfield 62) 3)))) (zH pc 261 (zH pc 259 (zQ pc 258 (.iload_n 1) 1) (zH pc 260 (zQ pc 259 .iaload 1) (zQ pc 260 .imul 1))) (zH pc 263 (zH pc 262 (zQ pc 261 (.iload_n 2) 1) (zQ pc 262 .iadd 1)) (zH pc 266 (zQ pc 263 (.invokevirtual 234) 3) (zQ pc 266 (.istore 4) 2))))) (zH pc 279 (zH pc 273 (zH pc 269 (zQ pc 268 (.aload_n 0) 1) (zH pc 272 (zQ pc 269 (.getfield 47) 3) (zQ pc 272 (.iload_n 1) 1))) (zH pc 275 (zQ pc 273 (.iload 4) 2) (zH pc 278 (zQ pc 275 (.ifCond .ge 7) 3) (zQ pc 278 (.iconst 4) 1)))) (zH pc 286 (zH pc 282 (zQ pc 279 (.goto 18) 3) (zH pc 283 (zQ pc 282 (.aload_n 0) 1) (zQ pc 283 (.getfield 44) 3))) (zH pc 289 (zH pc 288 (zQ pc 286 (.iload 4) 2) (zQ pc 288 .iaload 1)) (zH pc 292 (zQ pc 289 (.ifCond .ne 7) 3) (zQ pc 292 (.iconst 5) 1)))))) (zH pc 314 (zH pc 303 (zH pc 298 (zH pc 296 (zQ pc 293 (.goto 4) 3) (zH pc 297 (zQ pc 296 (.iconst 3) 1) (zQ pc 297 .iastore 1))) (zH pc 299 (zQ pc 298 (.aload_n 0) 1) (zH pc 302 (zQ pc 299 (.getfield 47) 3) (zQ pc 302 (.iload_n 1) 1)))) (zH pc 308 (zH pc 304 (zQ pc 303 .iaload 1) (zH pc 305 (zQ pc 304 (.iconst 5) 1) (zQ pc 305 (.if_icmp .eq 10) 3))) (zH pc 312 (zH pc 309 (zQ pc 308 (.aload_n 0) 1) (zQ pc 309 (.getfield 47) 3)) (zH pc 313 (zQ pc 312 (.iload_n 1) 1) (zQ pc 313 .iaload 1))))) (zH pc 323 (zH pc 319 (zH pc 315 (zQ pc 314 .ireturn 1) (zH pc 316 (zQ pc 315 (.aload_n 0) 1) (zQ pc 316 (.getfield 50) 3))) (zH pc 320 (zQ pc 319 (.iload_n 1) 1) (zH pc 322 (zQ pc 320 (.iload 4) 2) (zQ pc 322 .iastore 1)))) (zH pc 329 (zH pc 324 (zQ pc 323 (.aload_n 0) 1) (zH pc 327 (zQ pc 324 (.getfield 44) 3) (zQ pc 327 (.iload 4) 2))) (zH pc 331 (zH pc 330 (zQ pc 329 (.iconst 2) 1) (zQ pc 330 .iastore 1)) (zH pc 332 (zQ pc 331 (.iconst 5) 1) (zQ pc 332 .ireturn 1))))))))) else none
def zc_157 (pc : Nat) : Option (Instr × Nat) := bif Nat.blt pc 55 then (zH pc 29 (zH pc 14 (zH pc 6 (zH pc 2 (zH pc 1 (zQ pc 0 (.aload_n 0) 1) (zQ pc 1 (.iconst 0) 1)) (zH pc 5 (zQ pc 2 (.putfield 201) 3) (zQ pc 5 (.aload_n 0) 1))) (zH pc 10 (zH pc 7 (zQ pc 6 (.iload_n 1) 1) (zQ pc 7 (.invokevirtual 241) 3)) (zH pc 13 (zQ pc 10 (.ifCond .eq 23) 3) (zQ pc 13 (.aload_n 0) 1)))) (zH pc 20 (zH pc 18 (zH pc 17 (zQ pc 14 (.getfield 44) 3) (zQ pc 17 (.iload_n 1) 1)) (zH pc 19 (zQ pc 18 .iaload 1) (zQ pc 19 (.iconst 1) 1))) (zH pc 24 (zH pc 23 (zQ pc 20 (.if_icmp .ne 13) 3) (zQ pc 23 (.aload_n 0) 1)) (zH pc 27 (zQ pc 24 (.getfield 47) 3) (zH pc 28 (zQ pc 27 (.iload_n 1) 1) (zQ pc 28 .iaload 1)))))) (zH pc 42 (zH pc 35 (zH pc 33 (zH pc 30 (zQ pc 29 (.iconst 5) 1) (zQ pc 30 (.if_icmp .eq 5) 3)) (zH pc 34 (zQ pc 33 (.iconst 0) 1) (zQ pc 34 .ireturn 1))) (zH pc 39 (zH pc 36 (zQ pc 35 (.aload_n 0) 1) (zQ pc 36 (.getfield 47) 3)) (zH pc 40 (zQ pc 39 (.iload_n 1) 1) (zQ pc 40 (.bipush 6) 2)))) (zH pc 48 (zH pc 44 (zH pc 43 (zQ pc 42 .iastore 1) (zQ pc 43 (.aload_n 0) 1)) (zH pc 47 (zQ pc 44 (.getfield 65) 3) (zQ pc 47 (.iload_n 1) 1))) (zH pc 52 (zH pc 49 (zQ pc 48 (.aload_n 0) 1) (zQ pc 49 (.getfield 220) 3)) (zH pc 53 (zQ pc 52 .iastore 1) (zH pc 54 (zQ pc 53 (.iconst 1) 1) (zQ pc 54 .ireturn 1))))))) else none
def zc_158 (pc : Nat) : Option (Instr × Nat) := bif Nat.blt pc 192 then (zH pc 101 (zH pc 48 (zH pc 24 (zH pc 13 (zH pc 5 (zH pc 1 (zQ pc 0 (.aload_n 0) 1) (zH pc 2 (zQ pc 1 (.iconst 0) 1) (zQ pc 2 (.putfield 201) 3))) (zH pc 7 (zH pc 6 (zQ pc 5 (.aload_n 0) 1) (zQ pc 6 (.iload_n 1) 1)) (zH pc 10 (zQ pc 7 (.invokevirtual 241) 3) (zQ pc 10 (.ifCond .eq 13) 3)))) (zH pc 18 (zH pc 14 (zQ pc 13 (.aload_n 0) 1) (zH pc 17 (zQ pc 14 (.getfield 44) 3) (zQ pc 17 (.iload_n 1) 1))) (zH pc 20 (zH pc 19 (zQ pc 18 .iaload 1) (zQ pc 19 (.iconst 1) 1)) (zH pc 23 (zQ pc 20 (.if_icmp .eq 5) 3) (zQ pc 23 (.iconst (-1)) 1))))) (zH pc 33 (zH pc 27 (zH pc 25 (zQ pc 24 .ireturn 1) (zH pc 26 (zQ pc 25 (.iconst 0) 1) (zQ pc 26 (.istore_n 2) 1))) (zH pc 31 (zH pc 28 (zQ pc 27 (.aload_n 0) 1) (zQ pc 28 (.getfield 47) 3)) (zH pc 32 (zQ pc 31 (.iload_n 1) 1) (zQ pc 32 .iaload 1)))) (zH pc 40 (zH pc 38 (zH pc 35 (zQ pc 33 (.bipush 6) 2) (zQ pc 35 (.if_icmp .ne 85) 3)) (zH pc 39 (zQ pc 38 (.aload_n 0) 1) (zQ pc 39 (.iload_n 1) 1))) (zH pc 44 (zH pc 43 (zQ pc 40 (.invokevirtual 261) 3) (zQ pc 43 (.istore_n 2) 1)) (zH pc 45 (zQ pc 44 (.aload_n 0) 1) (zQ pc 45 (.getfield 264) 3)))))) (zH pc 74 (zH pc 63 (zH pc 55 (zH pc 51 (zQ pc 48 (.sipush 200) 3) (zH pc 54 (zQ pc 51 (.if_icmp .ge 69) 3) (zQ pc 54 (.aload_n 0) 1))) (zH pc 59 (zH pc 58 (zQ pc 55 (.getfield 80) 3) (zQ pc 58 (.aload_n 0) 1)) (zH pc 62 (zQ pc 59 (.getfield 264) 3) (zQ pc 62 (.iload_n 1) 1)))) (zH pc 68 (zH pc 64 (zQ pc 63 .iastore 1) (zH pc 65 (zQ pc 64 (.aload_n 0) 1) (zQ pc 65 (.getfield 83) 3))) (zH pc 72 (zH pc 69 (zQ pc 68 (.aload_n 0) 1) (zQ pc 69 (.getfield 264) 3)) (zH pc 73 (zQ pc 72 (.iload_n 2) 1) (zQ pc 73 .iastore 1))))) (zH pc 87 (zH pc 79 (zH pc 75 (zQ pc 74 (.aload_n 0) 1) (zH pc 78 (zQ pc 75 (.getfield 86) 3) (zQ pc 78 (.aload_n 0) 1))) (zH pc 83 (zH pc 82 (zQ pc 79 (.getfield 264) 3) (zQ pc 82 (.aload_n 0) 1)) (zH pc 86 (zQ pc 83 (.getfield 65) 3) (zQ pc 86 (.iload_n 1) 1)))) (zH pc 93 (zH pc 91 (zH pc 88 (zQ pc 87 .iaload 1) (zQ pc 88 (.ldc_w 267) 3)) (zH pc 92 (zQ pc 91 .idiv 1) (zQ pc 92 .iastore 1))) (zH pc 97 (zH pc 94 (zQ pc 93 (.aload_n 0) 1) (zQ pc 94 (.getfield 89) 3)) (zH pc 98 (zQ pc 97 (.aload_n 0) 1) (zQ pc 98 (.getfield 264) 3))))))) (zH pc 147 (zH pc 123 (zH pc 112 (zH pc 108 (zH pc 102 (zQ pc 101 (.aload_n 0) 1) (zH pc 105 (zQ pc 102 (.getfield 220) 3) (zQ pc 105 (.ldc_w 267) 3))) (zH pc 110 (zH pc 109 (zQ pc 108 .idiv 1) (zQ pc 109 .iastore 1)) (zH pc 111 (zQ pc 110 (.aload_n 0) 1) (zQ pc 111 .dup 1)))) (zH pc 117 (zH pc 115 (zQ pc 112 (.getfield 264) 3) (zH pc 116 (zQ pc 115 (.iconst 1) 1) (zQ pc 116 .iadd 1))) (zH pc 121 (zH pc 120 (zQ pc 117 (.putfield 264) 3) (zQ pc 120 (.iconst 0) 1)) (zH pc 122 (zQ pc 121 (.istore_n 3) 1) (zQ pc 122 (.iload_n 3) 1))))) (zH pc 136 (zH pc 128 (zH pc 124 (zQ pc 123 (.aload_n 0) 1) (zH pc 127 (zQ pc 124 (.getfield 68) 3) (zQ pc 127 (.iload_n 1) 1))) (zH pc 132 (zH pc 129 (zQ pc 128 .iaload 1) (zQ pc 129 (.if_icmp .ge 26) 3)) (zH pc 133 (zQ pc 132 (.aload_n 0) 1) (zQ pc 133 (.getfield 25) 3)))) (zH pc 143 (zH pc 140 (zH pc 137 (zQ pc 136 (.aload_n 0) 1) (zQ pc 137 (.getfield 71) 3)) (zH pc 142 (zQ pc 140 (.bipush 120) 2) (zQ pc 142 (.iload_n 1) 1))) (zH pc 145 (zH pc 144 (zQ pc 143 .imul 1) (zQ pc 144 (.iload_n 3) 1)) (zH pc 146 (zQ pc 145 .iadd 1) (zQ pc 146 .iaload 1)))))) (zH pc 171 (zH pc 160 (zH pc 152 (zH pc 148 (zQ pc 147 (.iconst (-1)) 1) (zH pc 149 (zQ pc 148 .iastore 1) (zQ pc 149 (.iinc 3 1) 3))) (zH pc 156 (zH pc 155 (zQ pc 152 (.goto (-30)) 3) (zQ pc 155 (.aload_n 0) 1)) (zH pc 159 (zQ pc 156 (.getfield 68) 3) (zQ pc 159 (.iload_n 1) 1)))) (zH pc 163 (zH pc 161 (zQ pc 160 (.iconst 0) 1) (zH pc 162 (zQ pc 161 .iastore 1) (zQ pc 162 (.aload_n 0) 1))) (zH pc 167 (zH pc 166 (zQ pc 163 (.getfield 50) 3) (zQ pc 166 (.iload_n 1) 1)) (zH pc 168 (zQ pc 167 .iaload 1) (zQ pc 168 (.ifCond .lt 15) 3))))) (zH pc 182 (zH pc 176 (zH pc 172 (zQ pc 171 (.aload_n 0) 1) (zH pc 175 (zQ pc 172 (.getfield 44) 3) (zQ pc 175 (.aload_n 0) 1))) (zH pc 180 (zH pc 179 (zQ pc 176 (.getfield 50) 3) (zQ pc 179 (.iload_n 1) 1)) (zH pc 181 (zQ pc 180 .iaload 1) (zQ pc 181 (.iconst 0) 1)))) (zH pc 188 (zH pc 184 (zH pc 183 (zQ pc 182 .iastore 1) (zQ pc 183 (.aload_n 0) 1)) (zH pc 187 (zQ pc 184 (.getfield 44) 3) (zQ pc 187 (.iload_n 1) 1))) (zH pc 190 (zH pc 189 (zQ pc 188 (.iconst 0) 1) (zQ pc 189 .iastore 1)) (zH pc 191 (zQ pc 190 (.iload_n 2) 1) (zQ pc 191 .ireturn 1)))))))) else none
def zc_159 (pc : Nat) : Option (Instr × Nat) := bif Nat.blt pc 91 then (zH pc 47 (zH pc 20 (zH pc 8 (zH pc 5 (zH pc 1 (zQ pc 0 (.aload_n 0) 1) (zH pc 2 (zQ pc 1 (.iconst 0) 1) (zQ pc 2 (.putfield 201) 3))) (zH pc 6 (zQ pc 5 (.iload_n 1) 1) (zH pc 7 (zQ pc 6 (.iconst 0) 1) (zQ pc 7 (.aload_n 0) 1)))) (zH pc 13 (zH pc 11 (zQ pc 8 (.getfield 264) 3) (zH pc 12 (zQ pc 11 (.iconst 1) 1) (zQ pc 12 .isub 1))) (zH pc 16 (zQ pc 13 (.invokestatic 212) 3) (zH pc 19 (zQ pc 16 (.ifCond .eq 24) 3) (zQ pc 19 (.iload_n 2) 1))))) (zH pc 34 (zH pc 27 (zH pc 21 (zQ pc 20 (.iconst 0) 1) (zH pc 24 (zQ pc 21 (.sipush 9999) 3) (zQ pc 24 (.invokestatic 212) 3))) (zH pc 30 (zQ pc 27 (.ifCond .eq 13) 3) (zH pc 31 (zQ pc 30 (.aload_n 0) 1) (zQ pc 31 (.getfield 268) 3)))) (zH pc 41 (zH pc 37 (zQ pc 34 (.sipush 200) 3) (zH pc 40 (zQ pc 37 (.if_icmp .ne 5) 3) (zQ pc 40 (.iconst 0) 1))) (zH pc 43 (zH pc 42 (zQ pc 41 .ireturn 1) (zQ pc 42 (.aload_n 0) 1)) (zH pc 46 (zQ pc 43 (.getfield 92) 3) (zQ pc 46 (.aload_n 0) 1)))))) (zH pc 70 (zH pc 57 (zH pc 52 (zH pc 50 (zQ pc 47 (.getfield 268) 3) (zH pc 51 (zQ pc 50 (.iload_n 1) 1) (zQ pc 51 .iastore 1))) (zH pc 53 (zQ pc 52 (.aload_n 0) 1) (zH pc 56 (zQ pc 53 (.getfield 95) 3) (zQ pc 56 (.aload_n 0) 1)))) (zH pc 62 (zH pc 60 (zQ pc 57 (.getfield 268) 3) (zH pc 61 (zQ pc 60 (.iload_n 2) 1) (zQ pc 61 .iastore 1))) (zH pc 66 (zH pc 63 (zQ pc 62 (.aload_n 0) 1) (zQ pc 63 (.getfield 98) 3)) (zH pc 67 (zQ pc 66 (.aload_n 0) 1) (zQ pc 67 (.getfield 268) 3))))) (zH pc 80 (zH pc 77 (zH pc 71 (zQ pc 70 (.aload_n 0) 1) (zH pc 74 (zQ pc 71 (.getfield 220) 3) (zQ pc 74 (.ldc_w 267) 3))) (zH pc 78 (zQ pc 77 .idiv 1) (zH pc 79 (zQ pc 78 .iastore 1) (zQ pc 79 (.aload_n 0) 1)))) (zH pc 85 (zH pc 81 (zQ pc 80 .dup 1) (zH pc 84 (zQ pc 81 (.getfield 268) 3) (zQ pc 84 (.iconst 1) 1))) (zH pc 89 (zH pc 86 (zQ pc 85 .iadd 1) (zQ pc 86 (.putfield 268) 3)) (zH pc 90 (zQ pc 89 (.iconst 1) 1) (zQ pc 90 .ireturn 1))))))) else none
def zc_160 (pc : Nat) : Option (Instr × Nat) := bif Nat.blt pc 57 then (zH pc 27 (zH pc 12 (zH pc 6 (zH pc 4 (zH pc 1 (zQ pc 0 (.aload_n 0) 1) (zQ pc 1 (.getfield 83) 3)) (zH pc 5 (zQ pc 4 (.iload_n 1) 1) (zQ pc 5 .iaload 1))) (zH pc 8 (zH pc 7 (zQ pc 6 (.istore_n 3) 1) (zQ pc 7 (.iconst 0) 1)) (zH pc 10 (zQ pc 8 (.istore 4) 2) (zQ pc 10 (.iload 4) 2)))) (zH pc 20 (zH pc 16 (zH pc 13 (zQ pc 12 (.aload_n 0) 1) (zQ pc 13 (.getfield 268) 3)) (zH pc 19 (zQ pc 16 (.if_icmp .ge 39) 3) (zQ pc 19 (.aload_n 0) 1))) (zH pc 25 (zH pc 23 (zQ pc 20 (.getfield 92) 3) (zQ pc 23 (.iload 4) 2)) (zH pc 26 (zQ pc 25 .iaload 1) (zQ pc 26 (.iload_n 1) 1))))) (zH pc 42 (zH pc 36 (zH pc 31 (zH pc 30 (zQ pc 27 (.if_icmp .ne 22) 3) (zQ pc 30 (.aload_n 0) 1)) (zH pc 34 (zQ pc 31 (.getfield 98) 3) (zQ pc 34 (.iload 4) 2))) (zH pc 38 (zH pc 37 (zQ pc 36 .iaload 1) (zQ pc 37 (.iload_n 2) 1)) (zH pc 41 (zQ pc 38 (.if_icmp .gt 11) 3) (zQ pc 41 (.aload_n 0) 1)))) (zH pc 49 (zH pc 47 (zH pc 45 (zQ pc 42 (.getfield 95) 3) (zQ pc 45 (.iload 4) 2)) (zH pc 48 (zQ pc 47 .iaload 1) (zQ pc 48 (.istore_n 3) 1))) (zH pc 55 (zH pc 52 (zQ pc 49 (.iinc 4 1) 3) (zQ pc 52 (.goto (-42)) 3)) (zH pc 56 (zQ pc 55 (.iload_n 3) 1) (zQ pc 56 .ireturn 1)))))) else none
def zc_161 (pc : Nat) : Option (Instr × Nat) := bif Nat.blt pc 127 then (zH pc 61 (zH pc 30 (zH pc 14 (zH pc 6 (zH pc 2 (zH pc 1 (zQ pc 0 (.aload_n 0) 1) (zQ pc 1 (.iconst 0) 1)) (zH pc 5 (zQ pc 2 (.putfield 201) 3) (zQ pc 5 (.aload_n 0) 1))) (zH pc 10 (zH pc 7 (zQ pc 6 (.iload_n 1) 1) (zQ pc 7 (.invokevirtual 241) 3)) (zH pc 13 (zQ pc 10 (.ifCond .eq 40) 3) (zQ pc 13 (.iload_n 2) 1)))) (zH pc 23 (zH pc 17 (zH pc 15 (zQ pc 14 (.iconst 0) 1) (zQ pc 15 (.bipush 11) 2)) (zH pc 20 (zQ pc 17 (.invokestatic 212) 3) (zQ pc 20 (.ifCond .eq 30) 3))) (zH pc 25 (zH pc 24 (zQ pc 23 (.iload_n 3) 1) (zQ pc 24 (.iload_n 2) 1)) (zH pc 27 (zQ pc 25 (.bipush 11) 2) (zQ pc 27 (.invokestatic 212) 3))))) (zH pc 47 (zH pc 37 (zH pc 35 (zH pc 33 (zQ pc 30 (.ifCond .eq 20) 3) (zQ pc 33 (.iload 4) 2)) (zH pc 36 (zQ pc 35 (.iconst 0) 1) (zQ pc 36 (.aload_n 0) 1))) (zH pc 43 (zH pc 40 (zQ pc 37 (.getfield 220) 3) (zQ pc 40 (.ldc_w 267) 3)) (zH pc 44 (zQ pc 43 .idiv 1) (zQ pc 44 (.invokestatic 212) 3)))) (zH pc 53 (zH pc 51 (zH pc 50 (zQ pc 47 (.ifCond .ne 5) 3) (zQ pc 50 (.iconst (-1)) 1)) (zH pc 52 (zQ pc 51 .ireturn 1) (zQ pc 52 (.iconst 0) 1))) (zH pc 56 (zH pc 55 (zQ pc 53 (.istore 5) 2) (zQ pc 55 (.iconst 0) 1)) (zH pc 58 (zQ pc 56 (.istore 6) 2) (zH pc 60 (zQ pc 58 (.iload 6) 2) (zQ pc 60 (.aload_n 0) 1))))))) (zH pc 93 (zH pc 78 (zH pc 71 (zH pc 67 (zH pc 64 (zQ pc 61 (.getfield 264) 3) (zQ pc 64 (.if_icmp .ge 60) 3)) (zH pc 68 (zQ pc 67 (.aload_n 0) 1) (zQ pc 68 (.getfield 80) 3))) (zH pc 74 (zH pc 73 (zQ pc 71 (.iload 6) 2) (zQ pc 73 .iaload 1)) (zH pc 75 (zQ pc 74 (.iload_n 1) 1) (zQ pc 75 (.if_icmp .ne 43) 3)))) (zH pc 85 (zH pc 82 (zH pc 79 (zQ pc 78 (.aload_n 0) 1) (zQ pc 79 (.getfield 86) 3)) (zH pc 84 (zQ pc 82 (.iload 6) 2) (zQ pc 84 .iaload 1))) (zH pc 87 (zH pc 86 (zQ pc 85 (.iload_n 2) 1) (zQ pc 86 (.iload_n 3) 1)) (zH pc 90 (zQ pc 87 (.invokestatic 212) 3) (zQ pc 90 (.ifCond .eq 28) 3))))) (zH pc 108 (zH pc 100 (zH pc 97 (zH pc 94 (zQ pc 93 (.aload_n 0) 1) (zQ pc 94 (.getfield 89) 3)) (zH pc 99 (zQ pc 97 (.iload 6) 2) (zQ pc 99 .iaload 1))) (zH pc 105 (zH pc 102 (zQ pc 100 (.iload 4) 2) (zQ pc 102 (.if_icmp .gt 16) 3)) (zH pc 107 (zQ pc 105 (.iload 5) 2) (zQ pc 107 (.aload_n 0) 1)))) (zH pc 116 (zH pc 112 (zH pc 110 (zQ pc 108 (.iload 6) 2) (zQ pc 110 (.iload 4) 2)) (zH pc 115 (zQ pc 112 (.invokevirtual 271) 3) (zQ pc 115 .iadd 1))) (zH pc 121 (zH pc 118 (zQ pc 116 (.istore 5) 2) (zQ pc 118 (.iinc 6 1) 3)) (zH pc 124 (zQ pc 121 (.goto (-63)) 3) (zH pc 126 (zQ pc 124 (.iload 5) 2) (zQ pc 126 .ireturn 1)))))))) else none
def zc_162 (pc : Nat) : Option (Instr × Nat) := bif Nat.blt pc 125 then (zH pc 59 (zH pc 30 (zH pc 12 (zH pc 5 (zH pc 1 (zQ pc 0 (.aload_n 0) 1) (zH pc 2 (zQ pc 1 (.iconst 0) 1) (zQ pc 2 (.putfield 201) 3))) (zH pc 8 (zH pc 6 (zQ pc 5 (.iconst 0) 1) (zQ pc 6 (.istore 7) 2)) (zH pc 10 (zQ pc 8 (.iload 7) 2) (zQ pc 10 (.bipush 24) 2)))) (zH pc 22 (zH pc 17 (zH pc 15 (zQ pc 12 (.if_icmp .ge 108) 3) (zQ pc 15 (.iload 7) 2)) (zH pc 19 (zQ pc 17 (.bipush 8) 2) (zQ pc 19 (.if_icmp .ge 7) 3))) (zH pc 26 (zH pc 23 (zQ pc 22 (.lload_n 1) 1) (zQ pc 23 (.goto 16) 3)) (zH pc 28 (zQ pc 26 (.iload 7) 2) (zQ pc 28 (.bipush 16) 2))))) (zH pc 47 (zH pc 39 (zH pc 34 (zH pc 33 (zQ pc 30 (.if_icmp .ge 7) 3) (zQ pc 33 (.lload_n 3) 1)) (zH pc 37 (zQ pc 34 (.goto 5) 3) (zQ pc 37 (.lload 5) 2))) (zH pc 43 (zH pc 41 (zQ pc 39 (.lstore 8) 2) (zQ pc 41 (.lload 8) 2)) (zH pc 45 (zQ pc 43 (.bipush 56) 2) (zQ pc 45 (.bipush 8) 2)))) (zH pc 53 (zH pc 51 (zH pc 49 (zQ pc 47 (.iload 7) 2) (zQ pc 49 (.bipush 7) 2)) (zH pc 52 (zQ pc 51 .iand 1) (zQ pc 52 .imul 1))) (zH pc 55 (zH pc 54 (zQ pc 53 .isub 1) (zQ pc 54 .lushr 1)) (zH pc 58 (zQ pc 55 (.ldc2_w 274) 3) (zQ pc 58 .land 1)))))) (zH pc 94 (zH pc 76 (zH pc 66 (zH pc 62 (zH pc 60 (zQ pc 59 .l2i 1) (zQ pc 60 (.istore 10) 2)) (zH pc 63 (zQ pc 62 (.aload_n 0) 1) (zQ pc 63 (.getfield 276) 3))) (zH pc 72 (zH pc 69 (zQ pc 66 (.sipush 1000) 3) (zQ pc 69 (.if_icmp .ge 45) 3)) (zH pc 74 (zQ pc 72 (.iload 10) 2) (zQ pc 74 (.bipush 10) 2)))) (zH pc 86 (zH pc 81 (zH pc 79 (zQ pc 76 (.if_icmp .eq 17) 3) (zQ pc 79 (.iload 10) 2)) (zH pc 83 (zQ pc 81 (.bipush 32) 2) (zQ pc 83 (.if_icmp .lt 31) 3))) (zH pc 90 (zH pc 88 (zQ pc 86 (.iload 10) 2) (zQ pc 88 (.bipush 126) 2)) (zH pc 93 (zQ pc 90 (.if_icmp .gt 24) 3) (zQ pc 93 (.aload_n 0) 1))))) (zH pc 109 (zH pc 103 (zH pc 98 (zH pc 97 (zQ pc 94 (.getfield 101) 3) (zQ pc 97 (.aload_n 0) 1)) (zH pc 101 (zQ pc 98 (.getfield 276) 3) (zQ pc 101 (.iload 10) 2))) (zH pc 105 (zH pc 104 (zQ pc 103 .iastore 1) (zQ pc 104 (.aload_n 0) 1)) (zH pc 106 (zQ pc 105 .dup 1) (zQ pc 106 (.getfield 276) 3)))) (zH pc 117 (zH pc 111 (zH pc 110 (zQ pc 109 (.iconst 1) 1) (zQ pc 110 .iadd 1)) (zH pc 114 (zQ pc 111 (.putfield 276) 3) (zQ pc 114 (.iinc 7 1) 3))) (zH pc 121 (zH pc 120 (zQ pc 117 (.goto (-109)) 3) (zQ pc 120 (.aload_n 0) 1)) (zH pc 124 (zQ pc 121 (.getfield 276) 3) (zQ pc 124 .ireturn 1))))))) else none
def zc_163 (pc : Nat) : Option (Instr × Nat) := bif Nat.blt pc 19 then (zH pc 9 (zH pc 2 (zH pc 1 (zQ pc 0 (.iload_n 1) 1) (zQ pc 1 (.aload_n 0) 1)) (zH pc 5 (zQ pc 2 (.getfield 279) 3) (zH pc 8 (zQ pc 5 (.if_icmp .ge 12) 3) (zQ pc 8 (.aload_n 0) 1)))) (zH pc 14 (zH pc 12 (zQ pc 9 (.getfield 101) 3) (zH pc 13 (zQ pc 12 (.iload_n 1) 1) (zQ pc 13 .iaload 1))) (zH pc 17 (zQ pc 14 (.goto 4) 3) (zH pc 18 (zQ pc 17 (.iconst 0) 1) (zQ pc 18 .ireturn 1))))) else none
def zc_164 (pc : Nat) : Option (Instr × Nat) := bif Nat.blt pc 372 then (zH pc 188 (zH pc 92 (zH pc 46 (zH pc 25 (zH pc 12 (zH pc 5 (zH pc 1 (zQ pc 0 (.aload_n 0) 1) (zH pc 4 (zQ pc 1 (.getfield 282) 3) (zQ pc 4 (.aload_n 0) 1))) (zH pc 8 (zQ pc 5 (.getfield 279) 3) (zH pc 11 (zQ pc 8 (.if_icmp .ge 44) 3) (zQ pc 11 (.aload_n 0) 1)))) (zH pc 19 (zH pc 15 (zQ pc 12 (.getfield 101) 3) (zH pc 16 (zQ pc 15 (.aload_n 0) 1) (zQ pc 16 (.getfield 282) 3))) (zH pc 20 (zQ pc 19 .iaload 1) (zH pc 22 (zQ pc 20 (.bipush 32) 2) (zQ pc 22 (.if_icmp .eq 17) 3))))) (zH pc 36 (zH pc 30 (zH pc 26 (zQ pc 25 (.aload_n 0) 1) (zH pc 29 (zQ pc 26 (.getfield 101) 3) (zQ pc 29 (.aload_n 0) 1))) (zH pc 33 (zQ pc 30 (.getfield 282) 3) (zH pc 34 (zQ pc 33 .iaload 1) (zQ pc 34 (.bipush 10) 2)))) (zH pc 41 (zH pc 39 (zQ pc 36 (.if_icmp .ne 16) 3) (zH pc 40 (zQ pc 39 (.aload_n 0) 1) (zQ pc 40 .dup 1))) (zH pc 44 (zQ pc 41 (.getfield 282) 3) (zH pc 45 (zQ pc 44 (.iconst 1) 1) (zQ pc 45 .iadd 1)))))) (zH pc 70 (zH pc 60 (zH pc 53 (zH pc 49 (zQ pc 46 (.putfield 282) 3) (zH pc 52 (zQ pc 49 (.goto (-49)) 3) (zQ pc 52 (.aload_n 0) 1))) (zH pc 54 (zQ pc 53 (.aload_n 0) 1) (zH pc 57 (zQ pc 54 (.getfield 282) 3) (zQ pc 57 (.putfield 285) 3)))) (zH pc 65 (zH pc 61 (zQ pc 60 (.aload_n 0) 1) (zH pc 62 (zQ pc 61 (.lconst 0) 1) (zQ pc 62 (.putfield 288) 3))) (zH pc 66 (zQ pc 65 (.aload_n 0) 1) (zH pc 67 (zQ pc 66 (.iconst 0) 1) (zQ pc 67 (.putfield 292) 3))))) (zH pc 82 (zH pc 75 (zH pc 71 (zQ pc 70 (.aload_n 0) 1) (zH pc 74 (zQ pc 71 (.getfield 282) 3) (zQ pc 74 (.aload_n 0) 1))) (zH pc 78 (zQ pc 75 (.getfield 279) 3) (zH pc 81 (zQ pc 78 (.if_icmp .ne 9) 3) (zQ pc 81 (.aload_n 0) 1)))) (zH pc 87 (zH pc 83 (zQ pc 82 (.iconst 0) 1) (zH pc 86 (zQ pc 83 (.putfield 295) 3) (zQ pc 86 .return_ 1))) (zH pc 88 (zQ pc 87 (.aload_n 0) 1) (zH pc 91 (zQ pc 88 (.getfield 101) 3) (zQ pc 91 (.aload_n 0) 1))))))) (zH pc 140 (zH pc 114 (zH pc 103 (zH pc 97 (zH pc 95 (zQ pc 92 (.getfield 282) 3) (zH pc 96 (zQ pc 95 .iaload 1) (zQ pc 96 (.istore_n 1) 1))) (zH pc 98 (zQ pc 97 (.iload_n 1) 1) (zH pc 100 (zQ pc 98 (.bipush 97) 2) (zQ pc 100 (.if_icmp .lt 112) 3)))) (zH pc 109 (zH pc 104 (zQ pc 103 (.iload_n 1) 1) (zH pc 106 (zQ pc 104 (.bipush 122) 2) (zQ pc 106 (.if_icmp .gt 106) 3))) (zH pc 110 (zQ pc 109 (.aload_n 0) 1) (zH pc 111 (zQ pc 110 (.aload_n 0) 1) (zQ pc 111 (.getfield 282) 3))))) (zH pc 127 (zH pc 122 (zH pc 117 (zQ pc 114 (.invokevirtual 298) 3) (zH pc 119 (zQ pc 117 (.bipush 97) 2) (zQ pc 119 (.if_icmp .lt 69) 3))) (zH pc 123 (zQ pc 122 (.aload_n 0) 1) (zH pc 124 (zQ pc 123 (.aload_n 0) 1) (zQ pc 124 (.getfield 282) 3)))) (zH pc 135 (zH pc 130 (zQ pc 127 (.invokevirtual 298) 3) (zH pc 132 (zQ pc 130 (.bipush 122) 2) (zQ pc 132 (.if_icmp .gt 56) 3))) (zH pc 136 (zQ pc 135 (.aload_n 0) 1) (zH pc 139 (zQ pc 136 (.getfield 282) 3) (zQ pc 139 (.aload_n 0) 1)))))) (zH pc 163 (zH pc 151 (zH pc 146 (zH pc 143 (zQ pc 140 (.getfield 285) 3) (zH pc 144 (zQ pc 143 .isub 1) (zQ pc 144 (.bipush 8) 2))) (zH pc 149 (zQ pc 146 (.if_icmp .ge 29) 3) (zH pc 150 (zQ pc 149 (.aload_n 0) 1) (zQ pc 150 (.aload_n 0) 1)))) (zH pc 158 (zH pc 154 (zQ pc 151 (.getfield 288) 3) (zH pc 157 (zQ pc 154 (.ldc2_w 301) 3) (zQ pc 157 .lmul 1))) (zH pc 159 (zQ pc 158 (.aload_n 0) 1) (zH pc 160 (zQ pc 159 (.aload_n 0) 1) (zQ pc 160 (.getfield 282) 3))))) (zH pc 175 (zH pc 168 (zH pc 166 (zQ pc 163 (.invokevirtual 298) 3) (zH pc 167 (zQ pc 166 .i2l 1) (zQ pc 167 .ladd 1))) (zH pc 171 (zQ pc 168 (.ldc2_w 303) 3) (zH pc 172 (zQ pc 171 .lsub 1) (zQ pc 172 (.putfield 288) 3)))) (zH pc 180 (zH pc 176 (zQ pc 175 (.aload_n 0) 1) (zH pc 177 (zQ pc 176 .dup 1) (zQ pc 177 (.getfield 282) 3))) (zH pc 182 (zH pc 181 (zQ pc 180 (.iconst 1) 1) (zQ pc 181 .iadd 1)) (zH pc 185 (zQ pc 182 (.putfield 282) 3) (zQ pc 185 (.goto (-76)) 3)))))))) (zH pc 282 (zH pc 234 (zH pc 211 (zH pc 198 (zH pc 193 (zH pc 189 (zQ pc 188 (.aload_n 0) 1) (zH pc 190 (zQ pc 189 (.aload_n 0) 1) (zQ pc 190 (.getfield 282) 3))) (zH pc 194 (zQ pc 193 (.aload_n 0) 1) (zH pc 197 (zQ pc 194 (.getfield 285) 3) (zQ pc 197 .isub 1)))) (zH pc 204 (zH pc 200 (zQ pc 198 (.bipush 8) 2) (zH pc 203 (zQ pc 200 (.if_icmp .le 7) 3) (zQ pc 203 (.iconst 4) 1))) (zH pc 207 (zQ pc 204 (.goto 4) 3) (zH pc 208 (zQ pc 207 (.iconst 1) 1) (zQ pc 208 (.putfield 295) 3))))) (zH pc 221 (zH pc 215 (zH pc 212 (zQ pc 211 .return_ 1) (zH pc 213 (zQ pc 212 (.iload_n 1) 1) (zQ pc 213 (.bipush 48) 2))) (zH pc 218 (zQ pc 215 (.if_icmp .lt 107) 3) (zH pc 219 (zQ pc 218 (.iload_n 1) 1) (zQ pc 219 (.bipush 57) 2)))) (zH pc 226 (zH pc 224 (zQ pc 221 (.if_icmp .gt 101) 3) (zH pc 225 (zQ pc 224 (.aload_n 0) 1) (zQ pc 225 (.aload_n 0) 1))) (zH pc 229 (zQ pc 226 (.getfield 282) 3) (zH pc 232 (zQ pc 229 (.invokevirtual 298) 3) (zQ pc 232 (.bipush 48) 2)))))) (zH pc 259 (zH pc 247 (zH pc 239 (zH pc 237 (zQ pc 234 (.if_icmp .lt 65) 3) (zH pc 238 (zQ pc 237 (.aload_n 0) 1) (zQ pc 238 (.aload_n 0) 1))) (zH pc 242 (zQ pc 239 (.getfield 282) 3) (zH pc 245 (zQ pc 242 (.invokevirtual 298) 3) (zQ pc 245 (.bipush 57) 2)))) (zH pc 254 (zH pc 250 (zQ pc 247 (.if_icmp .gt 52) 3) (zH pc 251 (zQ pc 250 (.aload_n 0) 1) (zQ pc 251 (.getfield 282) 3))) (zH pc 255 (zQ pc 254 (.aload_n 0) 1) (zH pc 258 (zQ pc 255 (.getfield 285) 3) (zQ pc 258 .isub 1))))) (zH pc 270 (zH pc 264 (zH pc 260 (zQ pc 259 (.iconst 4) 1) (zH pc 263 (zQ pc 260 (.if_icmp .ge 26) 3) (zQ pc 263 (.aload_n 0) 1))) (zH pc 265 (zQ pc 264 (.aload_n 0) 1) (zH pc 268 (zQ pc 265 (.getfield 292) 3) (zQ pc 268 (.bipush 10) 2)))) (zH pc 273 (zH pc 271 (zQ pc 270 .imul 1) (zH pc 272 (zQ pc 271 (.aload_n 0) 1) (zQ pc 272 (.aload_n 0) 1))) (zH pc 279 (zH pc 276 (zQ pc 273 (.getfield 282) 3) (zQ pc 276 (.invokevirtual 298) 3)) (zH pc 280 (zQ pc 279 .iadd 1) (zQ pc 280 (.bipush 48) 2))))))) (zH pc 324 (zH pc 304 (zH pc 292 (zH pc 287 (zH pc 283 (zQ pc 282 .isub 1) (zH pc 286 (zQ pc 283 (.putfield 292) 3) (zQ pc 286 (.aload_n 0) 1))) (zH pc 288 (zQ pc 287 .dup 1) (zH pc 291 (zQ pc 288 (.getfield 282) 3) (zQ pc 291 (.iconst 1) 1)))) (zH pc 299 (zH pc 293 (zQ pc 292 .iadd 1) (zH pc 296 (zQ pc 293 (.putfield 282) 3) (zQ pc 296 (.goto (-72)) 3))) (zH pc 300 (zQ pc 299 (.aload_n 0) 1) (zH pc 301 (zQ pc 300 (.aload_n 0) 1) (zQ pc 301 (.getfield 282) 3))))) (zH pc 314 (zH pc 309 (zH pc 305 (zQ pc 304 (.aload_n 0) 1) (zH pc 308 (zQ pc 305 (.getfield 285) 3) (zQ pc 308 .isub 1))) (zH pc 310 (zQ pc 309 (.iconst 4) 1) (zH pc 313 (zQ pc 310 (.if_icmp .le 7) 3) (zQ pc 313 (.iconst 4) 1)))) (zH pc 321 (zH pc 317 (zQ pc 314 (.goto 4) 3) (zH pc 318 (zQ pc 317 (.iconst 2) 1) (zQ pc 318 (.putfield 295) 3))) (zH pc 322 (zQ pc 321 .return_ 1) (zH pc 323 (zQ pc 322 (.aload_n 0) 1) (zQ pc 323 .dup 1)))))) (zH pc 346 (zH pc 334 (zH pc 329 (zH pc 327 (zQ pc 324 (.getfield 282) 3) (zH pc 328 (zQ pc 327 (.iconst 1) 1) (zQ pc 328 .iadd 1))) (zH pc 332 (zQ pc 329 (.putfield 282) 3) (zH pc 333 (zQ pc 332 (.aload_n 0) 1) (zQ pc 333 (.iload_n 1) 1)))) (zH pc 340 (zH pc 336 (zQ pc 334 (.bipush 40) 2) (zH pc 339 (zQ pc 336 (.if_icmp .lt 9) 3) (zQ pc 339 (.iload_n 1) 1))) (zH pc 342 (zQ pc 340 (.bipush 43) 2) (zH pc 345 (zQ pc 342 (.if_icmp .le 21) 3) (zQ pc 345 (.iload_n 1) 1))))) (zH pc 358 (zH pc 352 (zH pc 348 (zQ pc 346 (.bipush 45) 2) (zH pc 351 (zQ pc 348 (.if_icmp .eq 15) 3) (zQ pc 351 (.iload_n 1) 1))) (zH pc 354 (zQ pc 352 (.bipush 59) 2) (zH pc 357 (zQ pc 354 (.if_icmp .lt 13) 3) (zQ pc 357 (.iload_n 1) 1)))) (zH pc 364 (zH pc 360 (zQ pc 358 (.bipush 61) 2) (zH pc 363 (zQ pc 360 (.if_icmp .gt 7) 3) (zQ pc 363 (.iconst 3) 1))) (zH pc 368 (zH pc 367 (zQ pc 364 (.goto 4) 3) (zQ pc 367 (.iconst 4) 1)) (zH pc 371 (zQ pc 368 (.putfield 295) 3) (zQ pc 371 .return_ 1))))))))) else none
def zc_165 (pc : Nat) : Option (Instr × Nat) := bif Nat.blt pc 23 then (zH pc 12 (zH pc 5 (zH pc 1 (zQ pc 0 (.aload_n 0) 1) (zH pc 4 (zQ pc 1 (.getfield 295) 3) (zQ pc 4 (.iconst 1) 1))) (zH pc 8 (zQ pc 5 (.if_icmp .ne 16) 3) (zH pc 9 (zQ pc 8 (.aload_n 0) 1) (zQ pc 9 (.getfield 288) 3)))) (zH pc 17 (zH pc 13 (zQ pc 12 (.lload_n 1) 1) (zH pc 14 (zQ pc 13 .lcmp 1) (zQ pc 14 (.ifCond .ne 7) 3))) (zH pc 21 (zH pc 18 (zQ pc 17 (.iconst 1) 1) (zQ pc 18 (.goto 4) 3)) (zH pc 22 (zQ pc 21 (.iconst 0) 1) (zQ pc 22 .ireturn 1))))) else none
def zc_166 (pc : Nat) : Option (Instr × Nat) := bif Nat.blt pc 27 then (zH pc 13 (zH pc 5 (zH pc 1 (zQ pc 0 (.aload_n 0) 1) (zH pc 4 (zQ pc 1 (.getfield 295) 3) (zQ pc 4 (.iconst 3) 1))) (zH pc 9 (zH pc 8 (zQ pc 5 (.if_icmp .ne 20) 3) (zQ pc 8 (.aload_n 0) 1)) (zH pc 12 (zQ pc 9 (.getfield 101) 3) (zQ pc 12 (.aload_n 0) 1)))) (zH pc 21 (zH pc 17 (zH pc 16 (zQ pc 13 (.getfield 285) 3) (zQ pc 16 .iaload 1)) (zH pc 18 (zQ pc 17 (.iload_n 1) 1) (zQ pc 18 (.if_icmp .ne 7) 3))) (zH pc 25 (zH pc 22 (zQ pc 21 (.iconst 1) 1) (zQ pc 22 (.goto 4) 3)) (zH pc 26 (zQ pc 25 (.iconst 0) 1) (zQ pc 26 .ireturn 1))))) else none
def zc_167 (pc : Nat) : Option (Instr × Nat) := bif Nat.blt pc 15 then (zH pc 8 (zH pc 2 (zH pc 1 (zQ pc 0 (.aload_n 0) 1) (zQ pc 1 (.iload_n 1) 1)) (zH pc 4 (zQ pc 2 (.bipush 16) 2) (zH pc 5 (zQ pc 4 (.aload_n 0) 1) (zQ pc 5 (.getfield 285) 3)))) (zH pc 10 (zH pc 9 (zQ pc 8 .imul 1) (zQ pc 9 .iadd 1)) (zH pc 13 (zQ pc 10 (.putfield 305) 3) (zH pc 14 (zQ pc 13 (.iconst 0) 1) (zQ pc 14 .ireturn 1))))) else none
def zc_168 (pc : Nat) : Option (Instr × Nat) := bif Nat.blt pc 21 then (zH pc 10 (zH pc 5 (zH pc 1 (zQ pc 0 (.aload_n 0) 1) (zH pc 4 (zQ pc 1 (.getfield 129) 3) (zQ pc 4 (.aload_n 0) 1))) (zH pc 8 (zQ pc 5 (.getfield 308) 3) (zH pc 9 (zQ pc 8 (.iload_n 1) 1) (zQ pc 9 .iastore 1)))) (zH pc 15 (zH pc 11 (zQ pc 10 (.aload_n 0) 1) (zH pc 12 (zQ pc 11 .dup 1) (zQ pc 12 (.getfield 308) 3))) (zH pc 17 (zH pc 16 (zQ pc 15 (.iconst 1) 1) (zQ pc 16 .iadd 1)) (zH pc 20 (zQ pc 17 (.putfield 308) 3) (zQ pc 20 .return_ 1))))) else none
def zc_169 (pc : Nat) : Option (Instr × Nat) := bif Nat.blt pc 103 then (zH pc 51 (zH pc 22 (zH pc 10 (zH pc 5 (zH pc 1 (zQ pc 0 (.aload_n 0) 1) (zH pc 4 (zQ pc 1 (.getfield 295) 3) (zQ pc 4 (.iconst 1) 1))) (zH pc 8 (zQ pc 5 (.if_icmp .eq 5) 3) (zH pc 9 (zQ pc 8 (.iconst 0) 1) (zQ pc 9 .ireturn 1)))) (zH pc 17 (zH pc 11 (zQ pc 10 (.aload_n 0) 1) (zH pc 14 (zQ pc 11 (.getfield 288) 3) (zQ pc 14 (.ldc2_w 311) 3))) (zH pc 18 (zQ pc 17 .lcmp 1) (zH pc 21 (zQ pc 18 (.ifCond .ne 7) 3) (zQ pc 21 (.iconst 1) 1))))) (zH pc 36 (zH pc 29 (zH pc 25 (zQ pc 22 (.goto 80) 3) (zH pc 26 (zQ pc 25 (.aload_n 0) 1) (zQ pc 26 (.getfield 288) 3))) (zH pc 32 (zQ pc 29 (.ldc2_w 313) 3) (zH pc 33 (zQ pc 32 .lcmp 1) (zQ pc 33 (.ifCond .ne 7) 3)))) (zH pc 41 (zH pc 37 (zQ pc 36 (.iconst 2) 1) (zH pc 40 (zQ pc 37 (.goto 65) 3) (zQ pc 40 (.aload_n 0) 1))) (zH pc 47 (zH pc 44 (zQ pc 41 (.getfield 288) 3) (zQ pc 44 (.ldc2_w 315) 3)) (zH pc 48 (zQ pc 47 .lcmp 1) (zQ pc 48 (.ifCond .ne 7) 3)))))) (zH pc 77 (zH pc 63 (zH pc 56 (zH pc 52 (zQ pc 51 (.iconst 3) 1) (zH pc 55 (zQ pc 52 (.goto 50) 3) (zQ pc 55 (.aload_n 0) 1))) (zH pc 59 (zQ pc 56 (.getfield 288) 3) (zH pc 62 (zQ pc 59 (.ldc2_w 317) 3) (zQ pc 62 .lcmp 1)))) (zH pc 70 (zH pc 66 (zQ pc 63 (.ifCond .ne 7) 3) (zH pc 67 (zQ pc 66 (.iconst 4) 1) (zQ pc 67 (.goto 35) 3))) (zH pc 71 (zQ pc 70 (.aload_n 0) 1) (zH pc 74 (zQ pc 71 (.getfield 288) 3) (zQ pc 74 (.ldc2_w 319) 3))))) (zH pc 89 (zH pc 82 (zH pc 78 (zQ pc 77 .lcmp 1) (zH pc 81 (zQ pc 78 (.ifCond .ne 7) 3) (zQ pc 81 (.iconst 5) 1))) (zH pc 85 (zQ pc 82 (.goto 20) 3) (zH pc 86 (zQ pc 85 (.aload_n 0) 1) (zQ pc 86 (.getfield 288) 3)))) (zH pc 96 (zH pc 92 (zQ pc 89 (.ldc2_w 321) 3) (zH pc 93 (zQ pc 92 .lcmp 1) (zQ pc 93 (.ifCond .ne 8) 3))) (zH pc 101 (zH pc 98 (zQ pc 96 (.bipush 6) 2) (zQ pc 98 (.goto 4) 3)) (zH pc 102 (zQ pc 101 (.iconst 0) 1) (zQ pc 102 .ireturn 1))))))) else none
def zc_170 (pc : Nat) : Option (Instr × Nat) := bif Nat.blt pc 90 then (zH pc 45 (zH pc 22 (zH pc 11 (zH pc 4 (zH pc 1 (zQ pc 0 (.aload_n 0) 1) (zQ pc 1 (.getfield 288) 3)) (zH pc 7 (zQ pc 4 (.ldc2_w 323) 3) (zH pc 8 (zQ pc 7 .lcmp 1) (zQ pc 8 (.ifCond .eq 76) 3)))) (zH pc 15 (zH pc 12 (zQ pc 11 (.aload_n 0) 1) (zQ pc 12 (.getfield 288) 3)) (zH pc 18 (zQ pc 15 (.ldc2_w 325) 3) (zH pc 19 (zQ pc 18 .lcmp 1) (zQ pc 19 (.ifCond .eq 65) 3))))) (zH pc 33 (zH pc 26 (zH pc 23 (zQ pc 22 (.aload_n 0) 1) (zQ pc 23 (.getfield 288) 3)) (zH pc 29 (zQ pc 26 (.ldc2_w 327) 3) (zH pc 30 (zQ pc 29 .lcmp 1) (zQ pc 30 (.ifCond .eq 54) 3)))) (zH pc 40 (zH pc 34 (zQ pc 33 (.aload_n 0) 1) (zH pc 37 (zQ pc 34 (.getfield 288) 3) (zQ pc 37 (.ldc2_w 329) 3))) (zH pc 41 (zQ pc 40 .lcmp 1) (zH pc 44 (zQ pc 41 (.ifCond .eq 43) 3) (zQ pc 44 (.aload_n 0) 1)))))) (zH pc 67 (zH pc 56 (zH pc 51 (zH pc 48 (zQ pc 45 (.getfield 288) 3) (zQ pc 48 (.ldc2_w 331) 3)) (zH pc 52 (zQ pc 51 .lcmp 1) (zH pc 55 (zQ pc 52 (.ifCond .eq 32) 3) (zQ pc 55 (.aload_n 0) 1)))) (zH pc 62 (zH pc 59 (zQ pc 56 (.getfield 288) 3) (zQ pc 59 (.ldc2_w 333) 3)) (zH pc 63 (zQ pc 62 .lcmp 1) (zH pc 66 (zQ pc 63 (.ifCond .eq 21) 3) (zQ pc 66 (.aload_n 0) 1))))) (zH pc 78 (zH pc 73 (zH pc 70 (zQ pc 67 (.getfield 288) 3) (zQ pc 70 (.ldc2_w 335) 3)) (zH pc 74 (zQ pc 73 .lcmp 1) (zH pc 77 (zQ pc 74 (.ifCond .eq 10) 3) (zQ pc 77 (.aload_n 0) 1)))) (zH pc 85 (zH pc 81 (zQ pc 78 (.invokevirtual 337) 3) (zH pc 84 (zQ pc 81 (.ifCond .le 7) 3) (zQ pc 84 (.iconst 1) 1))) (zH pc 88 (zQ pc 85 (.goto 4) 3) (zH pc 89 (zQ pc 88 (.iconst 0) 1) (zQ pc 89 .ireturn 1))))))) else none
def zc_171 (pc : Nat) : Option (Instr × Nat) := bif Nat.blt pc 36 then (zH pc 17 (zH pc 7 (zH pc 2 (zH pc 1 (zQ pc 0 (.iconst 0) 1) (zQ pc 1 (.istore_n 1) 1)) (zH pc 3 (zQ pc 2 (.iload_n 1) 1) (zH pc 4 (zQ pc 3 (.aload_n 0) 1) (zQ pc 4 (.getfield 122) 3)))) (zH pc 12 (zH pc 8 (zQ pc 7 (.iconst 1) 1) (zH pc 9 (zQ pc 8 .iaload 1) (zQ pc 9 (.if_icmp .ge 25) 3))) (zH pc 13 (zQ pc 12 (.aload_n 0) 1) (zH pc 16 (zQ pc 13 (.getfield 125) 3) (zQ pc 16 (.iload_n 1) 1))))) (zH pc 26 (zH pc 19 (zH pc 18 (zQ pc 17 .laload 1) (zQ pc 18 (.aload_n 0) 1)) (zH pc 22 (zQ pc 19 (.getfield 288) 3) (zH pc 23 (zQ pc 22 .lcmp 1) (zQ pc 23 (.ifCond .ne 5) 3)))) (zH pc 31 (zH pc 27 (zQ pc 26 (.iload_n 1) 1) (zH pc 28 (zQ pc 27 .ireturn 1) (zQ pc 28 (.iinc 1 1) 3))) (zH pc 34 (zQ pc 31 (.goto (-29)) 3) (zH pc 35 (zQ pc 34 (.iconst (-1)) 1) (zQ pc 35 .ireturn 1)))))) else none
def zc_172 (pc : Nat) : Option (Instr × Nat) := bif Nat.blt pc 513 then (zH pc 250 (zH pc 122 (zH pc 56 (zH pc 22 (zH pc 10 (zH pc 4 (zH pc 2 (zH pc 1 (zQ pc 0 (.iconst 0) 1) (zQ pc 1 (.istore_n 2) 1)) (zH pc 3 (zQ pc 2 (.iconst 1) 1) (zQ pc 3 (.istore_n 3) 1))) (zH pc 8 (zH pc 5 (zQ pc 4 (.aload_n 0) 1) (zQ pc 5 (.getfield 135) 3)) (zH pc 9 (zQ pc 8 (.iconst 0) 1) (zQ pc 9 (.iconst 0) 1)))) (zH pc 16 (zH pc 12 (zH pc 11 (zQ pc 10 .bastore 1) (zQ pc 11 (.aload_n 0) 1)) (zH pc 15 (zQ pc 12 (.getfield 116) 3) (zQ pc 15 (.iload_n 1) 1))) (zH pc 20 (zH pc 17 (zQ pc 16 (.aload_n 0) 1) (zQ pc 17 (.getfield 308) 3)) (zH pc 21 (zQ pc 20 .iastore 1) (zQ pc 21 (.iload_n 3) 1))))) (zH pc 40 (zH pc 31 (zH pc 26 (zH pc 25 (zQ pc 22 (.ifCond .eq 231) 3) (zQ pc 25 (.aload_n 0) 1)) (zH pc 29 (zQ pc 26 (.invokevirtual 337) 3) (zQ pc 29 (.istore 4) 2))) (zH pc 35 (zH pc 32 (zQ pc 31 (.aload_n 0) 1) (zQ pc 32 (.ldc2_w 335) 3)) (zH pc 38 (zQ pc 35 (.invokevirtual 341) 3) (zQ pc 38 (.istore 5) 2)))) (zH pc 48 (zH pc 43 (zH pc 41 (zQ pc 40 (.aload_n 0) 1) (zQ pc 41 (.bipush 40) 2)) (zH pc 46 (zQ pc 43 (.invokevirtual 345) 3) (zQ pc 46 (.istore 6) 2))) (zH pc 52 (zH pc 49 (zQ pc 48 (.aload_n 0) 1) (zQ pc 49 (.getfield 295) 3)) (zH pc 53 (zQ pc 52 (.iconst 1) 1) (zQ pc 53 (.if_icmp .ne 14) 3)))))) (zH pc 91 (zH pc 72 (zH pc 64 (zH pc 60 (zH pc 57 (zQ pc 56 (.aload_n 0) 1) (zQ pc 57 (.invokevirtual 348) 3)) (zH pc 63 (zQ pc 60 (.ifCond .ne 7) 3) (zQ pc 63 (.iconst 1) 1))) (zH pc 68 (zH pc 67 (zQ pc 64 (.goto 4) 3) (zQ pc 67 (.iconst 0) 1)) (zH pc 70 (zQ pc 68 (.istore 7) 2) (zQ pc 70 (.iload 4) 2)))) (zH pc 82 (zH pc 77 (zH pc 75 (zQ pc 72 (.ifCond .ne 32) 3) (zQ pc 75 (.iload 5) 2)) (zH pc 80 (zQ pc 77 (.ifCond .ne 27) 3) (zQ pc 80 (.iload 6) 2))) (zH pc 87 (zH pc 85 (zQ pc 82 (.ifCond .ne 22) 3) (zQ pc 85 (.iload 7) 2)) (zH pc 90 (zQ pc 87 (.ifCond .ne 17) 3) (zQ pc 90 (.aload_n 0) 1))))) (zH pc 106 (zH pc 99 (zH pc 95 (zH pc 94 (zQ pc 91 (.getfield 295) 3) (zQ pc 94 (.iconst 2) 1)) (zH pc 98 (zQ pc 95 (.if_icmp .eq 9) 3) (zQ pc 98 (.aload_n 0) 1))) (zH pc 103 (zH pc 100 (zQ pc 99 (.iconst 1) 1) (zQ pc 100 (.invokevirtual 352) 3)) (zH pc 104 (zQ pc 103 .ireturn 1) (zQ pc 104 (.iload 7) 2)))) (zH pc 116 (zH pc 110 (zH pc 109 (zQ pc 106 (.ifCond .eq 16) 3) (zQ pc 109 (.aload_n 0) 1)) (zH pc 113 (zQ pc 110 (.invokevirtual 355) 3) (zQ pc 113 (.ifCond .ge 9) 3))) (zH pc 118 (zH pc 117 (zQ pc 116 (.aload_n 0) 1) (zQ pc 117 (.iconst 2) 1)) (zH pc 121 (zQ pc 118 (.invokevirtual 352) 3) (zQ pc 121 .ireturn 1))))))) (zH pc 184 (zH pc 154 (zH pc 135 (zH pc 128 (zH pc 124 (zH pc 123 (zQ pc 122 (.iload_n 2) 1) (zQ pc 123 (.iconst 5) 1)) (zH pc 127 (zQ pc 124 (.if_icmp .ne 9) 3) (zQ pc 127 (.aload_n 0) 1))) (zH pc 132 (zH pc 129 (zQ pc 128 (.iconst 5) 1) (zQ pc 129 (.invokevirtual 352) 3)) (zH pc 133 (zQ pc 132 .ireturn 1) (zQ pc 133 (.iload 5) 2)))) (zH pc 144 (zH pc 140 (zH pc 138 (zQ pc 135 (.ifCond .ne 8) 3) (zQ pc 138 (.iload 6) 2)) (zH pc 143 (zQ pc 140 (.ifCond .eq 48) 3) (zQ pc 143 (.aload_n 0) 1))) (zH pc 149 (zH pc 146 (zQ pc 144 (.iload 5) 2) (zQ pc 146 (.ifCond .eq 8) 3)) (zH pc 151 (zQ pc 149 (.bipush 30) 2) (zQ pc 151 (.goto 5) 3))))) (zH pc 172 (zH pc 163 (zH pc 159 (zH pc 156 (zQ pc 154 (.bipush 28) 2) (zQ pc 156 (.invokevirtual 358) 3)) (zH pc 162 (zQ pc 159 (.iinc 2 1) 3) (zQ pc 162 (.aload_n 0) 1))) (zH pc 167 (zH pc 166 (zQ pc 163 (.getfield 132) 3) (zQ pc 166 (.iload_n 2) 1)) (zH pc 169 (zQ pc 167 (.iload 5) 2) (zQ pc 169 (.ifCond .eq 7) 3)))) (zH pc 178 (zH pc 176 (zH pc 173 (zQ pc 172 (.iconst 1) 1) (zQ pc 173 (.goto 4) 3)) (zH pc 177 (zQ pc 176 (.iconst 2) 1) (zQ pc 177 .iastore 1))) (zH pc 182 (zH pc 179 (zQ pc 178 (.aload_n 0) 1) (zQ pc 179 (.getfield 135) 3)) (zH pc 183 (zQ pc 182 (.iload_n 2) 1) (zQ pc 183 (.iconst 0) 1)))))) (zH pc 217 (zH pc 201 (zH pc 191 (zH pc 188 (zH pc 185 (zQ pc 184 .bastore 1) (zQ pc 185 (.goto 61) 3)) (zH pc 189 (zQ pc 188 (.aload_n 0) 1) (zQ pc 189 (.iload 4) 2))) (zH pc 196 (zH pc 194 (zQ pc 191 (.ifCond .le 8) 3) (zQ pc 194 (.iload 4) 2)) (zH pc 199 (zQ pc 196 (.goto 25) 3) (zQ pc 199 (.iload 7) 2)))) (zH pc 210 (zH pc 206 (zH pc 204 (zQ pc 201 (.ifCond .eq 13) 3) (zQ pc 204 (.bipush 10) 2)) (zH pc 207 (zQ pc 206 (.aload_n 0) 1) (zQ pc 207 (.invokevirtual 355) 3))) (zH pc 214 (zH pc 211 (zQ pc 210 .iadd 1) (zQ pc 211 (.goto 10) 3)) (zH pc 216 (zQ pc 214 (.bipush 100) 2) (zQ pc 216 (.aload_n 0) 1))))) (zH pc 231 (zH pc 225 (zH pc 221 (zH pc 220 (zQ pc 217 (.getfield 292) 3) (zQ pc 220 .iadd 1)) (zH pc 224 (zQ pc 221 (.invokevirtual 358) 3) (zQ pc 224 (.iconst 0) 1))) (zH pc 227 (zH pc 226 (zQ pc 225 (.istore_n 3) 1) (zQ pc 226 (.iload_n 2) 1)) (zH pc 230 (zQ pc 227 (.ifCond .le 19) 3) (zQ pc 230 (.aload_n 0) 1)))) (zH pc 237 (zH pc 235 (zH pc 234 (zQ pc 231 (.getfield 132) 3) (zQ pc 234 (.iload_n 2) 1)) (zH pc 236 (zQ pc 235 .iaload 1) (zQ pc 236 (.iconst 1) 1))) (zH pc 243 (zH pc 240 (zQ pc 237 (.if_icmp .ne 9) 3) (zQ pc 240 (.iinc 2 (-1)) 3)) (zH pc 246 (zQ pc 243 (.goto (-17)) 3) (zH pc 247 (zQ pc 246 (.aload_n 0) 1) (zQ pc 247 (.invokevirtual 362) 3))))))))) (zH pc 385 (zH pc 320 (zH pc 284 (zH pc 268 (zH pc 259 (zH pc 254 (zH pc 253 (zQ pc 250 (.goto (-229)) 3) (zQ pc 253 (.aload_n 0) 1)) (zH pc 256 (zQ pc 254 (.bipush 43) 2) (zQ pc 256 (.invokevirtual 345) 3))) (zH pc 263 (zH pc 262 (zQ pc 259 (.ifCond .ne 21) 3) (zQ pc 262 (.aload_n 0) 1)) (zH pc 265 (zQ pc 263 (.bipush 45) 2) (zQ pc 265 (.invokevirtual 345) 3)))) (zH pc 277 (zH pc 272 (zH pc 271 (zQ pc 268 (.ifCond .ne 12) 3) (zQ pc 271 (.aload_n 0) 1)) (zH pc 274 (zQ pc 272 (.bipush 42) 2) (zQ pc 274 (.invokevirtual 345) 3))) (zH pc 281 (zH pc 280 (zQ pc 277 (.ifCond .eq 42) 3) (zQ pc 280 (.aload_n 0) 1)) (zH pc 282 (zQ pc 281 (.aload_n 0) 1) (zQ pc 282 (.bipush 43) 2))))) (zH pc 304 (zH pc 295 (zH pc 290 (zH pc 287 (zQ pc 284 (.invokevirtual 345) 3) (zQ pc 287 (.ifCond .eq 8) 3)) (zH pc 292 (zQ pc 290 (.bipush 20) 2) (zQ pc 292 (.goto 19) 3))) (zH pc 298 (zH pc 296 (zQ pc 295 (.aload_n 0) 1) (zQ pc 296 (.bipush 45) 2)) (zH pc 301 (zQ pc 298 (.invokevirtual 345) 3) (zQ pc 301 (.ifCond .eq 8) 3)))) (zH pc 314 (zH pc 309 (zH pc 306 (zQ pc 304 (.bipush 21) 2) (zQ pc 306 (.goto 5) 3)) (zH pc 311 (zQ pc 309 (.bipush 22) 2) (zQ pc 311 (.invokevirtual 358) 3))) (zH pc 316 (zH pc 315 (zQ pc 314 (.iconst 1) 1) (zQ pc 315 (.istore_n 3) 1)) (zH pc 319 (zQ pc 316 (.goto 192) 3) (zQ pc 319 (.aload_n 0) 1)))))) (zH pc 353 (zH pc 338 (zH pc 329 (zH pc 325 (zH pc 322 (zQ pc 320 (.bipush 60) 2) (zQ pc 322 (.invokevirtual 345) 3)) (zH pc 328 (zQ pc 325 (.ifCond .ne 12) 3) (zQ pc 328 (.aload_n 0) 1))) (zH pc 334 (zH pc 331 (zQ pc 329 (.bipush 61) 2) (zQ pc 331 (.invokevirtual 345) 3)) (zH pc 337 (zQ pc 334 (.ifCond .eq 44) 3) (zQ pc 337 (.aload_n 0) 1)))) (zH pc 346 (zH pc 342 (zH pc 341 (zQ pc 338 (.getfield 135) 3) (zQ pc 341 (.iload_n 2) 1)) (zH pc 343 (zQ pc 342 .baload 1) (zQ pc 343 (.ifCond .ne 35) 3))) (zH pc 348 (zH pc 347 (zQ pc 346 (.aload_n 0) 1) (zQ pc 347 (.aload_n 0) 1)) (zH pc 350 (zQ pc 348 (.bipush 60) 2) (zQ pc 350 (.invokevirtual 345) 3))))) (zH pc 371 (zH pc 363 (zH pc 358 (zH pc 356 (zQ pc 353 (.ifCond .eq 8) 3) (zQ pc 356 (.bipush 24) 2)) (zH pc 361 (zQ pc 358 (.goto 5) 3) (zQ pc 361 (.bipush 25) 2))) (zH pc 367 (zH pc 366 (zQ pc 363 (.invokevirtual 358) 3) (zQ pc 366 (.aload_n 0) 1)) (zH pc 370 (zQ pc 367 (.getfield 135) 3) (zQ pc 370 (.iload_n 2) 1)))) (zH pc 375 (zH pc 373 (zH pc 372 (zQ pc 371 (.iconst 1) 1) (zQ pc 372 .bastore 1)) (zH pc 374 (zQ pc 373 (.iconst 1) 1) (zQ pc 374 (.istore_n 3) 1))) (zH pc 379 (zH pc 378 (zQ pc 375 (.goto 133) 3) (zQ pc 378 (.aload_n 0) 1)) (zH pc 382 (zQ pc 379 (.ldc2_w 331) 3) (zQ pc 382 (.invokevirtual 341) 3))))))) (zH pc 453 (zH pc 423 (zH pc 403 (zH pc 395 (zH pc 389 (zH pc 388 (zQ pc 385 (.ifCond .ne 13) 3) (zQ pc 388 (.aload_n 0) 1)) (zH pc 392 (zQ pc 389 (.ldc2_w 333) 3) (zQ pc 392 (.invokevirtual 341) 3))) (zH pc 399 (zH pc 398 (zQ pc 395 (.ifCond .eq 36) 3) (zQ pc 398 (.aload_n 0) 1)) (zH pc 400 (zQ pc 399 (.aload_n 0) 1) (zQ pc 400 (.ldc2_w 331) 3)))) (zH pc 414 (zH pc 409 (zH pc 406 (zQ pc 403 (.invokevirtual 341) 3) (zQ pc 406 (.ifCond .eq 8) 3)) (zH pc 411 (zQ pc 409 (.bipush 26) 2) (zQ pc 411 (.goto 5) 3))) (zH pc 419 (zH pc 416 (zQ pc 414 (.bipush 27) 2) (zQ pc 416 (.invokevirtual 358) 3)) (zH pc 420 (zQ pc 419 (.aload_n 0) 1) (zQ pc 420 (.getfield 135) 3))))) (zH pc 434 (zH pc 427 (zH pc 425 (zH pc 424 (zQ pc 423 (.iload_n 2) 1) (zQ pc 424 (.iconst 0) 1)) (zH pc 426 (zQ pc 425 .bastore 1) (zQ pc 426 (.iconst 1) 1))) (zH pc 431 (zH pc 428 (zQ pc 427 (.istore_n 3) 1) (zQ pc 428 (.goto 80) 3)) (zH pc 432 (zQ pc 431 (.aload_n 0) 1) (zQ pc 432 (.bipush 41) 2)))) (zH pc 444 (zH pc 440 (zH pc 437 (zQ pc 434 (.invokevirtual 345) 3) (zQ pc 437 (.ifCond .eq 36) 3)) (zH pc 441 (zQ pc 440 (.iload_n 2) 1) (zQ pc 441 (.ifCond .le 32) 3))) (zH pc 447 (zH pc 445 (zQ pc 444 (.aload_n 0) 1) (zQ pc 445 (.bipush 29) 2)) (zH pc 450 (zQ pc 447 (.invokevirtual 358) 3) (zQ pc 450 (.iinc 2 (-1)) 3)))))) (zH pc 486 (zH pc 467 (zH pc 461 (zH pc 457 (zH pc 454 (zQ pc 453 (.iload_n 2) 1) (zQ pc 454 (.ifCond .le 54) 3)) (zH pc 458 (zQ pc 457 (.aload_n 0) 1) (zQ pc 458 (.getfield 132) 3))) (zH pc 463 (zH pc 462 (zQ pc 461 (.iload_n 2) 1) (zQ pc 462 .iaload 1)) (zH pc 464 (zQ pc 463 (.iconst 1) 1) (zQ pc 464 (.if_icmp .ne 44) 3)))) (zH pc 476 (zH pc 473 (zH pc 470 (zQ pc 467 (.iinc 2 (-1)) 3) (zQ pc 470 (.goto (-17)) 3)) (zH pc 474 (zQ pc 473 (.aload_n 0) 1) (zQ pc 474 (.bipush 59) 2))) (zH pc 482 (zH pc 479 (zQ pc 476 (.invokevirtual 345) 3) (zQ pc 479 (.ifCond .eq 23) 3)) (zH pc 483 (zQ pc 482 (.iload_n 2) 1) (zQ pc 483 (.ifCond .ne 19) 3))))) (zH pc 500 (zH pc 492 (zH pc 490 (zH pc 487 (zQ pc 486 (.aload_n 0) 1) (zQ pc 487 (.getfield 119) 3)) (zH pc 491 (zQ pc 490 (.iload_n 1) 1) (zQ pc 491 (.aload_n 0) 1))) (zH pc 496 (zH pc 495 (zQ pc 492 (.getfield 308) 3) (zQ pc 495 .iastore 1)) (zH pc 497 (zQ pc 496 (.aload_n 0) 1) (zQ pc 497 (.invokevirtual 362) 3)))) (zH pc 504 (zH pc 502 (zH pc 501 (zQ pc 500 (.iconst 1) 1) (zQ pc 501 .ireturn 1)) (zH pc 503 (zQ pc 502 (.aload_n 0) 1) (zQ pc 503 (.iconst 1) 1))) (zH pc 508 (zH pc 507 (zQ pc 504 (.invokevirtual 352) 3) (zQ pc 507 .ireturn 1)) (zH pc 509 (zQ pc 508 (.aload_n 0) 1) (zH pc 512 (zQ pc 509 (.invokevirtual 362) 3) (zQ pc 512 (.goto (-491)) 3)))))))))) else none
def zc_173 (pc : Nat) : Option (Instr × Nat) := bif Nat.blt pc 350 then (zH pc 176 (zH pc 92 (zH pc 47 (zH pc 24 (zH pc 12 (zH pc 7 (zH pc 1 (zQ pc 0 (.aload_n 0) 1) (zH pc 4 (zQ pc 1 (.ldc2_w 323) 3) (zQ pc 4 (.invokevirtual 341) 3))) (zH pc 8 (zQ pc 7 (.istore_n 1) 1) (zH pc 9 (zQ pc 8 (.iload_n 1) 1) (zQ pc 9 (.ifCond .ne 19) 3)))) (zH pc 19 (zH pc 13 (zQ pc 12 (.aload_n 0) 1) (zH pc 16 (zQ pc 13 (.ldc2_w 325) 3) (zQ pc 16 (.invokevirtual 341) 3))) (zH pc 22 (zQ pc 19 (.ifCond .ne 9) 3) (zH pc 23 (zQ pc 22 (.aload_n 0) 1) (zQ pc 23 (.iconst 1) 1))))) (zH pc 34 (zH pc 29 (zH pc 27 (zQ pc 24 (.invokevirtual 352) 3) (zH pc 28 (zQ pc 27 .ireturn 1) (zQ pc 28 (.aload_n 0) 1))) (zH pc 32 (zQ pc 29 (.getfield 104) 3) (zH pc 33 (zQ pc 32 (.iconst 1) 1) (zQ pc 33 .iaload 1)))) (zH pc 40 (zH pc 36 (zQ pc 34 (.bipush 16) 2) (zH pc 39 (zQ pc 36 (.if_icmp .ne 9) 3) (zQ pc 39 (.aload_n 0) 1))) (zH pc 44 (zH pc 41 (zQ pc 40 (.iconst 5) 1) (zQ pc 41 (.invokevirtual 352) 3)) (zH pc 45 (zQ pc 44 .ireturn 1) (zQ pc 45 (.bipush 16) 2)))))) (zH pc 67 (zH pc 55 (zH pc 52 (zH pc 48 (zQ pc 47 (.aload_n 0) 1) (zH pc 51 (zQ pc 48 (.getfield 104) 3) (zQ pc 51 (.iconst 1) 1))) (zH pc 53 (zQ pc 52 .iaload 1) (zH pc 54 (zQ pc 53 .iadd 1) (zQ pc 54 (.istore_n 2) 1)))) (zH pc 60 (zH pc 56 (zQ pc 55 (.aload_n 0) 1) (zH pc 59 (zQ pc 56 (.invokevirtual 362) 3) (zQ pc 59 (.iload_n 1) 1))) (zH pc 63 (zQ pc 60 (.ifCond .eq 129) 3) (zH pc 64 (zQ pc 63 (.aload_n 0) 1) (zQ pc 64 (.getfield 295) 3))))) (zH pc 79 (zH pc 72 (zH pc 68 (zQ pc 67 (.iconst 1) 1) (zH pc 71 (zQ pc 68 (.if_icmp .ne 10) 3) (zQ pc 71 (.aload_n 0) 1))) (zH pc 75 (zQ pc 72 (.invokevirtual 348) 3) (zH pc 78 (zQ pc 75 (.ifCond .eq 9) 3) (zQ pc 78 (.aload_n 0) 1)))) (zH pc 84 (zH pc 80 (zQ pc 79 (.iconst 1) 1) (zH pc 83 (zQ pc 80 (.invokevirtual 352) 3) (zQ pc 83 .ireturn 1))) (zH pc 88 (zH pc 85 (zQ pc 84 (.aload_n 0) 1) (zQ pc 85 (.invokevirtual 355) 3)) (zH pc 91 (zQ pc 88 (.ifCond .lt 9) 3) (zQ pc 91 (.aload_n 0) 1))))))) (zH pc 137 (zH pc 113 (zH pc 102 (zH pc 97 (zH pc 93 (zQ pc 92 (.iconst 3) 1) (zH pc 96 (zQ pc 93 (.invokevirtual 352) 3) (zQ pc 96 .ireturn 1))) (zH pc 98 (zQ pc 97 (.aload_n 0) 1) (zH pc 101 (zQ pc 98 (.getfield 122) 3) (zQ pc 101 (.iconst 1) 1)))) (zH pc 108 (zH pc 103 (zQ pc 102 .iaload 1) (zH pc 105 (zQ pc 103 (.bipush 6) 2) (zQ pc 105 (.if_icmp .ne 9) 3))) (zH pc 109 (zQ pc 108 (.aload_n 0) 1) (zH pc 110 (zQ pc 109 (.iconst 5) 1) (zQ pc 110 (.invokevirtual 352) 3))))) (zH pc 123 (zH pc 118 (zH pc 114 (zQ pc 113 .ireturn 1) (zH pc 115 (zQ pc 114 (.aload_n 0) 1) (zQ pc 115 (.getfield 288) 3))) (zH pc 119 (zQ pc 118 (.lstore_n 3) 1) (zH pc 120 (zQ pc 119 (.aload_n 0) 1) (zQ pc 120 (.invokevirtual 362) 3)))) (zH pc 129 (zH pc 124 (zQ pc 123 (.aload_n 0) 1) (zH pc 126 (zQ pc 124 (.bipush 61) 2) (zQ pc 126 (.invokevirtual 345) 3))) (zH pc 133 (zH pc 132 (zQ pc 129 (.ifCond .ne 9) 3) (zQ pc 132 (.aload_n 0) 1)) (zH pc 134 (zQ pc 133 (.iconst 1) 1) (zQ pc 134 (.invokevirtual 352) 3)))))) (zH pc 157 (zH pc 147 (zH pc 142 (zH pc 138 (zQ pc 137 .ireturn 1) (zH pc 139 (zQ pc 138 (.aload_n 0) 1) (zQ pc 139 (.invokevirtual 362) 3))) (zH pc 143 (zQ pc 142 (.aload_n 0) 1) (zH pc 144 (zQ pc 143 (.iload_n 2) 1) (zQ pc 144 (.invokevirtual 365) 3)))) (zH pc 152 (zH pc 150 (zQ pc 147 (.ifCond .ne 5) 3) (zH pc 151 (zQ pc 150 (.iconst 0) 1) (zQ pc 151 .ireturn 1))) (zH pc 153 (zQ pc 152 (.aload_n 0) 1) (zH pc 156 (zQ pc 153 (.getfield 125) 3) (zQ pc 156 (.aload_n 0) 1))))) (zH pc 165 (zH pc 162 (zH pc 160 (zQ pc 157 (.getfield 122) 3) (zH pc 161 (zQ pc 160 (.iconst 1) 1) (zQ pc 161 .iaload 1))) (zH pc 163 (zQ pc 162 (.lload_n 3) 1) (zH pc 164 (zQ pc 163 .lastore 1) (zQ pc 164 (.aload_n 0) 1)))) (zH pc 170 (zH pc 168 (zQ pc 165 (.getfield 107) 3) (zH pc 169 (zQ pc 168 (.iload_n 2) 1) (zQ pc 169 (.aload_n 0) 1))) (zH pc 174 (zH pc 173 (zQ pc 170 (.getfield 122) 3) (zQ pc 173 (.iconst 1) 1)) (zH pc 175 (zQ pc 174 .iaload 1) (zQ pc 175 .iastore 1)))))))) (zH pc 265 (zH pc 218 (zH pc 194 (zH pc 184 (zH pc 181 (zH pc 177 (zQ pc 176 (.aload_n 0) 1) (zH pc 180 (zQ pc 177 (.getfield 122) 3) (zQ pc 180 (.iconst 1) 1))) (zH pc 182 (zQ pc 181 .dup2 1) (zH pc 183 (zQ pc 182 .iaload 1) (zQ pc 183 (.iconst 1) 1)))) (zH pc 189 (zH pc 185 (zQ pc 184 .iadd 1) (zH pc 186 (zQ pc 185 .iastore 1) (zQ pc 186 (.goto 152) 3))) (zH pc 190 (zQ pc 189 (.aload_n 0) 1) (zH pc 193 (zQ pc 190 (.getfield 295) 3) (zQ pc 193 (.iconst 2) 1))))) (zH pc 204 (zH pc 199 (zH pc 197 (zQ pc 194 (.if_icmp .eq 9) 3) (zH pc 198 (zQ pc 197 (.aload_n 0) 1) (zQ pc 198 (.iconst 1) 1))) (zH pc 202 (zQ pc 199 (.invokevirtual 352) 3) (zH pc 203 (zQ pc 202 .ireturn 1) (zQ pc 203 (.aload_n 0) 1)))) (zH pc 212 (zH pc 207 (zQ pc 204 (.getfield 292) 3) (zH pc 209 (zQ pc 207 (.bipush 99) 2) (zQ pc 209 (.if_icmp .le 9) 3))) (zH pc 214 (zH pc 213 (zQ pc 212 (.aload_n 0) 1) (zQ pc 213 (.iconst 4) 1)) (zH pc 217 (zQ pc 214 (.invokevirtual 352) 3) (zQ pc 217 .ireturn 1)))))) (zH pc 242 (zH pc 228 (zH pc 223 (zH pc 219 (zQ pc 218 (.aload_n 0) 1) (zH pc 222 (zQ pc 219 (.getfield 110) 3) (zQ pc 222 (.iload_n 2) 1))) (zH pc 224 (zQ pc 223 (.aload_n 0) 1) (zH pc 227 (zQ pc 224 (.getfield 292) 3) (zQ pc 227 .iastore 1)))) (zH pc 233 (zH pc 229 (zQ pc 228 (.aload_n 0) 1) (zH pc 232 (zQ pc 229 (.invokevirtual 362) 3) (zQ pc 232 (.aload_n 0) 1))) (zH pc 236 (zQ pc 233 (.ldc2_w 327) 3) (zH pc 239 (zQ pc 236 (.invokevirtual 341) 3) (zQ pc 239 (.ifCond .ne 9) 3))))) (zH pc 252 (zH pc 247 (zH pc 243 (zQ pc 242 (.aload_n 0) 1) (zH pc 244 (zQ pc 243 (.iconst 1) 1) (zQ pc 244 (.invokevirtual 352) 3))) (zH pc 248 (zQ pc 247 .ireturn 1) (zH pc 249 (zQ pc 248 (.aload_n 0) 1) (zQ pc 249 (.invokevirtual 362) 3)))) (zH pc 257 (zH pc 253 (zQ pc 252 (.aload_n 0) 1) (zH pc 256 (zQ pc 253 (.getfield 295) 3) (zQ pc 256 (.iconst 2) 1))) (zH pc 261 (zH pc 260 (zQ pc 257 (.if_icmp .eq 9) 3) (zQ pc 260 (.aload_n 0) 1)) (zH pc 262 (zQ pc 261 (.iconst 1) 1) (zQ pc 262 (.invokevirtual 352) 3))))))) (zH pc 313 (zH pc 288 (zH pc 278 (zH pc 270 (zH pc 266 (zQ pc 265 .ireturn 1) (zH pc 267 (zQ pc 266 (.aload_n 0) 1) (zQ pc 267 (.getfield 292) 3))) (zH pc 272 (zQ pc 270 (.bipush 30) 2) (zH pc 275 (zQ pc 272 (.sipush 9999) 3) (zQ pc 275 (.invokestatic 212) 3)))) (zH pc 283 (zH pc 281 (zQ pc 278 (.ifCond .ne 9) 3) (zH pc 282 (zQ pc 281 (.aload_n 0) 1) (zQ pc 282 (.iconst 4) 1))) (zH pc 286 (zQ pc 283 (.invokevirtual 352) 3) (zH pc 287 (zQ pc 286 .ireturn 1) (zQ pc 287 (.aload_n 0) 1))))) (zH pc 298 (zH pc 293 (zH pc 291 (zQ pc 288 (.getfield 113) 3) (zH pc 292 (zQ pc 291 (.iload_n 2) 1) (zQ pc 292 (.aload_n 0) 1))) (zH pc 296 (zQ pc 293 (.getfield 292) 3) (zH pc 297 (zQ pc 296 .iastore 1) (zQ pc 297 (.aload_n 0) 1)))) (zH pc 305 (zH pc 301 (zQ pc 298 (.invokevirtual 362) 3) (zH pc 302 (zQ pc 301 (.aload_n 0) 1) (zQ pc 302 (.ldc2_w 329) 3))) (zH pc 311 (zH pc 308 (zQ pc 305 (.invokevirtual 341) 3) (zQ pc 308 (.ifCond .ne 9) 3)) (zH pc 312 (zQ pc 311 (.aload_n 0) 1) (zQ pc 312 (.iconst 1) 1)))))) (zH pc 335 (zH pc 323 (zH pc 318 (zH pc 316 (zQ pc 313 (.invokevirtual 352) 3) (zH pc 317 (zQ pc 316 .ireturn 1) (zQ pc 317 (.aload_n 0) 1))) (zH pc 321 (zQ pc 318 (.invokevirtual 362) 3) (zH pc 322 (zQ pc 321 (.aload_n 0) 1) (zQ pc 322 (.iload_n 2) 1)))) (zH pc 330 (zH pc 326 (zQ pc 323 (.invokevirtual 365) 3) (zH pc 329 (zQ pc 326 (.ifCond .ne 5) 3) (zQ pc 329 (.iconst 0) 1))) (zH pc 331 (zQ pc 330 .ireturn 1) (zH pc 332 (zQ pc 331 (.aload_n 0) 1) (zQ pc 332 (.getfield 107) 3))))) (zH pc 343 (zH pc 338 (zH pc 336 (zQ pc 335 (.iload_n 2) 1) (zH pc 337 (zQ pc 336 (.iconst (-1)) 1) (zQ pc 337 .iastore 1))) (zH pc 339 (zQ pc 338 (.aload_n 0) 1) (zH pc 342 (zQ pc 339 (.getfield 104) 3) (zQ pc 342 (.iconst 1) 1)))) (zH pc 346 (zH pc 344 (zQ pc 343 .dup2 1) (zH pc 345 (zQ pc 344 .iaload 1) (zQ pc 345 (.iconst 1) 1))) (zH pc 348 (zH pc 347 (zQ pc 346 .iadd 1) (zQ pc 347 .iastore 1)) (zH pc 349 (zQ pc 348 (.iconst 1) 1) (zQ pc 349 .ireturn 1))))))))) else none
def zc_174 (pc : Nat) : Option (Instr × Nat) := bif Nat.blt pc 221 then (zH pc 112 (zH pc 59 (zH pc 28 (zH pc 14 (zH pc 6 (zH pc 2 (zH pc 1 (zQ pc 0 (.aload_n 0) 1) (zQ pc 1 (.iconst 0) 1)) (zH pc 5 (zQ pc 2 (.putfield 201) 3) (zQ pc 5 (.aload_n 0) 1))) (zH pc 10 (zH pc 7 (zQ pc 6 (.aload_n 0) 1) (zQ pc 7 (.getfield 276) 3)) (zH pc 13 (zQ pc 10 (.putfield 279) 3) (zQ pc 13 (.aload_n 0) 1)))) (zH pc 20 (zH pc 18 (zH pc 15 (zQ pc 14 (.iconst 0) 1) (zQ pc 15 (.putfield 276) 3)) (zH pc 19 (zQ pc 18 (.aload_n 0) 1) (zQ pc 19 (.iconst 0) 1))) (zH pc 24 (zH pc 23 (zQ pc 20 (.putfield 282) 3) (zQ pc 23 (.aload_n 0) 1)) (zH pc 27 (zQ pc 24 (.getfield 104) 3) (zQ pc 27 (.iconst 1) 1))))) (zH pc 38 (zH pc 34 (zH pc 30 (zH pc 29 (zQ pc 28 (.iconst 0) 1) (zQ pc 29 .iastore 1)) (zH pc 31 (zQ pc 30 (.aload_n 0) 1) (zQ pc 31 (.getfield 122) 3))) (zH pc 36 (zH pc 35 (zQ pc 34 (.iconst 1) 1) (zQ pc 35 (.iconst 0) 1)) (zH pc 37 (zQ pc 36 .iastore 1) (zQ pc 37 (.aload_n 0) 1)))) (zH pc 48 (zH pc 44 (zH pc 41 (zQ pc 38 (.sipush 1000) 3) (zQ pc 41 (.putfield 308) 3)) (zH pc 45 (zQ pc 44 (.aload_n 0) 1) (zQ pc 45 (.invokevirtual 362) 3))) (zH pc 52 (zH pc 49 (zQ pc 48 (.aload_n 0) 1) (zQ pc 49 (.getfield 295) 3)) (zH pc 55 (zQ pc 52 (.ifCond .eq 15) 3) (zH pc 56 (zQ pc 55 (.aload_n 0) 1) (zQ pc 56 (.invokevirtual 368) 3))))))) (zH pc 85 (zH pc 73 (zH pc 67 (zH pc 63 (zH pc 62 (zQ pc 59 (.ifCond .ne (-11)) 3) (zQ pc 62 (.aload_n 0) 1)) (zH pc 66 (zQ pc 63 (.getfield 305) 3) (zQ pc 66 .ireturn 1))) (zH pc 71 (zH pc 68 (zQ pc 67 (.aload_n 0) 1) (zQ pc 68 (.getfield 104) 3)) (zH pc 72 (zQ pc 71 (.iconst 0) 1) (zQ pc 72 (.aload_n 0) 1)))) (zH pc 79 (zH pc 77 (zH pc 76 (zQ pc 73 (.getfield 104) 3) (zQ pc 76 (.iconst 1) 1)) (zH pc 78 (zQ pc 77 .iaload 1) (zQ pc 78 .iastore 1))) (zH pc 83 (zH pc 80 (zQ pc 79 (.aload_n 0) 1) (zQ pc 80 (.getfield 122) 3)) (zH pc 84 (zQ pc 83 (.iconst 0) 1) (zQ pc 84 (.aload_n 0) 1))))) (zH pc 96 (zH pc 91 (zH pc 89 (zH pc 88 (zQ pc 85 (.getfield 122) 3) (zQ pc 88 (.iconst 1) 1)) (zH pc 90 (zQ pc 89 .iaload 1) (zQ pc 90 .iastore 1))) (zH pc 93 (zH pc 92 (zQ pc 91 (.iconst 0) 1) (zQ pc 92 (.istore_n 1) 1)) (zH pc 94 (zQ pc 93 (.iload_n 1) 1) (zQ pc 94 (.bipush 16) 2)))) (zH pc 104 (zH pc 100 (zH pc 99 (zQ pc 96 (.if_icmp .ge 92) 3) (zQ pc 99 (.aload_n 0) 1)) (zH pc 103 (zQ pc 100 (.getfield 107) 3) (zQ pc 103 (.iload_n 1) 1))) (zH pc 108 (zH pc 105 (zQ pc 104 (.aload_n 0) 1) (zQ pc 105 (.getfield 107) 3)) (zH pc 110 (zQ pc 108 (.bipush 16) 2) (zH pc 111 (zQ pc 110 (.iload_n 1) 1) (zQ pc 111 .iadd 1)))))))) (zH pc 162 (zH pc 135 (zH pc 125 (zH pc 118 (zH pc 114 (zH pc 113 (zQ pc 112 .iaload 1) (zQ pc 113 .iastore 1)) (zH pc 115 (zQ pc 114 (.aload_n 0) 1) (zQ pc 115 (.getfield 110) 3))) (zH pc 120 (zH pc 119 (zQ pc 118 (.iload_n 1) 1) (zQ pc 119 (.aload_n 0) 1)) (zH pc 123 (zQ pc 120 (.getfield 110) 3) (zQ pc 123 (.bipush 16) 2)))) (zH pc 129 (zH pc 127 (zH pc 126 (zQ pc 125 (.iload_n 1) 1) (zQ pc 126 .iadd 1)) (zH pc 128 (zQ pc 127 .iaload 1) (zQ pc 128 .iastore 1))) (zH pc 133 (zH pc 130 (zQ pc 129 (.aload_n 0) 1) (zQ pc 130 (.getfield 113) 3)) (zH pc 134 (zQ pc 133 (.iload_n 1) 1) (zQ pc 134 (.aload_n 0) 1))))) (zH pc 148 (zH pc 142 (zH pc 140 (zH pc 138 (zQ pc 135 (.getfield 113) 3) (zQ pc 138 (.bipush 16) 2)) (zH pc 141 (zQ pc 140 (.iload_n 1) 1) (zQ pc 141 .iadd 1))) (zH pc 144 (zH pc 143 (zQ pc 142 .iaload 1) (zQ pc 143 .iastore 1)) (zH pc 145 (zQ pc 144 (.aload_n 0) 1) (zQ pc 145 (.getfield 116) 3)))) (zH pc 155 (zH pc 150 (zH pc 149 (zQ pc 148 (.iload_n 1) 1) (zQ pc 149 (.aload_n 0) 1)) (zH pc 153 (zQ pc 150 (.getfield 116) 3) (zQ pc 153 (.bipush 16) 2))) (zH pc 157 (zH pc 156 (zQ pc 155 (.iload_n 1) 1) (zQ pc 156 .iadd 1)) (zH pc 158 (zQ pc 157 .iaload 1) (zH pc 161 (zQ pc 158 (.sipush 1000) 3) (zQ pc 161 .isub 1))))))) (zH pc 190 (zH pc 175 (zH pc 168 (zH pc 164 (zH pc 163 (zQ pc 162 .iastore 1) (zQ pc 163 (.aload_n 0) 1)) (zH pc 167 (zQ pc 164 (.getfield 119) 3) (zQ pc 167 (.iload_n 1) 1))) (zH pc 172 (zH pc 169 (zQ pc 168 (.aload_n 0) 1) (zQ pc 169 (.getfield 119) 3)) (zH pc 174 (zQ pc 172 (.bipush 16) 2) (zQ pc 174 (.iload_n 1) 1)))) (zH pc 181 (zH pc 177 (zH pc 176 (zQ pc 175 .iadd 1) (zQ pc 176 .iaload 1)) (zH pc 180 (zQ pc 177 (.sipush 1000) 3) (zQ pc 180 .isub 1))) (zH pc 185 (zH pc 182 (zQ pc 181 .iastore 1) (zQ pc 182 (.iinc 1 1) 3)) (zH pc 188 (zQ pc 185 (.goto (-92)) 3) (zH pc 189 (zQ pc 188 (.iconst 0) 1) (zQ pc 189 (.istore_n 1) 1)))))) (zH pc 206 (zH pc 198 (zH pc 194 (zH pc 191 (zQ pc 190 (.iload_n 1) 1) (zQ pc 191 (.sipush 1000) 3)) (zH pc 197 (zQ pc 194 (.if_icmp .ge 25) 3) (zQ pc 197 (.aload_n 0) 1))) (zH pc 202 (zH pc 201 (zQ pc 198 (.getfield 129) 3) (zQ pc 201 (.iload_n 1) 1)) (zH pc 203 (zQ pc 202 (.aload_n 0) 1) (zQ pc 203 (.getfield 129) 3)))) (zH pc 212 (zH pc 210 (zH pc 209 (zQ pc 206 (.sipush 1000) 3) (zQ pc 209 (.iload_n 1) 1)) (zH pc 211 (zQ pc 210 .iadd 1) (zQ pc 211 .iaload 1))) (zH pc 216 (zH pc 213 (zQ pc 212 .iastore 1) (zQ pc 213 (.iinc 1 1) 3)) (zH pc 219 (zQ pc 216 (.goto (-26)) 3) (zH pc 220 (zQ pc 219 (.iconst 0) 1) (zQ pc 220 .ireturn 1))))))))) else none
def zc_175 (pc : Nat) : Option (Instr × Nat) := bif Nat.blt pc 37 then (zH pc 19 (zH pc 8 (zH pc 5 (zH pc 1 (zQ pc 0 (.aload_n 0) 1) (zH pc 4 (zQ pc 1 (.getfield 141) 3) (zQ pc 4 (.iload_n 1) 1))) (zH pc 6 (zQ pc 5 (.iconst 0) 1) (zH pc 7 (zQ pc 6 .iastore 1) (zQ pc 7 (.aload_n 0) 1)))) (zH pc 13 (zH pc 11 (zQ pc 8 (.getfield 147) 3) (zH pc 12 (zQ pc 11 (.iload_n 1) 1) (zQ pc 12 (.iconst 0) 1))) (zH pc 15 (zH pc 14 (zQ pc 13 .iastore 1) (zQ pc 14 (.aload_n 0) 1)) (zH pc 18 (zQ pc 15 (.getfield 150) 3) (zQ pc 18 (.iload_n 1) 1))))) (zH pc 28 (zH pc 22 (zH pc 20 (zQ pc 19 (.iconst 0) 1) (zH pc 21 (zQ pc 20 .iastore 1) (zQ pc 21 (.aload_n 0) 1))) (zH pc 25 (zQ pc 22 (.getfield 153) 3) (zH pc 26 (zQ pc 25 (.iload_n 1) 1) (zQ pc 26 (.bipush 20) 2)))) (zH pc 33 (zH pc 29 (zQ pc 28 .iastore 1) (zH pc 30 (zQ pc 29 (.aload_n 0) 1) (zQ pc 30 (.getfield 159) 3))) (zH pc 35 (zH pc 34 (zQ pc 33 (.iload_n 1) 1) (zQ pc 34 (.iconst 0) 1)) (zH pc 36 (zQ pc 35 .bastore 1) (zQ pc 36 .return_ 1)))))) else none
def zc_176 (pc : Nat) : Option (Instr × Nat) := bif Nat.blt pc 54 then (zH pc 28 (zH pc 13 (zH pc 6 (zH pc 4 (zH pc 1 (zQ pc 0 (.aload_n 0) 1) (zQ pc 1 (.getfield 150) 3)) (zH pc 5 (zQ pc 4 (.iload_n 1) 1) (zQ pc 5 (.aload_n 0) 1))) (zH pc 10 (zH pc 9 (zQ pc 6 (.getfield 153) 3) (zQ pc 9 (.iload_n 1) 1)) (zH pc 11 (zQ pc 10 .iaload 1) (zQ pc 11 (.bipush 21) 2)))) (zH pc 21 (zH pc 17 (zH pc 16 (zQ pc 13 (.if_icmp .ne 19) 3) (zQ pc 16 (.aload_n 0) 1)) (zH pc 20 (zQ pc 17 (.getfield 150) 3) (zQ pc 20 (.iload_n 1) 1))) (zH pc 23 (zH pc 22 (zQ pc 21 .iaload 1) (zQ pc 22 (.aload_n 0) 1)) (zH pc 26 (zQ pc 23 (.getfield 156) 3) (zH pc 27 (zQ pc 26 (.iload_n 1) 1) (zQ pc 27 .iaload 1)))))) (zH pc 43 (zH pc 36 (zH pc 32 (zH pc 29 (zQ pc 28 .isub 1) (zQ pc 29 (.goto 16) 3)) (zH pc 33 (zQ pc 32 (.aload_n 0) 1) (zQ pc 33 (.getfield 150) 3))) (zH pc 38 (zH pc 37 (zQ pc 36 (.iload_n 1) 1) (zQ pc 37 .iaload 1)) (zH pc 39 (zQ pc 38 (.aload_n 0) 1) (zH pc 42 (zQ pc 39 (.getfield 156) 3) (zQ pc 42 (.iload_n 1) 1))))) (zH pc 47 (zH pc 45 (zH pc 44 (zQ pc 43 .iaload 1) (zQ pc 44 .iadd 1)) (zH pc 46 (zQ pc 45 .iastore 1) (zQ pc 46 (.aload_n 0) 1))) (zH pc 51 (zH pc 50 (zQ pc 47 (.getfield 159) 3) (zQ pc 50 (.iload_n 1) 1)) (zH pc 52 (zQ pc 51 (.iconst 0) 1) (zH pc 53 (zQ pc 52 .bastore 1) (zQ pc 53 .return_ 1))))))) else none
def zc_177 (pc : Nat) : Option (Instr × Nat) := bif Nat.blt pc 166 then (zH pc 82 (zH pc 42 (zH pc 18 (zH pc 10 (zH pc 5 (zH pc 1 (zQ pc 0 (.aload_n 0) 1) (zH pc 2 (zQ pc 1 (.iload_n 1) 1) (zQ pc 2 (.invokevirtual 371) 3))) (zH pc 6 (zQ pc 5 (.aload_n 0) 1) (zH pc 9 (zQ pc 6 (.getfield 150) 3) (zQ pc 9 (.iload_n 1) 1)))) (zH pc 13 (zH pc 11 (zQ pc 10 .iaload 1) (zH pc 12 (zQ pc 11 (.istore_n 2) 1) (zQ pc 12 (.aload_n 0) 1))) (zH pc 16 (zQ pc 13 (.getfield 147) 3) (zH pc 17 (zQ pc 16 (.iload_n 1) 1) (zQ pc 17 .iaload 1))))) (zH pc 29 (zH pc 24 (zH pc 20 (zQ pc 18 (.bipush 24) 2) (zH pc 23 (zQ pc 20 (.if_icmp .ne 24) 3) (zQ pc 23 (.aload_n 0) 1))) (zH pc 27 (zQ pc 24 (.getfield 144) 3) (zH pc 28 (zQ pc 27 (.iload_n 1) 1) (zQ pc 28 .iaload 1)))) (zH pc 34 (zH pc 30 (zQ pc 29 (.aload_n 0) 1) (zH pc 33 (zQ pc 30 (.getfield 150) 3) (zQ pc 33 (.iload_n 1) 1))) (zH pc 38 (zH pc 35 (zQ pc 34 .iaload 1) (zQ pc 35 (.if_icmp .ge 7) 3)) (zH pc 39 (zQ pc 38 (.iconst 1) 1) (zQ pc 39 (.goto 4) 3)))))) (zH pc 61 (zH pc 50 (zH pc 45 (zH pc 43 (zQ pc 42 (.iconst 0) 1) (zH pc 44 (zQ pc 43 (.istore_n 2) 1) (zQ pc 44 (.aload_n 0) 1))) (zH pc 48 (zQ pc 45 (.getfield 147) 3) (zH pc 49 (zQ pc 48 (.iload_n 1) 1) (zQ pc 49 .iaload 1)))) (zH pc 56 (zH pc 52 (zQ pc 50 (.bipush 25) 2) (zH pc 55 (zQ pc 52 (.if_icmp .ne 24) 3) (zQ pc 55 (.aload_n 0) 1))) (zH pc 59 (zQ pc 56 (.getfield 144) 3) (zH pc 60 (zQ pc 59 (.iload_n 1) 1) (zQ pc 60 .iaload 1))))) (zH pc 71 (zH pc 66 (zH pc 62 (zQ pc 61 (.aload_n 0) 1) (zH pc 65 (zQ pc 62 (.getfield 150) 3) (zQ pc 65 (.iload_n 1) 1))) (zH pc 67 (zQ pc 66 .iaload 1) (zH pc 70 (zQ pc 67 (.if_icmp .ne 7) 3) (zQ pc 70 (.iconst 1) 1)))) (zH pc 76 (zH pc 74 (zQ pc 71 (.goto 4) 3) (zH pc 75 (zQ pc 74 (.iconst 0) 1) (zQ pc 75 (.istore_n 2) 1))) (zH pc 80 (zH pc 77 (zQ pc 76 (.aload_n 0) 1) (zQ pc 77 (.getfield 141) 3)) (zH pc 81 (zQ pc 80 (.iload_n 1) 1) (zQ pc 81 .iaload 1))))))) (zH pc 127 (zH pc 105 (zH pc 93 (zH pc 88 (zH pc 84 (zQ pc 82 (.bipush 26) 2) (zH pc 87 (zQ pc 84 (.if_icmp .ne 22) 3) (zQ pc 87 (.aload_n 0) 1))) (zH pc 91 (zQ pc 88 (.getfield 138) 3) (zH pc 92 (zQ pc 91 (.iload_n 1) 1) (zQ pc 92 .iaload 1)))) (zH pc 100 (zH pc 96 (zQ pc 93 (.ifCond .eq 11) 3) (zH pc 97 (zQ pc 96 (.iload_n 2) 1) (zQ pc 97 (.ifCond .eq 7) 3))) (zH pc 101 (zQ pc 100 (.iconst 1) 1) (zH pc 104 (zQ pc 101 (.goto 4) 3) (zQ pc 104 (.iconst 0) 1))))) (zH pc 114 (zH pc 110 (zH pc 106 (zQ pc 105 (.istore_n 2) 1) (zH pc 107 (zQ pc 106 (.aload_n 0) 1) (zQ pc 107 (.getfield 141) 3))) (zH pc 111 (zQ pc 110 (.iload_n 1) 1) (zH pc 112 (zQ pc 111 .iaload 1) (zQ pc 112 (.bipush 27) 2)))) (zH pc 121 (zH pc 117 (zQ pc 114 (.if_icmp .ne 22) 3) (zH pc 118 (zQ pc 117 (.aload_n 0) 1) (zQ pc 118 (.getfield 138) 3))) (zH pc 123 (zH pc 122 (zQ pc 121 (.iload_n 1) 1) (zQ pc 122 .iaload 1)) (zH pc 126 (zQ pc 123 (.ifCond .ne 7) 3) (zQ pc 126 (.iload_n 2) 1)))))) (zH pc 148 (zH pc 137 (zH pc 134 (zH pc 130 (zQ pc 127 (.ifCond .eq 7) 3) (zH pc 131 (zQ pc 130 (.iconst 1) 1) (zQ pc 131 (.goto 4) 3))) (zH pc 135 (zQ pc 134 (.iconst 0) 1) (zH pc 136 (zQ pc 135 (.istore_n 2) 1) (zQ pc 136 (.aload_n 0) 1)))) (zH pc 142 (zH pc 140 (zQ pc 137 (.getfield 138) 3) (zH pc 141 (zQ pc 140 (.iload_n 1) 1) (zQ pc 141 (.iload_n 2) 1))) (zH pc 144 (zH pc 143 (zQ pc 142 .iastore 1) (zQ pc 143 (.aload_n 0) 1)) (zH pc 147 (zQ pc 144 (.getfield 147) 3) (zQ pc 147 (.iload_n 1) 1))))) (zH pc 156 (zH pc 151 (zH pc 149 (zQ pc 148 (.iconst 0) 1) (zH pc 150 (zQ pc 149 .iastore 1) (zQ pc 150 (.aload_n 0) 1))) (zH pc 154 (zQ pc 151 (.getfield 150) 3) (zH pc 155 (zQ pc 154 (.iload_n 1) 1) (zQ pc 155 (.iconst 0) 1)))) (zH pc 161 (zH pc 157 (zQ pc 156 .iastore 1) (zH pc 158 (zQ pc 157 (.aload_n 0) 1) (zQ pc 158 (.getfield 153) 3))) (zH pc 164 (zH pc 162 (zQ pc 161 (.iload_n 1) 1) (zQ pc 162 (.bipush 20) 2)) (zH pc 165 (zQ pc 164 .iastore 1) (zQ pc 165 .return_ 1)))))))) else none
def zc_178 (pc : Nat) : Option (Instr × Nat) := bif Nat.blt pc 366 then (zH pc 176 (zH pc 90 (zH pc 39 (zH pc 16 (zH pc 8 (zH pc 3 (zH pc 1 (zQ pc 0 (.iconst 0) 1) (zH pc 2 (zQ pc 1 (.istore_n 2) 1) (zQ pc 2 (.aload_n 0) 1))) (zH pc 4 (zQ pc 3 (.iconst 0) 1) (zH pc 7 (zQ pc 4 (.invokevirtual 374) 3) (zQ pc 7 (.aload_n 0) 1)))) (zH pc 13 (zH pc 11 (zQ pc 8 (.getfield 116) 3) (zH pc 12 (zQ pc 11 (.iload_n 1) 1) (zQ pc 12 .iaload 1))) (zH pc 14 (zQ pc 13 (.istore_n 3) 1) (zH pc 15 (zQ pc 14 (.iload_n 3) 1) (zQ pc 15 (.aload_n 0) 1))))) (zH pc 28 (zH pc 21 (zH pc 19 (zQ pc 16 (.getfield 119) 3) (zH pc 20 (zQ pc 19 (.iload_n 1) 1) (zQ pc 20 .iaload 1))) (zH pc 24 (zQ pc 21 (.if_icmp .ge 333) 3) (zH pc 25 (zQ pc 24 (.aload_n 0) 1) (zQ pc 25 (.getfield 129) 3)))) (zH pc 32 (zH pc 29 (zQ pc 28 (.iload_n 3) 1) (zH pc 30 (zQ pc 29 .iaload 1) (zQ pc 30 (.istore 4) 2))) (zH pc 34 (zQ pc 32 (.iload 4) 2) (zH pc 36 (zQ pc 34 (.bipush 28) 2) (zQ pc 36 (.if_icmp .eq 10) 3)))))) (zH pc 65 (zH pc 53 (zH pc 46 (zH pc 41 (zQ pc 39 (.iload 4) 2) (zH pc 43 (zQ pc 41 (.bipush 30) 2) (zQ pc 43 (.if_icmp .ne 32) 3))) (zH pc 49 (zQ pc 46 (.iinc 2 1) 3) (zH pc 50 (zQ pc 49 (.aload_n 0) 1) (zQ pc 50 (.getfield 162) 3)))) (zH pc 58 (zH pc 54 (zQ pc 53 (.iload_n 2) 1) (zH pc 56 (zQ pc 54 (.iload 4) 2) (zQ pc 56 (.bipush 30) 2))) (zH pc 61 (zQ pc 58 (.if_icmp .ne 7) 3) (zH pc 62 (zQ pc 61 (.iconst 1) 1) (zQ pc 62 (.goto 4) 3))))) (zH pc 75 (zH pc 68 (zH pc 66 (zQ pc 65 (.iconst 0) 1) (zH pc 67 (zQ pc 66 .iastore 1) (zQ pc 67 (.aload_n 0) 1))) (zH pc 69 (zQ pc 68 (.iload_n 2) 1) (zH pc 72 (zQ pc 69 (.invokevirtual 374) 3) (zQ pc 72 (.goto 276) 3)))) (zH pc 82 (zH pc 77 (zQ pc 75 (.iload 4) 2) (zH pc 79 (zQ pc 77 (.bipush 20) 2) (zQ pc 79 (.if_icmp .eq 10) 3))) (zH pc 86 (zH pc 84 (zQ pc 82 (.iload 4) 2) (zQ pc 84 (.bipush 21) 2)) (zH pc 89 (zQ pc 86 (.if_icmp .ne 19) 3) (zQ pc 89 (.aload_n 0) 1))))))) (zH pc 137 (zH pc 113 (zH pc 101 (zH pc 95 (zH pc 91 (zQ pc 90 (.iload_n 2) 1) (zH pc 94 (zQ pc 91 (.invokevirtual 371) 3) (zQ pc 94 (.aload_n 0) 1))) (zH pc 98 (zQ pc 95 (.getfield 153) 3) (zH pc 99 (zQ pc 98 (.iload_n 2) 1) (zQ pc 99 (.iload 4) 2)))) (zH pc 107 (zH pc 102 (zQ pc 101 .iastore 1) (zH pc 105 (zQ pc 102 (.goto 246) 3) (zQ pc 105 (.iload 4) 2))) (zH pc 109 (zQ pc 107 (.bipush 22) 2) (zH pc 112 (zQ pc 109 (.if_icmp .ne 13) 3) (zQ pc 112 (.aload_n 0) 1))))) (zH pc 124 (zH pc 118 (zH pc 116 (zQ pc 113 (.getfield 159) 3) (zH pc 117 (zQ pc 116 (.iload_n 2) 1) (zQ pc 117 (.iconst 1) 1))) (zH pc 119 (zQ pc 118 .bastore 1) (zH pc 122 (zQ pc 119 (.goto 229) 3) (zQ pc 122 (.iload 4) 2)))) (zH pc 131 (zH pc 126 (zQ pc 124 (.bipush 24) 2) (zH pc 129 (zQ pc 126 (.if_icmp .eq 10) 3) (zQ pc 129 (.iload 4) 2))) (zH pc 133 (zQ pc 131 (.bipush 25) 2) (zH pc 136 (zQ pc 133 (.if_icmp .ne 46) 3) (zQ pc 136 (.aload_n 0) 1)))))) (zH pc 157 (zH pc 147 (zH pc 142 (zH pc 138 (zQ pc 137 (.iload_n 2) 1) (zH pc 141 (zQ pc 138 (.invokevirtual 371) 3) (zQ pc 141 (.aload_n 0) 1))) (zH pc 145 (zQ pc 142 (.getfield 144) 3) (zH pc 146 (zQ pc 145 (.iload_n 2) 1) (zQ pc 146 (.aload_n 0) 1)))) (zH pc 152 (zH pc 150 (zQ pc 147 (.getfield 150) 3) (zH pc 151 (zQ pc 150 (.iload_n 2) 1) (zQ pc 151 .iaload 1))) (zH pc 153 (zQ pc 152 .iastore 1) (zH pc 154 (zQ pc 153 (.aload_n 0) 1) (zQ pc 154 (.getfield 147) 3))))) (zH pc 166 (zH pc 161 (zH pc 158 (zQ pc 157 (.iload_n 2) 1) (zH pc 160 (zQ pc 158 (.iload 4) 2) (zQ pc 160 .iastore 1))) (zH pc 162 (zQ pc 161 (.aload_n 0) 1) (zH pc 165 (zQ pc 162 (.getfield 150) 3) (zQ pc 165 (.iload_n 2) 1)))) (zH pc 169 (zH pc 167 (zQ pc 166 (.iconst 0) 1) (zH pc 168 (zQ pc 167 .iastore 1) (zQ pc 168 (.aload_n 0) 1))) (zH pc 173 (zH pc 172 (zQ pc 169 (.getfield 153) 3) (zQ pc 172 (.iload_n 2) 1)) (zH pc 175 (zQ pc 173 (.bipush 20) 2) (zQ pc 175 .iastore 1)))))))) (zH pc 276 (zH pc 226 (zH pc 202 (zH pc 190 (zH pc 183 (zH pc 179 (zQ pc 176 (.goto 172) 3) (zH pc 181 (zQ pc 179 (.iload 4) 2) (zQ pc 181 (.bipush 26) 2))) (zH pc 186 (zQ pc 183 (.if_icmp .eq 10) 3) (zH pc 188 (zQ pc 186 (.iload 4) 2) (zQ pc 188 (.bipush 27) 2)))) (zH pc 195 (zH pc 193 (zQ pc 190 (.if_icmp .ne 19) 3) (zH pc 194 (zQ pc 193 (.aload_n 0) 1) (zQ pc 194 (.iload_n 2) 1))) (zH pc 198 (zQ pc 195 (.invokevirtual 377) 3) (zH pc 199 (zQ pc 198 (.aload_n 0) 1) (zQ pc 199 (.getfield 141) 3))))) (zH pc 213 (zH pc 206 (zH pc 203 (zQ pc 202 (.iload_n 2) 1) (zH pc 205 (zQ pc 203 (.iload 4) 2) (zQ pc 205 .iastore 1))) (zH pc 209 (zQ pc 206 (.goto 142) 3) (zH pc 211 (zQ pc 209 (.iload 4) 2) (zQ pc 211 (.bipush 100) 2)))) (zH pc 220 (zH pc 216 (zQ pc 213 (.if_icmp .lt 11) 3) (zH pc 218 (zQ pc 216 (.iload 4) 2) (zQ pc 218 (.bipush 100) 2))) (zH pc 221 (zQ pc 220 .isub 1) (zH pc 224 (zQ pc 221 (.goto 41) 3) (zQ pc 224 (.iload 4) 2)))))) (zH pc 252 (zH pc 238 (zH pc 232 (zH pc 228 (zQ pc 226 (.bipush 10) 2) (zH pc 231 (zQ pc 228 (.if_icmp .ge 13) 3) (zQ pc 231 (.aload_n 0) 1))) (zH pc 235 (zQ pc 232 (.getfield 165) 3) (zH pc 237 (zQ pc 235 (.iload 4) 2) (zQ pc 237 .iaload 1)))) (zH pc 245 (zH pc 241 (zQ pc 238 (.goto 24) 3) (zH pc 243 (zQ pc 241 (.iload 4) 2) (zQ pc 243 (.bipush 20) 2))) (zH pc 248 (zQ pc 245 (.if_icmp .ge 16) 3) (zH pc 249 (zQ pc 248 (.aload_n 0) 1) (zQ pc 249 (.getfield 168) 3))))) (zH pc 262 (zH pc 257 (zH pc 254 (zQ pc 252 (.iload 4) 2) (zH pc 256 (zQ pc 254 (.bipush 10) 2) (zQ pc 256 .isub 1))) (zH pc 258 (zQ pc 257 .iaload 1) (zH pc 261 (zQ pc 258 (.goto 4) 3) (zQ pc 261 (.iconst 0) 1)))) (zH pc 268 (zH pc 264 (zQ pc 262 (.istore 5) 2) (zH pc 266 (zQ pc 264 (.iload 4) 2) (zQ pc 266 (.bipush 29) 2))) (zH pc 272 (zH pc 271 (zQ pc 268 (.if_icmp .ne 19) 3) (zQ pc 271 (.aload_n 0) 1)) (zH pc 273 (zQ pc 272 (.iload_n 2) 1) (zQ pc 273 (.invokevirtual 377) 3))))))) (zH pc 323 (zH pc 297 (zH pc 287 (zH pc 281 (zH pc 277 (zQ pc 276 (.aload_n 0) 1) (zH pc 280 (zQ pc 277 (.getfield 138) 3) (zQ pc 280 (.iload_n 2) 1))) (zH pc 282 (zQ pc 281 .iaload 1) (zH pc 284 (zQ pc 282 (.istore 5) 2) (zQ pc 284 (.iinc 2 (-1)) 3)))) (zH pc 292 (zH pc 288 (zQ pc 287 (.iload_n 2) 1) (zH pc 291 (zQ pc 288 (.ifCond .le 31) 3) (zQ pc 291 (.aload_n 0) 1))) (zH pc 295 (zQ pc 292 (.getfield 162) 3) (zH pc 296 (zQ pc 295 (.iload_n 2) 1) (zQ pc 296 .iaload 1))))) (zH pc 310 (zH pc 303 (zH pc 298 (zQ pc 297 (.iconst 1) 1) (zH pc 301 (zQ pc 298 (.if_icmp .ne 21) 3) (zQ pc 301 (.iload 5) 2))) (zH pc 306 (zQ pc 303 (.ifCond .ne 7) 3) (zH pc 307 (zQ pc 306 (.iconst 1) 1) (zQ pc 307 (.goto 4) 3)))) (zH pc 316 (zH pc 311 (zQ pc 310 (.iconst 0) 1) (zH pc 313 (zQ pc 311 (.istore 5) 2) (zQ pc 313 (.iinc 2 (-1)) 3))) (zH pc 319 (zQ pc 316 (.goto (-29)) 3) (zH pc 320 (zQ pc 319 (.aload_n 0) 1) (zQ pc 320 (.getfield 156) 3)))))) (zH pc 342 (zH pc 333 (zH pc 328 (zH pc 324 (zQ pc 323 (.iload_n 2) 1) (zH pc 325 (zQ pc 324 (.aload_n 0) 1) (zQ pc 325 (.getfield 159) 3))) (zH pc 329 (zQ pc 328 (.iload_n 2) 1) (zH pc 330 (zQ pc 329 .baload 1) (zQ pc 330 (.ifCond .eq 15) 3)))) (zH pc 338 (zH pc 334 (zQ pc 333 (.aload_n 0) 1) (zH pc 337 (zQ pc 334 (.getfield 156) 3) (zQ pc 337 (.iload_n 2) 1))) (zH pc 339 (zQ pc 338 .iaload 1) (zH pc 341 (zQ pc 339 (.iload 5) 2) (zQ pc 341 .imul 1))))) (zH pc 355 (zH pc 348 (zH pc 345 (zQ pc 342 (.goto 5) 3) (zH pc 347 (zQ pc 345 (.iload 5) 2) (zQ pc 347 .iastore 1))) (zH pc 351 (zQ pc 348 (.iinc 3 1) 3) (zH pc 354 (zQ pc 351 (.goto (-337)) 3) (zQ pc 354 (.aload_n 0) 1)))) (zH pc 360 (zH pc 356 (zQ pc 355 (.iconst 0) 1) (zH pc 359 (zQ pc 356 (.invokevirtual 377) 3) (zQ pc 359 (.aload_n 0) 1))) (zH pc 364 (zH pc 363 (zQ pc 360 (.getfield 138) 3) (zQ pc 363 (.iconst 0) 1)) (zH pc 365 (zQ pc 364 .iaload 1) (zQ pc 365 .ireturn 1))))))))) else none
def zc_179 (pc : Nat) : Option (Instr × Nat) := bif Nat.blt pc 216 then (zH pc 101 (zH pc 51 (zH pc 25 (zH pc 9 (zH pc 5 (zH pc 1 (zQ pc 0 (.aload_n 0) 1) (zH pc 2 (zQ pc 1 (.iload_n 1) 1) (zQ pc 2 (.invokevirtual 252) 3))) (zH pc 7 (zH pc 6 (zQ pc 5 (.istore_n 2) 1) (zQ pc 6 (.iconst 0) 1)) (zH pc 8 (zQ pc 7 (.istore_n 3) 1) (zQ pc 8 (.aload_n 0) 1)))) (zH pc 16 (zH pc 13 (zH pc 12 (zQ pc 9 (.getfield 65) 3) (zQ pc 12 (.iload_n 1) 1)) (zH pc 14 (zQ pc 13 .iaload 1) (zQ pc 14 (.istore 4) 2))) (zH pc 19 (zH pc 18 (zQ pc 16 (.iload 4) 2) (zQ pc 18 (.aload_n 0) 1)) (zH pc 22 (zQ pc 19 (.getfield 220) 3) (zQ pc 22 (.if_icmp .ge 192) 3))))) (zH pc 40 (zH pc 31 (zH pc 29 (zH pc 26 (zQ pc 25 (.aload_n 0) 1) (zQ pc 26 (.getfield 165) 3)) (zH pc 30 (zQ pc 29 (.iconst 1) 1) (zQ pc 30 (.iload_n 2) 1))) (zH pc 36 (zH pc 33 (zQ pc 31 (.bipush 100) 2) (zQ pc 33 (.if_icmp .lt 15) 3)) (zH pc 37 (zQ pc 36 (.aload_n 0) 1) (zQ pc 37 (.getfield 22) 3)))) (zH pc 45 (zH pc 43 (zH pc 41 (zQ pc 40 (.iload_n 2) 1) (zQ pc 41 (.bipush 100) 2)) (zH pc 44 (zQ pc 43 .isub 1) (zQ pc 44 .iaload 1))) (zH pc 49 (zH pc 48 (zQ pc 45 (.goto 4) 3) (zQ pc 48 (.iconst 0) 1)) (zH pc 50 (zQ pc 49 .iastore 1) (zQ pc 50 (.aload_n 0) 1)))))) (zH pc 78 (zH pc 64 (zH pc 57 (zH pc 54 (zQ pc 51 (.getfield 165) 3) (zH pc 55 (zQ pc 54 (.iconst 2) 1) (zQ pc 55 (.iload 4) 2))) (zH pc 61 (zH pc 60 (zQ pc 57 (.sipush 3600) 3) (zQ pc 60 .idiv 1)) (zH pc 63 (zQ pc 61 (.bipush 24) 2) (zQ pc 63 .irem 1)))) (zH pc 70 (zH pc 66 (zH pc 65 (zQ pc 64 .iastore 1) (zQ pc 65 (.aload_n 0) 1)) (zH pc 69 (zQ pc 66 (.getfield 165) 3) (zQ pc 69 (.iconst 3) 1))) (zH pc 75 (zH pc 72 (zQ pc 70 (.iload 4) 2) (zQ pc 72 (.ldc_w 267) 3)) (zH pc 76 (zQ pc 75 .idiv 1) (zQ pc 76 (.bipush 7) 2))))) (zH pc 91 (zH pc 84 (zH pc 80 (zH pc 79 (zQ pc 78 .irem 1) (zQ pc 79 .iastore 1)) (zH pc 81 (zQ pc 80 (.aload_n 0) 1) (zQ pc 81 (.getfield 165) 3))) (zH pc 87 (zH pc 85 (zQ pc 84 (.iconst 4) 1) (zQ pc 85 (.iload 4) 2)) (zH pc 88 (zQ pc 87 (.aload_n 0) 1) (zQ pc 88 (.getfield 65) 3)))) (zH pc 95 (zH pc 93 (zH pc 92 (zQ pc 91 (.iload_n 1) 1) (zQ pc 92 .iaload 1)) (zH pc 94 (zQ pc 93 .isub 1) (zQ pc 94 .iastore 1))) (zH pc 99 (zH pc 96 (zQ pc 95 (.aload_n 0) 1) (zQ pc 96 (.getfield 165) 3)) (zH pc 100 (zQ pc 99 (.iconst 5) 1) (zQ pc 100 (.iload_n 3) 1))))))) (zH pc 158 (zH pc 126 (zH pc 112 (zH pc 106 (zH pc 102 (zQ pc 101 .iastore 1) (zH pc 103 (zQ pc 102 (.aload_n 0) 1) (zQ pc 103 (.getfield 165) 3))) (zH pc 109 (zH pc 108 (zQ pc 106 (.bipush 6) 2) (zQ pc 108 (.iload_n 1) 1)) (zH pc 110 (zQ pc 109 .iastore 1) (zQ pc 110 (.bipush 60) 2)))) (zH pc 118 (zH pc 115 (zH pc 114 (zQ pc 112 (.istore 5) 2) (zQ pc 114 (.iconst 1) 1)) (zH pc 117 (zQ pc 115 (.istore 6) 2) (zQ pc 117 (.iconst 0) 1))) (zH pc 122 (zH pc 120 (zQ pc 118 (.istore 7) 2) (zQ pc 120 (.iload 7) 2)) (zH pc 123 (zQ pc 122 (.aload_n 0) 1) (zQ pc 123 (.getfield 104) 3))))) (zH pc 142 (zH pc 133 (zH pc 128 (zH pc 127 (zQ pc 126 (.iconst 0) 1) (zQ pc 127 .iaload 1)) (zH pc 131 (zQ pc 128 (.if_icmp .ge 76) 3) (zQ pc 131 (.iload 6) 2))) (zH pc 137 (zH pc 136 (zQ pc 133 (.ifCond .eq 71) 3) (zQ pc 136 (.aload_n 0) 1)) (zH pc 139 (zQ pc 137 (.iload 7) 2) (zQ pc 139 (.invokevirtual 380) 3)))) (zH pc 150 (zH pc 145 (zH pc 144 (zQ pc 142 (.istore 8) 2) (zQ pc 144 (.aload_n 0) 1)) (zH pc 148 (zQ pc 145 (.getfield 107) 3) (zQ pc 148 (.iload 7) 2))) (zH pc 154 (zH pc 151 (zQ pc 150 .iaload 1) (zQ pc 151 (.ifCond .lt 20) 3)) (zH pc 155 (zQ pc 154 (.aload_n 0) 1) (zQ pc 155 (.getfield 168) 3)))))) (zH pc 186 (zH pc 173 (zH pc 165 (zH pc 162 (zH pc 159 (zQ pc 158 (.aload_n 0) 1) (zQ pc 159 (.getfield 107) 3)) (zH pc 164 (zQ pc 162 (.iload 7) 2) (zQ pc 164 .iaload 1))) (zH pc 168 (zH pc 167 (zQ pc 165 (.iload 8) 2) (zQ pc 167 .iastore 1)) (zH pc 171 (zQ pc 168 (.goto 30) 3) (zQ pc 171 (.iload 8) 2)))) (zH pc 181 (zH pc 177 (zH pc 176 (zQ pc 173 (.ifCond .eq 25) 3) (zQ pc 176 (.iload_n 3) 1)) (zH pc 178 (zQ pc 177 (.aload_n 0) 1) (zQ pc 178 (.getfield 110) 3))) (zH pc 184 (zH pc 183 (zQ pc 181 (.iload 7) 2) (zQ pc 183 .iaload 1)) (zH pc 185 (zQ pc 184 .iadd 1) (zQ pc 185 (.istore_n 3) 1))))) (zH pc 201 (zH pc 193 (zH pc 190 (zH pc 187 (zQ pc 186 (.aload_n 0) 1) (zQ pc 187 (.getfield 113) 3)) (zH pc 192 (zQ pc 190 (.iload 7) 2) (zQ pc 192 .iaload 1))) (zH pc 196 (zH pc 195 (zQ pc 193 (.istore 5) 2) (zQ pc 195 (.iconst 0) 1)) (zH pc 198 (zQ pc 196 (.istore 6) 2) (zQ pc 198 (.iinc 7 1) 3)))) (zH pc 209 (zH pc 206 (zH pc 204 (zQ pc 201 (.goto (-81)) 3) (zQ pc 204 (.iload 4) 2)) (zH pc 208 (zQ pc 206 (.iload 5) 2) (zQ pc 208 .iadd 1))) (zH pc 214 (zH pc 211 (zQ pc 209 (.istore 4) 2) (zQ pc 211 (.goto (-195)) 3)) (zH pc 215 (zQ pc 214 (.iload_n 3) 1) (zQ pc 215 .ireturn 1)))))))) else none
def zc_180 (pc : Nat) : Option (Instr × Nat) := bif Nat.blt pc 43 then (zH pc 21 (zH pc 9 (zH pc 3 (zH pc 1 (zQ pc 0 (.iconst 0) 1) (zH pc 2 (zQ pc 1 (.istore_n 1) 1) (zQ pc 2 (.iload_n 1) 1))) (zH pc 5 (zQ pc 3 (.bipush 116) 2) (zH pc 8 (zQ pc 5 (.if_icmp .ge 16) 3) (zQ pc 8 (.aload_n 0) 1)))) (zH pc 14 (zH pc 12 (zQ pc 9 (.getfield 74) 3) (zH pc 13 (zQ pc 12 (.iload_n 1) 1) (zQ pc 13 (.iconst 0) 1))) (zH pc 15 (zQ pc 14 .bastore 1) (zH pc 18 (zQ pc 15 (.iinc 1 1) 3) (zQ pc 18 (.goto (-16)) 3))))) (zH pc 30 (zH pc 24 (zH pc 22 (zQ pc 21 (.iconst 0) 1) (zH pc 23 (zQ pc 22 (.istore_n 1) 1) (zQ pc 23 (.iload_n 1) 1))) (zH pc 26 (zQ pc 24 (.bipush 40) 2) (zH pc 29 (zQ pc 26 (.if_icmp .ge 16) 3) (zQ pc 29 (.aload_n 0) 1)))) (zH pc 35 (zH pc 33 (zQ pc 30 (.getfield 77) 3) (zH pc 34 (zQ pc 33 (.iload_n 1) 1) (zQ pc 34 (.iconst 0) 1))) (zH pc 39 (zH pc 36 (zQ pc 35 .bastore 1) (zQ pc 36 (.iinc 1 1) 3)) (zH pc 42 (zQ pc 39 (.goto (-16)) 3) (zQ pc 42 .return_ 1)))))) else none
def zc_181 (pc : Nat) : Option (Instr × Nat) := bif Nat.blt pc 29 then (zH pc 13 (zH pc 4 (zH pc 2 (zH pc 1 (zQ pc 0 (.iload_n 0) 1) (zQ pc 1 (.istore_n 3) 1)) (zH pc 3 (zQ pc 2 (.iload_n 2) 1) (zQ pc 3 (.iconst 1) 1))) (zH pc 7 (zH pc 5 (zQ pc 4 .iadd 1) (zQ pc 5 (.istore 4) 2)) (zH pc 9 (zQ pc 7 (.iload 4) 2) (zH pc 10 (zQ pc 9 (.iload_n 1) 1) (zQ pc 10 (.if_icmp .ge 14) 3))))) (zH pc 21 (zH pc 16 (zH pc 14 (zQ pc 13 (.iload_n 3) 1) (zQ pc 14 (.bipush 10) 2)) (zH pc 17 (zQ pc 16 .idiv 1) (zH pc 18 (zQ pc 17 (.istore_n 3) 1) (zQ pc 18 (.iinc 4 1) 3)))) (zH pc 25 (zH pc 24 (zQ pc 21 (.goto (-14)) 3) (zQ pc 24 (.iload_n 3) 1)) (zH pc 27 (zQ pc 25 (.bipush 10) 2) (zH pc 28 (zQ pc 27 .irem 1) (zQ pc 28 .ireturn 1)))))) else none
def zc_182 (pc : Nat) : Option (Instr × Nat) := bif Nat.blt pc 28 then (zH pc 15 (zH pc 6 (zH pc 4 (zH pc 1 (zQ pc 0 (.aload_n 0) 1) (zQ pc 1 (.getfield 74) 3)) (zH pc 5 (zQ pc 4 (.iload_n 1) 1) (zQ pc 5 (.iconst 1) 1))) (zH pc 8 (zH pc 7 (zQ pc 6 .bastore 1) (zQ pc 7 (.aload_n 0) 1)) (zH pc 11 (zQ pc 8 (.getfield 171) 3) (zH pc 12 (zQ pc 11 (.aload_n 0) 1) (zQ pc 12 (.getfield 383) 3))))) (zH pc 19 (zH pc 17 (zH pc 16 (zQ pc 15 (.iload_n 1) 1) (zQ pc 16 .iastore 1)) (zH pc 18 (zQ pc 17 (.aload_n 0) 1) (zQ pc 18 .dup 1))) (zH pc 23 (zH pc 22 (zQ pc 19 (.getfield 383) 3) (zQ pc 22 (.iconst 1) 1)) (zH pc 24 (zQ pc 23 .iadd 1) (zH pc 27 (zQ pc 24 (.putfield 383) 3) (zQ pc 27 .return_ 1)))))) else none
def zc_183 (pc : Nat) : Option (Instr × Nat) := bif Nat.blt pc 287 then (zH pc 135 (zH pc 65 (zH pc 32 (zH pc 15 (zH pc 6 (zH pc 2 (zH pc 1 (zQ pc 0 (.aload_n 0) 1) (zQ pc 1 (.iconst 0) 1)) (zH pc 5 (zQ pc 2 (.putfield 383) 3) (zQ pc 5 (.aload_n 0) 1))) (zH pc 10 (zH pc 7 (zQ pc 6 (.iload_n 1) 1) (zQ pc 7 (.invokevirtual 386) 3)) (zH pc 13 (zQ pc 10 (.ifCond .ne 5) 3) (zH pc 14 (zQ pc 13 (.iconst (-1)) 1) (zQ pc 14 .ireturn 1))))) (zH pc 21 (zH pc 17 (zH pc 16 (zQ pc 15 (.aload_n 0) 1) (zQ pc 16 (.aload_n 0) 1)) (zH pc 20 (zQ pc 17 (.getfield 35) 3) (zQ pc 20 (.iload_n 1) 1))) (zH pc 25 (zH pc 22 (zQ pc 21 .iaload 1) (zQ pc 22 (.invokevirtual 244) 3)) (zH pc 27 (zQ pc 25 (.istore 4) 2) (zH pc 29 (zQ pc 27 (.iload 4) 2) (zQ pc 29 (.ifCond .ge 6) 3)))))) (zH pc 45 (zH pc 39 (zH pc 35 (zH pc 34 (zQ pc 32 (.bipush 7) 2) (zQ pc 34 .ireturn 1)) (zH pc 36 (zQ pc 35 (.aload_n 0) 1) (zQ pc 36 (.getfield 77) 3))) (zH pc 41 (zH pc 40 (zQ pc 39 (.iload_n 1) 1) (zQ pc 40 (.iconst 1) 1)) (zH pc 42 (zQ pc 41 .bastore 1) (zH pc 43 (zQ pc 42 (.aload_n 0) 1) (zQ pc 43 (.iload 4) 2))))) (zH pc 55 (zH pc 49 (zH pc 48 (zQ pc 45 (.invokevirtual 389) 3) (zQ pc 48 (.aload_n 0) 1)) (zH pc 52 (zQ pc 49 (.getfield 32) 3) (zH pc 54 (zQ pc 52 (.iload 4) 2) (zQ pc 54 .baload 1)))) (zH pc 59 (zH pc 58 (zQ pc 55 (.ifCond .eq 7) 3) (zQ pc 58 (.iconst 2) 1)) (zH pc 62 (zQ pc 59 (.goto 4) 3) (zH pc 63 (zQ pc 62 (.iconst 0) 1) (zQ pc 63 (.istore 5) 2))))))) (zH pc 99 (zH pc 80 (zH pc 71 (zH pc 68 (zH pc 66 (zQ pc 65 (.iconst 0) 1) (zQ pc 66 (.istore 6) 2)) (zH pc 69 (zQ pc 68 (.iconst 0) 1) (zQ pc 69 (.istore 7) 2))) (zH pc 74 (zH pc 72 (zQ pc 71 (.iconst 0) 1) (zQ pc 72 (.istore 8) 2)) (zH pc 76 (zQ pc 74 (.iload 8) 2) (zH pc 77 (zQ pc 76 (.iload_n 3) 1) (zQ pc 77 (.if_icmp .ge 207) 3))))) (zH pc 88 (zH pc 83 (zH pc 82 (zQ pc 80 (.iload 5) 2) (zQ pc 82 (.iconst 2) 1)) (zH pc 86 (zQ pc 83 (.if_icmp .ge 201) 3) (zH pc 87 (zQ pc 86 (.iload_n 2) 1) (zQ pc 87 (.iload_n 3) 1)))) (zH pc 93 (zH pc 90 (zQ pc 88 (.iload 8) 2) (zQ pc 90 (.invokestatic 392) 3)) (zH pc 95 (zQ pc 93 (.istore 9) 2) (zH pc 96 (zQ pc 95 (.aload_n 0) 1) (zQ pc 96 (.getfield 171) 3)))))) (zH pc 114 (zH pc 105 (zH pc 103 (zH pc 100 (zQ pc 99 (.aload_n 0) 1) (zQ pc 100 (.getfield 383) 3)) (zH pc 104 (zQ pc 103 (.iconst 1) 1) (zQ pc 104 .isub 1))) (zH pc 108 (zH pc 106 (zQ pc 105 .iaload 1) (zQ pc 106 (.istore 10) 2)) (zH pc 109 (zQ pc 108 (.aload_n 0) 1) (zH pc 111 (zQ pc 109 (.iload 10) 2) (zQ pc 111 (.invokevirtual 255) 3))))) (zH pc 125 (zH pc 118 (zH pc 117 (zQ pc 114 (.ifCond .ne 65) 3) (zQ pc 117 (.aload_n 0) 1)) (zH pc 120 (zQ pc 118 (.iload 10) 2) (zH pc 122 (zQ pc 120 (.iload 9) 2) (zQ pc 122 (.invokevirtual 258) 3)))) (zH pc 129 (zH pc 127 (zQ pc 125 (.istore 11) 2) (zQ pc 127 (.iload 11) 2)) (zH pc 132 (zQ pc 129 (.ifCond .lt 9) 3) (zH pc 133 (zQ pc 132 (.aload_n 0) 1) (zQ pc 133 (.iload 11) 2)))))))) (zH pc 214 (zH pc 174 (zH pc 155 (zH pc 144 (zH pc 140 (zH pc 138 (zQ pc 135 (.invokevirtual 389) 3) (zQ pc 138 (.iload 11) 2)) (zH pc 141 (zQ pc 140 (.iconst (-1)) 1) (zQ pc 141 (.if_icmp .ne 7) 3))) (zH pc 148 (zH pc 145 (zQ pc 144 (.iconst 3) 1) (zQ pc 145 (.goto 29) 3)) (zH pc 150 (zQ pc 148 (.iload 11) 2) (zH pc 152 (zQ pc 150 (.bipush (-2)) 2) (zQ pc 152 (.if_icmp .ne 7) 3))))) (zH pc 165 (zH pc 159 (zH pc 156 (zQ pc 155 (.iconst 4) 1) (zQ pc 156 (.goto 18) 3)) (zH pc 160 (zQ pc 159 (.aload_n 0) 1) (zH pc 163 (zQ pc 160 (.getfield 32) 3) (zQ pc 163 (.iload 11) 2)))) (zH pc 169 (zH pc 166 (zQ pc 165 .baload 1) (zQ pc 166 (.ifCond .eq 7) 3)) (zH pc 170 (zQ pc 169 (.iconst 2) 1) (zH pc 173 (zQ pc 170 (.goto 4) 3) (zQ pc 173 (.iconst 1) 1)))))) (zH pc 193 (zH pc 183 (zH pc 179 (zH pc 176 (zQ pc 174 (.istore 5) 2) (zQ pc 176 (.goto 102) 3)) (zH pc 182 (zQ pc 179 (.iinc 6 1) 3) (zQ pc 182 (.iconst 1) 1))) (zH pc 187 (zH pc 185 (zQ pc 183 (.istore 5) 2) (zQ pc 185 (.iload 6) 2)) (zH pc 188 (zQ pc 187 (.iconst 1) 1) (zH pc 191 (zQ pc 188 (.if_icmp .ne 7) 3) (zQ pc 191 (.iload 9) 2))))) (zH pc 204 (zH pc 197 (zH pc 195 (zQ pc 193 (.istore 7) 2) (zQ pc 195 (.iload 10) 2)) (zH pc 199 (zQ pc 197 (.bipush 100) 2) (zH pc 202 (zQ pc 199 (.if_icmp .lt 15) 3) (zQ pc 202 (.iload 6) 2)))) (zH pc 208 (zH pc 205 (zQ pc 204 (.iconst 3) 1) (zQ pc 205 (.if_icmp .ne 73) 3)) (zH pc 209 (zQ pc 208 (.iconst 5) 1) (zH pc 211 (zQ pc 209 (.istore 5) 2) (zQ pc 211 (.goto 67) 3))))))) (zH pc 249 (zH pc 230 (zH pc 221 (zH pc 217 (zH pc 216 (zQ pc 214 (.iload 6) 2) (zQ pc 216 (.iconst 2) 1)) (zH pc 220 (zQ pc 217 (.if_icmp .ne 61) 3) (zQ pc 220 (.aload_n 0) 1))) (zH pc 225 (zH pc 223 (zQ pc 221 (.iload 10) 2) (zQ pc 223 (.bipush 8) 2)) (zH pc 226 (zQ pc 225 .idiv 1) (zH pc 228 (zQ pc 226 (.bipush 10) 2) (zQ pc 228 (.iload 7) 2))))) (zH pc 239 (zH pc 233 (zH pc 231 (zQ pc 230 .imul 1) (zQ pc 231 (.iload 9) 2)) (zH pc 234 (zQ pc 233 .iadd 1) (zH pc 237 (zQ pc 234 (.invokevirtual 234) 3) (zQ pc 237 (.istore 11) 2)))) (zH pc 244 (zH pc 241 (zQ pc 239 (.iload 11) 2) (zQ pc 241 (.ifCond .ge 7) 3)) (zH pc 245 (zQ pc 244 (.iconst 4) 1) (zH pc 248 (zQ pc 245 (.goto 17) 3) (zQ pc 248 (.aload_n 0) 1)))))) (zH pc 267 (zH pc 258 (zH pc 254 (zH pc 251 (zQ pc 249 (.iload 11) 2) (zQ pc 251 (.invokevirtual 386) 3)) (zH pc 257 (zQ pc 254 (.ifCond .eq 7) 3) (zQ pc 257 (.iconst 5) 1))) (zH pc 262 (zH pc 261 (zQ pc 258 (.goto 4) 3) (zQ pc 261 (.iconst 3) 1)) (zH pc 264 (zQ pc 262 (.istore 5) 2) (zH pc 266 (zQ pc 264 (.iload 5) 2) (zQ pc 266 (.iconst 5) 1))))) (zH pc 277 (zH pc 271 (zH pc 270 (zQ pc 267 (.if_icmp .ne 11) 3) (zQ pc 270 (.aload_n 0) 1)) (zH pc 274 (zQ pc 271 (.getfield 77) 3) (zH pc 276 (zQ pc 274 (.iload 11) 2) (zQ pc 276 (.iconst 1) 1)))) (zH pc 281 (zH pc 278 (zQ pc 277 .bastore 1) (zQ pc 278 (.iinc 8 1) 3)) (zH pc 284 (zQ pc 281 (.goto (-207)) 3) (zH pc 286 (zQ pc 284 (.iload 5) 2) (zQ pc 286 .ireturn 1))))))))) else none
def zc_184 (pc : Nat) : Option (Instr × Nat) := bif Nat.blt pc 43 then (zH pc 19 (zH pc 9 (zH pc 2 (zH pc 1 (zQ pc 0 (.aload_n 0) 1) (zQ pc 1 (.iload_n 1) 1)) (zH pc 5 (zQ pc 2 (.invokevirtual 241) 3) (zH pc 8 (zQ pc 5 (.ifCond .eq 36) 3) (zQ pc 8 (.aload_n 0) 1)))) (zH pc 14 (zH pc 12 (zQ pc 9 (.getfield 44) 3) (zH pc 13 (zQ pc 12 (.iload_n 1) 1) (zQ pc 13 .iaload 1))) (zH pc 17 (zQ pc 14 (.ifCond .ne 27) 3) (zH pc 18 (zQ pc 17 (.iload_n 2) 1) (zQ pc 18 (.iconst 0) 1))))) (zH pc 31 (zH pc 28 (zH pc 22 (zQ pc 19 (.ldc_w 396) 3) (zH pc 25 (zQ pc 22 (.invokestatic 212) 3) (zQ pc 25 (.ifCond .eq 16) 3))) (zH pc 29 (zQ pc 28 (.iload_n 3) 1) (zH pc 30 (zQ pc 29 (.iconst 1) 1) (zQ pc 30 (.iconst 5) 1)))) (zH pc 38 (zH pc 34 (zQ pc 31 (.invokestatic 212) 3) (zH pc 37 (zQ pc 34 (.ifCond .eq 7) 3) (zQ pc 37 (.iconst 1) 1))) (zH pc 41 (zQ pc 38 (.goto 4) 3) (zH pc 42 (zQ pc 41 (.iconst 0) 1) (zQ pc 42 .ireturn 1)))))) else none
def zc_185 (pc : Nat) : Option (Instr × Nat) := bif Nat.blt pc 37 then (zH pc 17 (zH pc 7 (zH pc 2 (zH pc 1 (zQ pc 0 (.aload_n 0) 1) (zQ pc 1 (.iconst 0) 1)) (zH pc 5 (zQ pc 2 (.putfield 201) 3) (zH pc 6 (zQ pc 5 (.aload_n 0) 1) (zQ pc 6 (.iload_n 1) 1)))) (zH pc 12 (zH pc 8 (zQ pc 7 (.iload_n 2) 1) (zH pc 9 (zQ pc 8 (.iload_n 3) 1) (zQ pc 9 (.invokevirtual 397) 3))) (zH pc 15 (zQ pc 12 (.ifCond .ne 5) 3) (zH pc 16 (zQ pc 15 (.iconst (-1)) 1) (zQ pc 16 .ireturn 1))))) (zH pc 25 (zH pc 22 (zH pc 18 (zQ pc 17 (.aload_n 0) 1) (zH pc 21 (zQ pc 18 (.invokevirtual 400) 3) (zQ pc 21 (.aload_n 0) 1))) (zH pc 23 (zQ pc 22 (.iload_n 1) 1) (zH pc 24 (zQ pc 23 (.iload_n 2) 1) (zQ pc 24 (.iload_n 3) 1)))) (zH pc 31 (zH pc 28 (zQ pc 25 (.invokevirtual 403) 3) (zH pc 30 (zQ pc 28 (.istore 4) 2) (zQ pc 30 (.aload_n 0) 1))) (zH pc 34 (zQ pc 31 (.invokevirtual 400) 3) (zH pc 36 (zQ pc 34 (.iload 4) 2) (zQ pc 36 .ireturn 1)))))) else none
def zc_186 (pc : Nat) : Option (Instr × Nat) := bif Nat.blt pc 144 then (zH pc 71 (zH pc 36 (zH pc 16 (zH pc 7 (zH pc 2 (zH pc 1 (zQ pc 0 (.aload_n 0) 1) (zQ pc 1 (.iconst 0) 1)) (zH pc 5 (zQ pc 2 (.putfield 201) 3) (zH pc 6 (zQ pc 5 (.aload_n 0) 1) (zQ pc 6 (.iload_n 1) 1)))) (zH pc 9 (zH pc 8 (zQ pc 7 (.iload_n 2) 1) (zQ pc 8 (.iload_n 3) 1)) (zH pc 12 (zQ pc 9 (.invokevirtual 397) 3) (zH pc 15 (zQ pc 12 (.ifCond .eq 22) 3) (zQ pc 15 (.aload_n 0) 1))))) (zH pc 28 (zH pc 20 (zH pc 18 (zQ pc 16 (.iload 4) 2) (zQ pc 18 (.iload 5) 2)) (zH pc 22 (zQ pc 20 (.iload 6) 2) (zH pc 25 (zQ pc 22 (.invokevirtual 397) 3) (zQ pc 25 (.ifCond .eq 9) 3)))) (zH pc 31 (zH pc 29 (zQ pc 28 (.iload_n 1) 1) (zQ pc 29 (.iload 4) 2)) (zH pc 34 (zQ pc 31 (.if_icmp .ne 5) 3) (zH pc 35 (zQ pc 34 (.iconst (-1)) 1) (zQ pc 35 .ireturn 1)))))) (zH pc 52 (zH pc 43 (zH pc 40 (zH pc 37 (zQ pc 36 (.aload_n 0) 1) (zQ pc 37 (.invokevirtual 400) 3)) (zH pc 41 (zQ pc 40 (.aload_n 0) 1) (zH pc 42 (zQ pc 41 (.iload_n 1) 1) (zQ pc 42 (.iload_n 2) 1)))) (zH pc 47 (zH pc 44 (zQ pc 43 (.iload_n 3) 1) (zQ pc 44 (.invokevirtual 403) 3)) (zH pc 48 (zQ pc 47 (.iconst 5) 1) (zH pc 51 (zQ pc 48 (.if_icmp .ne 7) 3) (zQ pc 51 (.iconst 1) 1))))) (zH pc 61 (zH pc 56 (zH pc 55 (zQ pc 52 (.goto 4) 3) (zQ pc 55 (.iconst 0) 1)) (zH pc 58 (zQ pc 56 (.istore 7) 2) (zH pc 59 (zQ pc 58 (.aload_n 0) 1) (zQ pc 59 (.iload 4) 2)))) (zH pc 65 (zH pc 63 (zQ pc 61 (.iload 5) 2) (zQ pc 63 (.iload 6) 2)) (zH pc 68 (zQ pc 65 (.invokevirtual 403) 3) (zH pc 70 (zQ pc 68 (.istore 8) 2) (zQ pc 70 (.aload_n 0) 1))))))) (zH pc 109 (zH pc 93 (zH pc 81 (zH pc 75 (zH pc 74 (zQ pc 71 (.invokevirtual 400) 3) (zQ pc 74 (.aload_n 0) 1)) (zH pc 77 (zQ pc 75 (.iload 4) 2) (zH pc 79 (zQ pc 77 (.iload 5) 2) (zQ pc 79 (.iload 6) 2)))) (zH pc 85 (zH pc 84 (zQ pc 81 (.invokevirtual 403) 3) (zQ pc 84 (.iconst 5) 1)) (zH pc 88 (zQ pc 85 (.if_icmp .ne 12) 3) (zH pc 90 (zQ pc 88 (.iload 7) 2) (zQ pc 90 (.ifCond .eq 7) 3))))) (zH pc 101 (zH pc 97 (zH pc 94 (zQ pc 93 (.iconst 1) 1) (zQ pc 94 (.goto 4) 3)) (zH pc 98 (zQ pc 97 (.iconst 0) 1) (zH pc 100 (zQ pc 98 (.istore 7) 2) (zQ pc 100 (.aload_n 0) 1)))) (zH pc 103 (zH pc 102 (zQ pc 101 (.iload_n 1) 1) (zQ pc 102 (.iload_n 2) 1)) (zH pc 104 (zQ pc 103 (.iload_n 3) 1) (zH pc 107 (zQ pc 104 (.invokevirtual 403) 3) (zQ pc 107 (.istore 9) 2)))))) (zH pc 127 (zH pc 119 (zH pc 113 (zH pc 110 (zQ pc 109 (.aload_n 0) 1) (zQ pc 110 (.invokevirtual 400) 3)) (zH pc 115 (zQ pc 113 (.iload 7) 2) (zH pc 118 (zQ pc 115 (.ifCond .ne 5) 3) (zQ pc 118 (.iconst (-1)) 1)))) (zH pc 122 (zH pc 120 (zQ pc 119 .ireturn 1) (zQ pc 120 (.iload 8) 2)) (zH pc 123 (zQ pc 122 (.iconst 5) 1) (zH pc 126 (zQ pc 123 (.if_icmp .ne 7) 3) (zQ pc 126 (.iconst 0) 1))))) (zH pc 137 (zH pc 131 (zH pc 130 (zQ pc 127 (.goto 4) 3) (zQ pc 130 (.iconst 1) 1)) (zH pc 133 (zQ pc 131 (.iload 9) 2) (zH pc 134 (zQ pc 133 (.iconst 5) 1) (zQ pc 134 (.if_icmp .ne 7) 3)))) (zH pc 141 (zH pc 138 (zQ pc 137 (.iconst 0) 1) (zQ pc 138 (.goto 4) 3)) (zH pc 142 (zQ pc 141 (.iconst 2) 1) (zH pc 143 (zQ pc 142 .iadd 1) (zQ pc 143 .ireturn 1)))))))) else none
def zc_187 (pc : Nat) : Option (Instr × Nat) := bif Nat.blt pc 56 then (zH pc 28 (zH pc 14 (zH pc 6 (zH pc 4 (zH pc 1 (zQ pc 0 (.aload_n 0) 1) (zQ pc 1 (.getfield 25) 3)) (zH pc 5 (zQ pc 4 (.iload_n 1) 1) (zQ pc 5 .iaload 1))) (zH pc 10 (zH pc 9 (zQ pc 6 (.ifCond .lt 17) 3) (zQ pc 9 (.iload_n 2) 1)) (zH pc 13 (zQ pc 10 (.ifCond .lt 44) 3) (zQ pc 13 (.aload_n 0) 1)))) (zH pc 20 (zH pc 18 (zH pc 17 (zQ pc 14 (.getfield 25) 3) (zQ pc 17 (.iload_n 1) 1)) (zH pc 19 (zQ pc 18 .iaload 1) (zQ pc 19 (.iload_n 2) 1))) (zH pc 24 (zH pc 23 (zQ pc 20 (.if_icmp .ne 34) 3) (zQ pc 23 (.aload_n 0) 1)) (zH pc 27 (zQ pc 24 (.getfield 28) 3) (zQ pc 27 (.iload_n 1) 1))))) (zH pc 42 (zH pc 36 (zH pc 32 (zH pc 29 (zQ pc 28 .baload 1) (zQ pc 29 (.ifCond .ne 25) 3)) (zH pc 33 (zQ pc 32 (.aload_n 0) 1) (zQ pc 33 (.getfield 32) 3))) (zH pc 38 (zH pc 37 (zQ pc 36 (.iload_n 1) 1) (zQ pc 37 .baload 1)) (zH pc 41 (zQ pc 38 (.ifCond .ne 16) 3) (zQ pc 41 (.aload_n 0) 1)))) (zH pc 50 (zH pc 46 (zH pc 45 (zQ pc 42 (.getfield 74) 3) (zQ pc 45 (.iload_n 1) 1)) (zH pc 47 (zQ pc 46 .baload 1) (zQ pc 47 (.ifCond .ne 7) 3))) (zH pc 54 (zH pc 51 (zQ pc 50 (.iconst 1) 1) (zQ pc 51 (.goto 4) 3)) (zH pc 55 (zQ pc 54 (.iconst 0) 1) (zQ pc 55 .ireturn 1)))))) else none
def zc_188 (pc : Nat) : Option (Instr × Nat) := bif Nat.blt pc 308 then (zH pc 145 (zH pc 68 (zH pc 35 (zH pc 15 (zH pc 8 (zH pc 2 (zH pc 1 (zQ pc 0 (.aload_n 0) 1) (zQ pc 1 (.iconst 0) 1)) (zH pc 5 (zQ pc 2 (.putfield 406) 3) (zH pc 7 (zQ pc 5 (.bipush 8) 2) (zQ pc 7 (.aload_n 0) 1)))) (zH pc 12 (zH pc 11 (zQ pc 8 (.getfield 35) 3) (zQ pc 11 (.iload_n 1) 1)) (zH pc 13 (zQ pc 12 .iaload 1) (zH pc 14 (zQ pc 13 .imul 1) (zQ pc 14 (.aload_n 0) 1))))) (zH pc 24 (zH pc 20 (zH pc 18 (zQ pc 15 (.getfield 174) 3) (zQ pc 18 (.iload 4) 2)) (zH pc 21 (zQ pc 20 .iaload 1) (zH pc 22 (zQ pc 21 .iadd 1) (zQ pc 22 (.istore 7) 2)))) (zH pc 27 (zH pc 25 (zQ pc 24 (.aload_n 0) 1) (zQ pc 25 (.iload 7) 2)) (zH pc 29 (zQ pc 27 (.iload 5) 2) (zH pc 32 (zQ pc 29 (.invokevirtual 409) 3) (zQ pc 32 (.ifCond .ne 5) 3)))))) (zH pc 50 (zH pc 41 (zH pc 37 (zH pc 36 (zQ pc 35 (.iconst 0) 1) (zQ pc 36 .ireturn 1)) (zH pc 38 (zQ pc 37 (.iconst 1) 1) (zH pc 40 (zQ pc 38 (.istore 8) 2) (zQ pc 40 (.aload_n 0) 1)))) (zH pc 46 (zH pc 43 (zQ pc 41 (.iload 7) 2) (zQ pc 43 (.invokevirtual 413) 3)) (zH pc 47 (zQ pc 46 (.iconst 0) 1) (zH pc 49 (zQ pc 47 (.istore 9) 2) (zQ pc 49 (.iconst 0) 1))))) (zH pc 58 (zH pc 53 (zH pc 52 (zQ pc 50 (.istore 10) 2) (zQ pc 52 (.iconst 0) 1)) (zH pc 55 (zQ pc 53 (.istore 11) 2) (zH pc 57 (zQ pc 55 (.iload 11) 2) (zQ pc 57 (.iload_n 3) 1)))) (zH pc 62 (zH pc 61 (zQ pc 58 (.if_icmp .ge 245) 3) (zQ pc 61 (.iload_n 2) 1)) (zH pc 63 (zQ pc 62 (.iload_n 3) 1) (zH pc 65 (zQ pc 63 (.iload 11) 2) (zQ pc 65 (.invokestatic 392) 3))))))) (zH pc 104 (zH pc 88 (zH pc 79 (zH pc 71 (zH pc 70 (zQ pc 68 (.istore 12) 2) (zQ pc 70 (.aload_n 0) 1)) (zH pc 73 (zQ pc 71 (.iload 7) 2) (zH pc 76 (zQ pc 73 (.invokevirtual 255) 3) (zQ pc 76 (.ifCond .ne 81) 3)))) (zH pc 83 (zH pc 80 (zQ pc 79 (.aload_n 0) 1) (zQ pc 80 (.getfield 19) 3)) (zH pc 85 (zQ pc 83 (.iload 7) 2) (zH pc 87 (zQ pc 85 (.bipush 8) 2) (zQ pc 87 .idiv 1))))) (zH pc 97 (zH pc 92 (zH pc 90 (zQ pc 88 (.iload 7) 2) (zQ pc 90 (.bipush 8) 2)) (zH pc 93 (zQ pc 92 .irem 1) (zH pc 94 (zQ pc 93 (.aload_n 0) 1) (zQ pc 94 (.getfield 16) 3)))) (zH pc 101 (zH pc 99 (zQ pc 97 (.iload 7) 2) (zQ pc 99 (.bipush 8) 2)) (zH pc 102 (zQ pc 101 .idiv 1) (zH pc 103 (zQ pc 102 .iaload 1) (zQ pc 103 .irem 1)))))) (zH pc 122 (zH pc 114 (zH pc 107 (zH pc 106 (zQ pc 104 (.iload 12) 2) (zQ pc 106 (.aload_n 0) 1)) (zH pc 110 (zQ pc 107 (.getfield 174) 3) (zH pc 112 (zQ pc 110 (.iload 4) 2) (zQ pc 112 (.iload 8) 2)))) (zH pc 116 (zH pc 115 (zQ pc 114 .iadd 1) (zQ pc 115 .iaload 1)) (zH pc 119 (zQ pc 116 (.invokestatic 230) 3) (zH pc 120 (zQ pc 119 .iaload 1) (zQ pc 120 (.istore 13) 2))))) (zH pc 132 (zH pc 127 (zH pc 124 (zQ pc 122 (.iload 13) 2) (zQ pc 124 (.ifCond .lt 14) 3)) (zH pc 128 (zQ pc 127 (.aload_n 0) 1) (zH pc 130 (zQ pc 128 (.iload 13) 2) (zQ pc 130 (.iload 5) 2)))) (zH pc 140 (zH pc 135 (zQ pc 132 (.invokevirtual 409) 3) (zH pc 138 (zQ pc 135 (.ifCond .ne 6) 3) (zQ pc 138 (.iload 8) 2))) (zH pc 141 (zQ pc 140 .ireturn 1) (zH pc 144 (zQ pc 141 (.iinc 8 1) 3) (zQ pc 144 (.aload_n 0) 1)))))))) (zH pc 227 (zH pc 190 (zH pc 168 (zH pc 157 (zH pc 150 (zH pc 147 (zQ pc 145 (.iload 13) 2) (zQ pc 147 (.invokevirtual 413) 3)) (zH pc 152 (zQ pc 150 (.iload 13) 2) (zH pc 154 (zQ pc 152 (.istore 7) 2) (zQ pc 154 (.goto 143) 3)))) (zH pc 162 (zH pc 160 (zQ pc 157 (.iinc 9 1) 3) (zQ pc 160 (.iload 9) 2)) (zH pc 163 (zQ pc 162 (.iconst 1) 1) (zH pc 166 (zQ pc 163 (.if_icmp .ne 7) 3) (zQ pc 166 (.iload 12) 2))))) (zH pc 179 (zH pc 172 (zH pc 170 (zQ pc 168 (.istore 10) 2) (zQ pc 170 (.iload 7) 2)) (zH pc 174 (zQ pc 172 (.bipush 100) 2) (zH pc 177 (zQ pc 174 (.if_icmp .lt 32) 3) (zQ pc 177 (.iload 9) 2)))) (zH pc 183 (zH pc 180 (zQ pc 179 (.iconst 3) 1) (zQ pc 180 (.if_icmp .ne 26) 3)) (zH pc 185 (zQ pc 183 (.iload 6) 2) (zH pc 187 (zQ pc 185 (.bipush (-2)) 2) (zQ pc 187 (.if_icmp .eq 10) 3)))))) (zH pc 208 (zH pc 201 (zH pc 194 (zH pc 192 (zQ pc 190 (.iload 6) 2) (zQ pc 192 (.bipush (-3)) 2)) (zH pc 197 (zQ pc 194 (.if_icmp .ne 7) 3) (zH pc 198 (zQ pc 197 (.iconst (-1)) 1) (zQ pc 198 (.goto 7) 3)))) (zH pc 204 (zH pc 203 (zQ pc 201 (.iload 8) 2) (zQ pc 203 (.iconst 1) 1)) (zH pc 205 (zQ pc 204 .isub 1) (zH pc 206 (zQ pc 205 .ireturn 1) (zQ pc 206 (.iload 7) 2))))) (zH pc 219 (zH pc 213 (zH pc 210 (zQ pc 208 (.bipush 100) 2) (zQ pc 210 (.if_icmp .ge 87) 3)) (zH pc 215 (zQ pc 213 (.iload 9) 2) (zH pc 216 (zQ pc 215 (.iconst 2) 1) (zQ pc 216 (.if_icmp .ne 81) 3)))) (zH pc 222 (zH pc 220 (zQ pc 219 (.aload_n 0) 1) (zQ pc 220 (.iload 7) 2)) (zH pc 224 (zQ pc 222 (.bipush 8) 2) (zH pc 225 (zQ pc 224 .idiv 1) (zQ pc 225 (.bipush 10) 2))))))) (zH pc 269 (zH pc 247 (zH pc 236 (zH pc 230 (zH pc 229 (zQ pc 227 (.iload 10) 2) (zQ pc 229 .imul 1)) (zH pc 232 (zQ pc 230 (.iload 12) 2) (zH pc 233 (zQ pc 232 .iadd 1) (zQ pc 233 (.invokevirtual 234) 3)))) (zH pc 240 (zH pc 238 (zQ pc 236 (.istore 13) 2) (zQ pc 238 (.iload 13) 2)) (zH pc 243 (zQ pc 240 (.ifCond .lt 40) 3) (zH pc 245 (zQ pc 243 (.iload 6) 2) (zQ pc 245 (.bipush (-2)) 2))))) (zH pc 257 (zH pc 251 (zH pc 250 (zQ pc 247 (.if_icmp .ne 22) 3) (zQ pc 250 (.aload_n 0) 1)) (zH pc 254 (zQ pc 251 (.getfield 44) 3) (zH pc 256 (zQ pc 254 (.iload 13) 2) (zQ pc 256 .iaload 1)))) (zH pc 262 (zH pc 260 (zQ pc 257 (.ifCond .ne 23) 3) (zQ pc 260 (.iload 13) 2)) (zH pc 263 (zQ pc 262 (.iload_n 1) 1) (zH pc 266 (zQ pc 263 (.if_icmp .eq 17) 3) (zQ pc 266 (.goto 10) 3)))))) (zH pc 289 (zH pc 280 (zH pc 273 (zH pc 271 (zQ pc 269 (.iload 6) 2) (zQ pc 271 (.iload 13) 2)) (zH pc 276 (zQ pc 273 (.if_icmp .ne 7) 3) (zH pc 277 (zQ pc 276 (.iconst 1) 1) (zQ pc 277 (.goto 4) 3)))) (zH pc 283 (zH pc 281 (zQ pc 280 (.iconst 0) 1) (zQ pc 281 (.istore 14) 2)) (zH pc 285 (zQ pc 283 (.iload 14) 2) (zH pc 288 (zQ pc 285 (.ifCond .eq 7) 3) (zQ pc 288 (.iconst (-1)) 1))))) (zH pc 297 (zH pc 294 (zH pc 292 (zQ pc 289 (.goto 7) 3) (zQ pc 292 (.iload 8) 2)) (zH pc 295 (zQ pc 294 (.iconst 1) 1) (zH pc 296 (zQ pc 295 .isub 1) (zQ pc 296 .ireturn 1)))) (zH pc 305 (zH pc 300 (zQ pc 297 (.iinc 11 1) 3) (zH pc 303 (zQ pc 300 (.goto (-245)) 3) (zQ pc 303 (.iload 8) 2))) (zH pc 306 (zQ pc 305 (.iconst 1) 1) (zH pc 307 (zQ pc 306 .isub 1) (zQ pc 307 .ireturn 1))))))))) else none
def zc_189 (pc : Nat) : Option (Instr × Nat) := bif Nat.blt pc 28 then (zH pc 15 (zH pc 6 (zH pc 4 (zH pc 1 (zQ pc 0 (.aload_n 0) 1) (zQ pc 1 (.getfield 74) 3)) (zH pc 5 (zQ pc 4 (.iload_n 1) 1) (zQ pc 5 (.iconst 1) 1))) (zH pc 8 (zH pc 7 (zQ pc 6 .bastore 1) (zQ pc 7 (.aload_n 0) 1)) (zH pc 11 (zQ pc 8 (.getfield 177) 3) (zH pc 12 (zQ pc 11 (.aload_n 0) 1) (zQ pc 12 (.getfield 406) 3))))) (zH pc 19 (zH pc 17 (zH pc 16 (zQ pc 15 (.iload_n 1) 1) (zQ pc 16 .iastore 1)) (zH pc 18 (zQ pc 17 (.aload_n 0) 1) (zQ pc 18 .dup 1))) (zH pc 23 (zH pc 22 (zQ pc 19 (.getfield 406) 3) (zQ pc 22 (.iconst 1) 1)) (zH pc 24 (zQ pc 23 .iadd 1) (zH pc 27 (zQ pc 24 (.putfield 406) 3) (zQ pc 27 .return_ 1)))))) else none
def zc_190 (pc : Nat) : Option (Instr × Nat) := bif Nat.blt pc 29 then (zH pc 14 (zH pc 4 (zH pc 2 (zH pc 1 (zQ pc 0 (.iconst 0) 1) (zQ pc 1 (.istore_n 1) 1)) (zH pc 3 (zQ pc 2 (.iload_n 1) 1) (zQ pc 3 (.aload_n 0) 1))) (zH pc 10 (zH pc 7 (zQ pc 4 (.getfield 406) 3) (zQ pc 7 (.if_icmp .ge 21) 3)) (zH pc 11 (zQ pc 10 (.aload_n 0) 1) (zQ pc 11 (.getfield 74) 3)))) (zH pc 20 (zH pc 18 (zH pc 15 (zQ pc 14 (.aload_n 0) 1) (zQ pc 15 (.getfield 177) 3)) (zH pc 19 (zQ pc 18 (.iload_n 1) 1) (zQ pc 19 .iaload 1))) (zH pc 22 (zH pc 21 (zQ pc 20 (.iconst 0) 1) (zQ pc 21 .bastore 1)) (zH pc 25 (zQ pc 22 (.iinc 1 1) 3) (zH pc 28 (zQ pc 25 (.goto (-23)) 3) (zQ pc 28 .return_ 1)))))) else none
def zc_191 (pc : Nat) : Option (Instr × Nat) := bif Nat.blt pc 101 then (zH pc 49 (zH pc 25 (zH pc 12 (zH pc 3 (zH pc 1 (zQ pc 0 (.iload_n 3) 1) (zH pc 2 (zQ pc 1 (.iconst 1) 1) (zQ pc 2 .iadd 1))) (zH pc 7 (zH pc 5 (zQ pc 3 (.istore 4) 2) (zQ pc 5 (.iload 4) 2)) (zH pc 9 (zQ pc 7 (.bipush 6) 2) (zQ pc 9 (.if_icmp .ge 19) 3)))) (zH pc 19 (zH pc 16 (zH pc 13 (zQ pc 12 (.aload_n 0) 1) (zQ pc 13 (.getfield 174) 3)) (zH pc 17 (zQ pc 16 (.iload_n 2) 1) (zQ pc 17 (.iload 4) 2))) (zH pc 21 (zH pc 20 (zQ pc 19 .iadd 1) (zQ pc 20 (.iconst 0) 1)) (zH pc 22 (zQ pc 21 .iastore 1) (zQ pc 22 (.iinc 4 1) 3))))) (zH pc 40 (zH pc 31 (zH pc 28 (zQ pc 25 (.goto (-20)) 3) (zH pc 29 (zQ pc 28 (.iload_n 3) 1) (zQ pc 29 (.istore 4) 2))) (zH pc 36 (zH pc 33 (zQ pc 31 (.iload 4) 2) (zQ pc 33 (.ifCond .lt 66) 3)) (zH pc 37 (zQ pc 36 (.aload_n 0) 1) (zQ pc 37 (.getfield 174) 3)))) (zH pc 45 (zH pc 43 (zH pc 41 (zQ pc 40 (.iload_n 2) 1) (zQ pc 41 (.iload 4) 2)) (zH pc 44 (zQ pc 43 .iadd 1) (zQ pc 44 .dup2 1))) (zH pc 47 (zH pc 46 (zQ pc 45 .iaload 1) (zQ pc 46 (.iconst 1) 1)) (zH pc 48 (zQ pc 47 .iadd 1) (zQ pc 48 .iastore 1)))))) (zH pc 74 (zH pc 60 (zH pc 54 (zH pc 50 (zQ pc 49 (.aload_n 0) 1) (zH pc 53 (zQ pc 50 (.getfield 174) 3) (zQ pc 53 (.iload_n 2) 1))) (zH pc 57 (zH pc 56 (zQ pc 54 (.iload 4) 2) (zQ pc 56 .iadd 1)) (zH pc 58 (zQ pc 57 .iaload 1) (zQ pc 58 (.iload 4) 2)))) (zH pc 68 (zH pc 64 (zH pc 63 (zQ pc 60 (.ifCond .ne 17) 3) (zQ pc 63 (.aload_n 0) 1)) (zH pc 67 (zQ pc 64 (.getfield 13) 3) (zQ pc 67 (.aload_n 0) 1))) (zH pc 72 (zH pc 71 (zQ pc 68 (.getfield 35) 3) (zQ pc 71 (.iload_n 1) 1)) (zH pc 73 (zQ pc 72 .iaload 1) (zQ pc 73 .iaload 1))))) (zH pc 88 (zH pc 82 (zH pc 78 (zH pc 77 (zQ pc 74 (.goto 4) 3) (zQ pc 77 (.iconst 4) 1)) (zH pc 81 (zQ pc 78 (.if_icmp .ge 5) 3) (zQ pc 81 (.iconst 1) 1))) (zH pc 84 (zH pc 83 (zQ pc 82 .ireturn 1) (zQ pc 83 (.aload_n 0) 1)) (zH pc 87 (zQ pc 84 (.getfield 174) 3) (zQ pc 87 (.iload_n 2) 1)))) (zH pc 93 (zH pc 91 (zH pc 90 (zQ pc 88 (.iload 4) 2) (zQ pc 90 .iadd 1)) (zH pc 92 (zQ pc 91 (.iconst 0) 1) (zQ pc 92 .iastore 1))) (zH pc 99 (zH pc 96 (zQ pc 93 (.iinc 4 (-1)) 3) (zQ pc 96 (.goto (-65)) 3)) (zH pc 100 (zQ pc 99 (.iconst 0) 1) (zQ pc 100 .ireturn 1))))))) else none
def zc_192 (pc : Nat) : Option (Instr × Nat) := bif Nat.blt pc 72 then (zH pc 36 (zH pc 18 (zH pc 10 (zH pc 3 (zH pc 1 (zQ pc 0 (.iconst 0) 1) (zQ pc 1 (.istore 5) 2)) (zH pc 5 (zQ pc 3 (.iload 5) 2) (zH pc 7 (zQ pc 5 (.bipush 6) 2) (zQ pc 7 (.if_icmp .ge 17) 3)))) (zH pc 14 (zH pc 11 (zQ pc 10 (.aload_n 0) 1) (zQ pc 11 (.getfield 174) 3)) (zH pc 16 (zQ pc 14 (.iload 5) 2) (zH pc 17 (zQ pc 16 (.iconst 0) 1) (zQ pc 17 .iastore 1))))) (zH pc 29 (zH pc 24 (zH pc 21 (zQ pc 18 (.iinc 5 1) 3) (zQ pc 21 (.goto (-18)) 3)) (zH pc 25 (zQ pc 24 (.iconst 1) 1) (zH pc 27 (zQ pc 25 (.istore 5) 2) (zQ pc 27 (.iload 5) 2)))) (zH pc 33 (zH pc 32 (zQ pc 29 (.ifCond .eq 41) 3) (zQ pc 32 (.aload_n 0) 1)) (zH pc 34 (zQ pc 33 (.iload_n 1) 1) (zH pc 35 (zQ pc 34 (.iload_n 2) 1) (zQ pc 35 (.iload_n 3) 1)))))) (zH pc 56 (zH pc 46 (zH pc 39 (zH pc 37 (zQ pc 36 (.iconst 0) 1) (zQ pc 37 (.iload 4) 2)) (zH pc 41 (zQ pc 39 (.bipush (-2)) 2) (zH pc 44 (zQ pc 41 (.invokevirtual 416) 3) (zQ pc 44 (.istore 6) 2)))) (zH pc 50 (zH pc 47 (zQ pc 46 (.aload_n 0) 1) (zQ pc 47 (.invokevirtual 420) 3)) (zH pc 52 (zQ pc 50 (.iload 6) 2) (zH pc 55 (zQ pc 52 (.ifCond .ge 5) 3) (zQ pc 55 (.iconst 1) 1))))) (zH pc 62 (zH pc 58 (zH pc 57 (zQ pc 56 .ireturn 1) (zQ pc 57 (.aload_n 0) 1)) (zH pc 59 (zQ pc 58 (.iload_n 1) 1) (zH pc 60 (zQ pc 59 (.iconst 0) 1) (zQ pc 60 (.iload 6) 2)))) (zH pc 67 (zH pc 65 (zQ pc 62 (.invokevirtual 423) 3) (zQ pc 65 (.istore 5) 2)) (zH pc 70 (zQ pc 67 (.goto (-40)) 3) (zH pc 71 (zQ pc 70 (.iconst 0) 1) (zQ pc 71 .ireturn 1))))))) else none
def zc_193 (pc : Nat) : Option (Instr × Nat) := bif Nat.blt pc 239 then (zH pc 115 (zH pc 56 (zH pc 27 (zH pc 13 (zH pc 6 (zH pc 3 (zH pc 1 (zQ pc 0 (.iconst 0) 1) (zQ pc 1 (.istore 5) 2)) (zH pc 4 (zQ pc 3 (.iconst 0) 1) (zQ pc 4 (.istore 6) 2))) (zH pc 9 (zH pc 8 (zQ pc 6 (.iload 6) 2) (zQ pc 8 (.aload_n 0) 1)) (zH pc 12 (zQ pc 9 (.getfield 53) 3) (zQ pc 12 (.iload_n 1) 1)))) (zH pc 21 (zH pc 17 (zH pc 14 (zQ pc 13 .iaload 1) (zQ pc 14 (.if_icmp .ge 28) 3)) (zH pc 19 (zQ pc 17 (.bipush 10) 2) (zQ pc 19 (.iload 5) 2))) (zH pc 23 (zH pc 22 (zQ pc 21 .imul 1) (zQ pc 22 (.aload_n 0) 1)) (zH pc 26 (zQ pc 23 (.getfield 56) 3) (zQ pc 26 (.iconst 5) 1))))) (zH pc 39 (zH pc 32 (zH pc 29 (zH pc 28 (zQ pc 27 (.iload_n 1) 1) (zQ pc 28 .imul 1)) (zH pc 31 (zQ pc 29 (.iload 6) 2) (zQ pc 31 .iadd 1))) (zH pc 34 (zH pc 33 (zQ pc 32 .iaload 1) (zQ pc 33 .iadd 1)) (zH pc 36 (zQ pc 34 (.istore 5) 2) (zQ pc 36 (.iinc 6 1) 3)))) (zH pc 47 (zH pc 43 (zH pc 42 (zQ pc 39 (.goto (-33)) 3) (zQ pc 42 (.iconst 0) 1)) (zH pc 45 (zQ pc 43 (.istore 6) 2) (zQ pc 45 (.iload 6) 2))) (zH pc 52 (zH pc 49 (zQ pc 47 (.bipush 6) 2) (zQ pc 49 (.if_icmp .ge 20) 3)) (zH pc 53 (zQ pc 52 (.aload_n 0) 1) (zQ pc 53 (.getfield 174) 3)))))) (zH pc 85 (zH pc 70 (zH pc 62 (zH pc 60 (zH pc 58 (zQ pc 56 (.bipush 6) 2) (zQ pc 58 (.iload 6) 2)) (zH pc 61 (zQ pc 60 .iadd 1) (zQ pc 61 (.iconst 0) 1))) (zH pc 66 (zH pc 63 (zQ pc 62 .iastore 1) (zQ pc 63 (.iinc 6 1) 3)) (zH pc 69 (zQ pc 66 (.goto (-21)) 3) (zQ pc 69 (.iconst 1) 1)))) (zH pc 78 (zH pc 74 (zH pc 72 (zQ pc 70 (.istore 6) 2) (zQ pc 72 (.iload 6) 2)) (zH pc 77 (zQ pc 74 (.ifCond .eq 163) 3) (zQ pc 77 (.aload_n 0) 1))) (zH pc 81 (zH pc 79 (zQ pc 78 (.iload_n 1) 1) (zQ pc 79 (.iload 5) 2)) (zH pc 82 (zQ pc 81 (.aload_n 0) 1) (zQ pc 82 (.getfield 53) 3))))) (zH pc 96 (zH pc 90 (zH pc 87 (zH pc 86 (zQ pc 85 (.iload_n 1) 1) (zQ pc 86 .iaload 1)) (zH pc 89 (zQ pc 87 (.bipush 6) 2) (zQ pc 89 (.iload_n 1) 1))) (zH pc 94 (zH pc 91 (zQ pc 90 (.aload_n 0) 1) (zQ pc 91 (.getfield 50) 3)) (zH pc 95 (zQ pc 94 (.iload_n 1) 1) (zQ pc 95 .iaload 1)))) (zH pc 105 (zH pc 101 (zH pc 99 (zQ pc 96 (.ifCond .ge 8) 3) (zQ pc 99 (.bipush (-3)) 2)) (zH pc 104 (zQ pc 101 (.goto 9) 3) (zQ pc 104 (.aload_n 0) 1))) (zH pc 109 (zH pc 108 (zQ pc 105 (.getfield 50) 3) (zQ pc 108 (.iload_n 1) 1)) (zH pc 110 (zQ pc 109 .iaload 1) (zH pc 113 (zQ pc 110 (.invokevirtual 416) 3) (zQ pc 113 (.istore 7) 2)))))))) (zH pc 176 (zH pc 145 (zH pc 131 (zH pc 122 (zH pc 119 (zH pc 116 (zQ pc 115 (.aload_n 0) 1) (zQ pc 116 (.getfield 406) 3)) (zH pc 121 (zQ pc 119 (.istore 8) 2) (zQ pc 121 (.iconst 0) 1))) (zH pc 126 (zH pc 124 (zQ pc 122 (.istore 9) 2) (zQ pc 124 (.iload 9) 2)) (zH pc 128 (zQ pc 126 (.iload 8) 2) (zQ pc 128 (.if_icmp .ge 23) 3)))) (zH pc 138 (zH pc 135 (zH pc 132 (zQ pc 131 (.aload_n 0) 1) (zQ pc 132 (.getfield 180) 3)) (zH pc 137 (zQ pc 135 (.iload 9) 2) (zQ pc 137 (.aload_n 0) 1))) (zH pc 143 (zH pc 141 (zQ pc 138 (.getfield 177) 3) (zQ pc 141 (.iload 9) 2)) (zH pc 144 (zQ pc 143 .iaload 1) (zQ pc 144 .iastore 1))))) (zH pc 161 (zH pc 156 (zH pc 151 (zH pc 148 (zQ pc 145 (.iinc 9 1) 3) (zQ pc 148 (.goto (-24)) 3)) (zH pc 153 (zQ pc 151 (.iload 7) 2) (zQ pc 153 (.ifCond .ge 19) 3))) (zH pc 158 (zH pc 157 (zQ pc 156 (.aload_n 0) 1) (zQ pc 157 (.iload_n 2) 1)) (zH pc 159 (zQ pc 158 (.iload_n 3) 1) (zQ pc 159 (.iload 4) 2)))) (zH pc 169 (zH pc 165 (zH pc 162 (zQ pc 161 (.iload_n 1) 1) (zQ pc 162 (.invokevirtual 426) 3)) (zH pc 168 (zQ pc 165 (.ifCond .eq 7) 3) (zQ pc 168 (.iconst 1) 1))) (zH pc 173 (zH pc 172 (zQ pc 169 (.goto 4) 3) (zQ pc 172 (.iconst 0) 1)) (zH pc 175 (zQ pc 173 (.istore 9) 2) (zQ pc 175 (.iconst 0) 1)))))) (zH pc 209 (zH pc 193 (zH pc 185 (zH pc 180 (zH pc 178 (zQ pc 176 (.istore 10) 2) (zQ pc 178 (.iload 10) 2)) (zH pc 182 (zQ pc 180 (.iload 8) 2) (zQ pc 182 (.if_icmp .ge 22) 3))) (zH pc 189 (zH pc 186 (zQ pc 185 (.aload_n 0) 1) (zQ pc 186 (.getfield 74) 3)) (zH pc 190 (zQ pc 189 (.aload_n 0) 1) (zQ pc 190 (.getfield 180) 3)))) (zH pc 198 (zH pc 196 (zH pc 195 (zQ pc 193 (.iload 10) 2) (zQ pc 195 .iaload 1)) (zH pc 197 (zQ pc 196 (.iconst 0) 1) (zQ pc 197 .bastore 1))) (zH pc 204 (zH pc 201 (zQ pc 198 (.iinc 10 1) 3) (zQ pc 201 (.goto (-23)) 3)) (zH pc 206 (zQ pc 204 (.iload 9) 2) (zQ pc 206 (.ifCond .eq 5) 3))))) (zH pc 222 (zH pc 213 (zH pc 211 (zH pc 210 (zQ pc 209 (.iconst 1) 1) (zQ pc 210 .ireturn 1)) (zH pc 212 (zQ pc 211 (.aload_n 0) 1) (zQ pc 212 (.iload_n 1) 1))) (zH pc 217 (zH pc 215 (zQ pc 213 (.bipush 6) 2) (zQ pc 215 (.iload 7) 2)) (zH pc 220 (zQ pc 217 (.ifCond .ge 10) 3) (zQ pc 220 (.iload 8) 2)))) (zH pc 229 (zH pc 224 (zH pc 223 (zQ pc 222 (.iconst 1) 1) (zQ pc 223 .isub 1)) (zH pc 227 (zQ pc 224 (.goto 5) 3) (zQ pc 227 (.iload 7) 2))) (zH pc 234 (zH pc 232 (zQ pc 229 (.invokevirtual 423) 3) (zQ pc 232 (.istore 6) 2)) (zH pc 237 (zQ pc 234 (.goto (-162)) 3) (zH pc 238 (zQ pc 237 (.iconst 0) 1) (zQ pc 238 .ireturn 1))))))))) else none
def zc_194 (pc : Nat) : Option (Instr × Nat) := bif Nat.blt pc 133 then (zH pc 62 (zH pc 31 (zH pc 15 (zH pc 6 (zH pc 2 (zH pc 1 (zQ pc 0 (.aload_n 0) 1) (zQ pc 1 (.iconst 0) 1)) (zH pc 5 (zQ pc 2 (.putfield 201) 3) (zQ pc 5 (.aload_n 0) 1))) (zH pc 8 (zH pc 7 (zQ pc 6 (.iload_n 1) 1) (zQ pc 7 (.iload_n 2) 1)) (zH pc 9 (zQ pc 8 (.iload_n 3) 1) (zH pc 12 (zQ pc 9 (.invokevirtual 397) 3) (zQ pc 12 (.ifCond .eq 13) 3))))) (zH pc 22 (zH pc 18 (zH pc 17 (zQ pc 15 (.iload 4) 2) (zQ pc 17 (.iconst 0) 1)) (zH pc 19 (zQ pc 18 (.iconst 1) 1) (zQ pc 19 (.invokestatic 212) 3))) (zH pc 26 (zH pc 25 (zQ pc 22 (.ifCond .ne 5) 3) (zQ pc 25 (.iconst (-1)) 1)) (zH pc 27 (zQ pc 26 .ireturn 1) (zH pc 28 (zQ pc 27 (.aload_n 0) 1) (zQ pc 28 (.invokevirtual 400) 3)))))) (zH pc 47 (zH pc 35 (zH pc 33 (zH pc 32 (zQ pc 31 (.aload_n 0) 1) (zQ pc 32 (.iload_n 1) 1)) (zH pc 34 (zQ pc 33 (.iload_n 2) 1) (zQ pc 34 (.iload_n 3) 1))) (zH pc 39 (zH pc 36 (zQ pc 35 (.iconst (-1)) 1) (zQ pc 36 (.invokevirtual 426) 3)) (zH pc 42 (zQ pc 39 (.ifCond .eq 14) 3) (zH pc 44 (zQ pc 42 (.iload 4) 2) (zQ pc 44 (.ifCond .ne 7) 3))))) (zH pc 53 (zH pc 51 (zH pc 48 (zQ pc 47 (.iconst 0) 1) (zQ pc 48 (.goto 4) 3)) (zH pc 52 (zQ pc 51 (.iconst (-1)) 1) (zQ pc 52 .ireturn 1))) (zH pc 56 (zH pc 54 (zQ pc 53 (.iconst 0) 1) (zQ pc 54 (.istore 5) 2)) (zH pc 58 (zQ pc 56 (.iload 5) 2) (zH pc 59 (zQ pc 58 (.aload_n 0) 1) (zQ pc 59 (.getfield 216) 3))))))) (zH pc 95 (zH pc 80 (zH pc 71 (zH pc 66 (zH pc 65 (zQ pc 62 (.if_icmp .ge 69) 3) (zQ pc 65 (.aload_n 0) 1)) (zH pc 69 (zQ pc 66 (.getfield 44) 3) (zQ pc 69 (.iload 5) 2))) (zH pc 73 (zH pc 72 (zQ pc 71 .iaload 1) (zQ pc 72 (.iconst 1) 1)) (zH pc 76 (zQ pc 73 (.if_icmp .ne 52) 3) (zH pc 77 (zQ pc 76 (.aload_n 0) 1) (zQ pc 77 (.getfield 47) 3))))) (zH pc 87 (zH pc 83 (zH pc 82 (zQ pc 80 (.iload 5) 2) (zQ pc 82 .iaload 1)) (zH pc 84 (zQ pc 83 (.iconst 5) 1) (zQ pc 84 (.if_icmp .lt 41) 3))) (zH pc 91 (zH pc 88 (zQ pc 87 (.aload_n 0) 1) (zQ pc 88 (.getfield 53) 3)) (zH pc 93 (zQ pc 91 (.iload 5) 2) (zH pc 94 (zQ pc 93 .iaload 1) (zQ pc 94 (.iconst 5) 1)))))) (zH pc 113 (zH pc 102 (zH pc 99 (zH pc 98 (zQ pc 95 (.if_icmp .gt 30) 3) (zQ pc 98 (.aload_n 0) 1)) (zH pc 101 (zQ pc 99 (.iload 5) 2) (zQ pc 101 (.iload_n 1) 1))) (zH pc 104 (zH pc 103 (zQ pc 102 (.iload_n 2) 1) (zQ pc 103 (.iload_n 3) 1)) (zH pc 107 (zQ pc 104 (.invokevirtual 430) 3) (zH pc 110 (zQ pc 107 (.ifCond .ne 6) 3) (zQ pc 110 (.goto 15) 3))))) (zH pc 124 (zH pc 118 (zH pc 115 (zQ pc 113 (.iload 4) 2) (zQ pc 115 (.ifCond .ne 7) 3)) (zH pc 119 (zQ pc 118 (.iconst 1) 1) (zH pc 122 (zQ pc 119 (.goto 5) 3) (zQ pc 122 (.iload 5) 2)))) (zH pc 128 (zH pc 125 (zQ pc 124 .ireturn 1) (zQ pc 125 (.iinc 5 1) 3)) (zH pc 131 (zQ pc 128 (.goto (-72)) 3) (zH pc 132 (zQ pc 131 (.iconst (-1)) 1) (zQ pc 132 .ireturn 1)))))))) else none
def zc_195 (pc : Nat) : Option (Instr × Nat) := bif Nat.blt pc 38 then (zH pc 20 (zH pc 11 (zH pc 5 (zH pc 1 (zQ pc 0 (.iload_n 1) 1) (zH pc 4 (zQ pc 1 (.ifCond .lt 8) 3) (zQ pc 4 (.iload_n 1) 1))) (zH pc 9 (zH pc 6 (zQ pc 5 (.iload_n 0) 1) (zQ pc 6 (.if_icmp .le 5) 3)) (zH pc 10 (zQ pc 9 (.iconst 0) 1) (zQ pc 10 .ireturn 1)))) (zH pc 14 (zH pc 12 (zQ pc 11 (.iconst 1) 1) (zH pc 13 (zQ pc 12 (.istore_n 2) 1) (zQ pc 13 (.iconst 1) 1))) (zH pc 16 (zH pc 15 (zQ pc 14 (.istore_n 3) 1) (zQ pc 15 (.iload_n 3) 1)) (zH pc 17 (zQ pc 16 (.iload_n 1) 1) (zQ pc 17 (.if_icmp .gt 19) 3))))) (zH pc 27 (zH pc 23 (zH pc 21 (zQ pc 20 (.iload_n 2) 1) (zH pc 22 (zQ pc 21 (.iload_n 0) 1) (zQ pc 22 (.iload_n 1) 1))) (zH pc 25 (zH pc 24 (zQ pc 23 .isub 1) (zQ pc 24 (.iload_n 3) 1)) (zH pc 26 (zQ pc 25 .iadd 1) (zQ pc 26 .imul 1)))) (zH pc 30 (zH pc 28 (zQ pc 27 (.iload_n 3) 1) (zH pc 29 (zQ pc 28 .idiv 1) (zQ pc 29 (.istore_n 2) 1))) (zH pc 36 (zH pc 33 (zQ pc 30 (.iinc 3 1) 3) (zQ pc 33 (.goto (-18)) 3)) (zH pc 37 (zQ pc 36 (.iload_n 2) 1) (zQ pc 37 .ireturn 1)))))) else none
def zc_196 (pc : Nat) : Option (Instr × Nat) := bif Nat.blt pc 302 then (zH pc 154 (zH pc 72 (zH pc 36 (zH pc 15 (zH pc 6 (zH pc 3 (zH pc 1 (zQ pc 0 (.iconst 0) 1) (zQ pc 1 (.istore 5) 2)) (zH pc 4 (zQ pc 3 (.iconst 0) 1) (zQ pc 4 (.istore 6) 2))) (zH pc 10 (zH pc 8 (zQ pc 6 (.iload 4) 2) (zQ pc 8 (.istore 7) 2)) (zH pc 11 (zQ pc 10 (.iconst 0) 1) (zH pc 13 (zQ pc 11 (.istore 8) 2) (zQ pc 13 (.iload 8) 2))))) (zH pc 27 (zH pc 21 (zH pc 18 (zQ pc 15 (.sipush 232) 3) (zQ pc 18 (.if_icmp .ge 17) 3)) (zH pc 22 (zQ pc 21 (.aload_n 0) 1) (zH pc 25 (zQ pc 22 (.getfield 183) 3) (zQ pc 25 (.iload 8) 2)))) (zH pc 29 (zH pc 28 (zQ pc 27 (.iconst 0) 1) (zQ pc 28 .bastore 1)) (zH pc 32 (zQ pc 29 (.iinc 8 1) 3) (zH pc 35 (zQ pc 32 (.goto (-19)) 3) (zQ pc 35 (.iconst 0) 1)))))) (zH pc 54 (zH pc 45 (zH pc 40 (zH pc 38 (zQ pc 36 (.istore 8) 2) (zQ pc 38 (.iload 8) 2)) (zH pc 41 (zQ pc 40 (.aload_n 0) 1) (zH pc 44 (zQ pc 41 (.getfield 16) 3) (zQ pc 44 (.iload_n 1) 1)))) (zH pc 49 (zH pc 46 (zQ pc 45 .iaload 1) (zQ pc 46 (.if_icmp .ge 69) 3)) (zH pc 50 (zQ pc 49 (.iconst 0) 1) (zH pc 52 (zQ pc 50 (.istore 9) 2) (zQ pc 52 (.iload 9) 2))))) (zH pc 63 (zH pc 58 (zH pc 55 (zQ pc 54 (.iconst 4) 1) (zQ pc 55 (.if_icmp .ge 54) 3)) (zH pc 59 (zQ pc 58 (.aload_n 0) 1) (zH pc 62 (zQ pc 59 (.getfield 19) 3) (zQ pc 62 (.iload_n 1) 1)))) (zH pc 66 (zH pc 65 (zQ pc 63 (.iload 8) 2) (zQ pc 65 (.iload_n 2) 1)) (zH pc 68 (zQ pc 66 (.iload 9) 2) (zH pc 71 (zQ pc 68 (.invokestatic 230) 3) (zQ pc 71 .iaload 1))))))) (zH pc 112 (zH pc 93 (zH pc 83 (zH pc 76 (zH pc 74 (zQ pc 72 (.istore 10) 2) (zQ pc 74 (.iload 10) 2)) (zH pc 79 (zQ pc 76 (.ifCond .lt 27) 3) (zH pc 80 (zQ pc 79 (.aload_n 0) 1) (zQ pc 80 (.getfield 28) 3)))) (zH pc 86 (zH pc 85 (zQ pc 83 (.iload 10) 2) (zQ pc 85 .baload 1)) (zH pc 89 (zQ pc 86 (.ifCond .ne 17) 3) (zH pc 90 (zQ pc 89 (.aload_n 0) 1) (zQ pc 90 (.getfield 183) 3))))) (zH pc 101 (zH pc 97 (zH pc 95 (zQ pc 93 (.bipush 116) 2) (zQ pc 95 (.iload 8) 2)) (zH pc 98 (zQ pc 97 .imul 1) (zH pc 100 (zQ pc 98 (.iload 10) 2) (zQ pc 100 .iadd 1)))) (zH pc 103 (zH pc 102 (zQ pc 101 (.iconst 1) 1) (zQ pc 102 .bastore 1)) (zH pc 106 (zQ pc 103 (.iinc 9 1) 3) (zH pc 109 (zQ pc 106 (.goto (-54)) 3) (zQ pc 109 (.iinc 8 1) 3)))))) (zH pc 132 (zH pc 122 (zH pc 116 (zH pc 115 (zQ pc 112 (.goto (-74)) 3) (zQ pc 115 (.iconst 0) 1)) (zH pc 118 (zQ pc 116 (.istore 8) 2) (zH pc 120 (zQ pc 118 (.iload 8) 2) (zQ pc 120 (.bipush 116) 2)))) (zH pc 126 (zH pc 125 (zQ pc 122 (.if_icmp .ge 70) 3) (zQ pc 125 (.aload_n 0) 1)) (zH pc 129 (zQ pc 126 (.getfield 183) 3) (zH pc 131 (zQ pc 129 (.iload 8) 2) (zQ pc 131 .baload 1))))) (zH pc 143 (zH pc 136 (zH pc 135 (zQ pc 132 (.ifCond .eq 22) 3) (zQ pc 135 (.aload_n 0) 1)) (zH pc 139 (zQ pc 136 (.getfield 183) 3) (zH pc 141 (zQ pc 139 (.bipush 116) 2) (zQ pc 141 (.iload 8) 2)))) (zH pc 145 (zH pc 144 (zQ pc 143 .iadd 1) (zQ pc 144 .baload 1)) (zH pc 148 (zQ pc 145 (.ifCond .eq 9) 3) (zH pc 151 (zQ pc 148 (.iinc 7 1) 3) (zQ pc 151 (.goto 35) 3)))))))) (zH pc 227 (zH pc 196 (zH pc 174 (zH pc 161 (zH pc 158 (zH pc 155 (zQ pc 154 (.aload_n 0) 1) (zQ pc 155 (.getfield 183) 3)) (zH pc 160 (zQ pc 158 (.iload 8) 2) (zQ pc 160 .baload 1))) (zH pc 167 (zH pc 164 (zQ pc 161 (.ifCond .eq 9) 3) (zQ pc 164 (.iinc 5 1) 3)) (zH pc 170 (zQ pc 167 (.goto 19) 3) (zH pc 171 (zQ pc 170 (.aload_n 0) 1) (zQ pc 171 (.getfield 183) 3))))) (zH pc 183 (zH pc 178 (zH pc 176 (zQ pc 174 (.bipush 116) 2) (zQ pc 176 (.iload 8) 2)) (zH pc 179 (zQ pc 178 .iadd 1) (zH pc 180 (zQ pc 179 .baload 1) (zQ pc 180 (.ifCond .eq 6) 3)))) (zH pc 189 (zH pc 186 (zQ pc 183 (.iinc 6 1) 3) (zQ pc 186 (.iinc 8 1) 3)) (zH pc 192 (zQ pc 189 (.goto (-71)) 3) (zH pc 193 (zQ pc 192 (.aload_n 0) 1) (zQ pc 193 (.getfield 16) 3)))))) (zH pc 210 (zH pc 203 (zH pc 198 (zH pc 197 (zQ pc 196 (.iload_n 1) 1) (zQ pc 197 .iaload 1)) (zH pc 199 (zQ pc 198 (.iconst 2) 1) (zH pc 202 (zQ pc 199 (.if_icmp .ne 14) 3) (zQ pc 202 (.aload_n 0) 1)))) (zH pc 207 (zH pc 206 (zQ pc 203 (.getfield 13) 3) (zQ pc 206 (.iload_n 1) 1)) (zH pc 208 (zQ pc 207 .iaload 1) (zH pc 209 (zQ pc 208 (.iconst 2) 1) (zQ pc 209 .idiv 1))))) (zH pc 220 (zH pc 214 (zH pc 213 (zQ pc 210 (.goto 4) 3) (zQ pc 213 (.iconst 0) 1)) (zH pc 216 (zQ pc 214 (.istore 8) 2) (zH pc 217 (zQ pc 216 (.aload_n 0) 1) (zQ pc 217 (.getfield 13) 3)))) (zH pc 222 (zH pc 221 (zQ pc 220 (.iload_n 1) 1) (zQ pc 221 .iaload 1)) (zH pc 224 (zQ pc 222 (.iload 8) 2) (zH pc 225 (zQ pc 224 .isub 1) (zQ pc 225 (.istore 9) 2))))))) (zH pc 260 (zH pc 243 (zH pc 235 (zH pc 230 (zH pc 228 (zQ pc 227 (.iconst 0) 1) (zQ pc 228 (.istore 10) 2)) (zH pc 231 (zQ pc 230 (.iconst 0) 1) (zH pc 233 (zQ pc 231 (.istore 11) 2) (zQ pc 233 (.iload 11) 2)))) (zH pc 239 (zH pc 236 (zQ pc 235 (.iload_n 3) 1) (zQ pc 236 (.if_icmp .gt 63) 3)) (zH pc 240 (zQ pc 239 (.iload_n 3) 1) (zH pc 242 (zQ pc 240 (.iload 11) 2) (zQ pc 242 .isub 1))))) (zH pc 251 (zH pc 246 (zH pc 245 (zQ pc 243 (.istore 12) 2) (zQ pc 245 (.iconst 0) 1)) (zH pc 248 (zQ pc 246 (.iload 11) 2) (zH pc 250 (zQ pc 248 (.iload 5) 2) (zQ pc 250 .isub 1)))) (zH pc 255 (zH pc 254 (zQ pc 251 (.invokestatic 433) 3) (zQ pc 254 (.iconst 0) 1)) (zH pc 257 (zQ pc 255 (.iload 12) 2) (zH pc 259 (zQ pc 257 (.iload 6) 2) (zQ pc 259 .isub 1)))))) (zH pc 282 (zH pc 270 (zH pc 264 (zH pc 263 (zQ pc 260 (.invokestatic 433) 3) (zQ pc 263 .iadd 1)) (zH pc 266 (zQ pc 264 (.istore 13) 2) (zH pc 268 (zQ pc 266 (.iload 13) 2) (zQ pc 268 (.iload 7) 2)))) (zH pc 275 (zH pc 273 (zQ pc 270 (.if_icmp .le 23) 3) (zQ pc 273 (.iload 10) 2)) (zH pc 277 (zQ pc 275 (.iload 9) 2) (zH pc 279 (zQ pc 277 (.iload 11) 2) (zQ pc 279 (.invokestatic 438) 3))))) (zH pc 291 (zH pc 286 (zH pc 284 (zQ pc 282 (.iload 8) 2) (zQ pc 284 (.iload 12) 2)) (zH pc 289 (zQ pc 286 (.invokestatic 438) 3) (zH pc 290 (zQ pc 289 .imul 1) (zQ pc 290 .iadd 1)))) (zH pc 296 (zH pc 293 (zQ pc 291 (.istore 10) 2) (zQ pc 293 (.iinc 11 1) 3)) (zH pc 299 (zQ pc 296 (.goto (-63)) 3) (zH pc 301 (zQ pc 299 (.iload 10) 2) (zQ pc 301 .ireturn 1))))))))) else none
def zc_197 (pc : Nat) : Option (Instr × Nat) := bif Nat.blt pc 38 then (zH pc 19 (zH pc 9 (zH pc 2 (zH pc 1 (zQ pc 0 (.aload_n 0) 1) (zQ pc 1 (.iload_n 1) 1)) (zH pc 5 (zQ pc 2 (.invokevirtual 224) 3) (zH pc 8 (zQ pc 5 (.ifCond .eq 31) 3) (zQ pc 8 (.iload_n 2) 1)))) (zH pc 12 (zH pc 10 (zQ pc 9 (.iconst 0) 1) (zQ pc 10 (.bipush 9) 2)) (zH pc 15 (zQ pc 12 (.invokestatic 212) 3) (zH pc 18 (zQ pc 15 (.ifCond .eq 21) 3) (zQ pc 18 (.iload_n 3) 1))))) (zH pc 26 (zH pc 21 (zH pc 20 (zQ pc 19 (.iconst 1) 1) (zQ pc 20 (.aload_n 0) 1)) (zH pc 24 (zQ pc 21 (.getfield 13) 3) (zH pc 25 (zQ pc 24 (.iload_n 1) 1) (zQ pc 25 .iaload 1)))) (zH pc 33 (zH pc 29 (zQ pc 26 (.invokestatic 212) 3) (zH pc 32 (zQ pc 29 (.ifCond .eq 7) 3) (zQ pc 32 (.iconst 1) 1))) (zH pc 36 (zQ pc 33 (.goto 4) 3) (zH pc 37 (zQ pc 36 (.iconst 0) 1) (zQ pc 37 .ireturn 1)))))) else none
def zc_198 (pc : Nat) : Option (Instr × Nat) := bif Nat.blt pc 28 then (zH pc 15 (zH pc 6 (zH pc 2 (zH pc 1 (zQ pc 0 (.aload_n 0) 1) (zQ pc 1 (.iconst 0) 1)) (zH pc 5 (zQ pc 2 (.putfield 201) 3) (zQ pc 5 (.aload_n 0) 1))) (zH pc 8 (zH pc 7 (zQ pc 6 (.iload_n 1) 1) (zQ pc 7 (.iload_n 2) 1)) (zH pc 9 (zQ pc 8 (.iload_n 3) 1) (zH pc 12 (zQ pc 9 (.invokevirtual 441) 3) (zQ pc 12 (.ifCond .eq 14) 3))))) (zH pc 19 (zH pc 17 (zH pc 16 (zQ pc 15 (.aload_n 0) 1) (zQ pc 16 (.iload_n 1) 1)) (zH pc 18 (zQ pc 17 (.iload_n 2) 1) (zQ pc 18 (.iload_n 3) 1))) (zH pc 23 (zH pc 20 (zQ pc 19 (.iconst 0) 1) (zQ pc 20 (.invokevirtual 444) 3)) (zH pc 26 (zQ pc 23 (.goto 4) 3) (zH pc 27 (zQ pc 26 (.iconst (-1)) 1) (zQ pc 27 .ireturn 1)))))) else none
def zc_199 (pc : Nat) : Option (Instr × Nat) := bif Nat.blt pc 70 then (zH pc 33 (zH pc 15 (zH pc 6 (zH pc 2 (zH pc 1 (zQ pc 0 (.aload_n 0) 1) (zQ pc 1 (.iconst 0) 1)) (zH pc 5 (zQ pc 2 (.putfield 201) 3) (zQ pc 5 (.aload_n 0) 1))) (zH pc 8 (zH pc 7 (zQ pc 6 (.iload_n 1) 1) (zQ pc 7 (.iload_n 2) 1)) (zH pc 9 (zQ pc 8 (.iload_n 3) 1) (zH pc 12 (zQ pc 9 (.invokevirtual 441) 3) (zQ pc 12 (.ifCond .eq 15) 3))))) (zH pc 27 (zH pc 18 (zH pc 17 (zQ pc 15 (.iload 4) 2) (zQ pc 17 (.iconst 0) 1)) (zH pc 21 (zQ pc 18 (.sipush 1000) 3) (zH pc 24 (zQ pc 21 (.invokestatic 212) 3) (zQ pc 24 (.ifCond .ne 5) 3)))) (zH pc 29 (zH pc 28 (zQ pc 27 (.iconst (-1)) 1) (zQ pc 28 .ireturn 1)) (zH pc 30 (zQ pc 29 (.iconst 0) 1) (zH pc 32 (zQ pc 30 (.istore 5) 2) (zQ pc 32 (.aload_n 0) 1)))))) (zH pc 51 (zH pc 41 (zH pc 35 (zH pc 34 (zQ pc 33 (.iload_n 1) 1) (zQ pc 34 (.iload_n 2) 1)) (zH pc 36 (zQ pc 35 (.iload_n 3) 1) (zH pc 38 (zQ pc 36 (.iload 5) 2) (zQ pc 38 (.invokevirtual 444) 3)))) (zH pc 45 (zH pc 44 (zQ pc 41 (.sipush 1000) 3) (zQ pc 44 .imul 1)) (zH pc 47 (zQ pc 45 (.iload 4) 2) (zH pc 48 (zQ pc 47 (.aload_n 0) 1) (zQ pc 48 (.getfield 13) 3))))) (zH pc 58 (zH pc 53 (zH pc 52 (zQ pc 51 (.iload_n 1) 1) (zQ pc 52 .iaload 1)) (zH pc 54 (zQ pc 53 (.iload_n 3) 1) (zH pc 57 (zQ pc 54 (.invokestatic 438) 3) (zQ pc 57 .imul 1)))) (zH pc 64 (zH pc 61 (zQ pc 58 (.if_icmp .le 9) 3) (zQ pc 61 (.iinc 5 1) 3)) (zH pc 67 (zQ pc 64 (.goto (-32)) 3) (zH pc 69 (zQ pc 67 (.iload 5) 2) (zQ pc 69 .ireturn 1))))))) else none
def zc_200 (pc : Nat) : Option (Instr × Nat) := bif Nat.blt pc 174 then (zH pc 85 (zH pc 40 (zH pc 18 (zH pc 8 (zH pc 5 (zH pc 1 (zQ pc 0 (.aload_n 0) 1) (zH pc 2 (zQ pc 1 (.iconst 0) 1) (zQ pc 2 (.putfield 201) 3))) (zH pc 6 (zQ pc 5 (.aload_n 0) 1) (zH pc 7 (zQ pc 6 (.iload_n 1) 1) (zQ pc 7 (.iload_n 2) 1)))) (zH pc 15 (zH pc 9 (zQ pc 8 (.iload_n 3) 1) (zH pc 12 (zQ pc 9 (.invokevirtual 397) 3) (zQ pc 12 (.ifCond .ne 5) 3))) (zH pc 16 (zQ pc 15 (.iconst (-1)) 1) (zH pc 17 (zQ pc 16 .ireturn 1) (zQ pc 17 (.aload_n 0) 1))))) (zH pc 28 (zH pc 23 (zH pc 21 (zQ pc 18 (.invokevirtual 400) 3) (zH pc 22 (zQ pc 21 (.aload_n 0) 1) (zQ pc 22 (.iload_n 1) 1))) (zH pc 24 (zQ pc 23 (.iload_n 2) 1) (zH pc 25 (zQ pc 24 (.iload_n 3) 1) (zQ pc 25 (.invokevirtual 403) 3)))) (zH pc 34 (zH pc 30 (zQ pc 28 (.istore 4) 2) (zH pc 31 (zQ pc 30 (.aload_n 0) 1) (zQ pc 31 (.invokevirtual 400) 3))) (zH pc 36 (zQ pc 34 (.iload 4) 2) (zH pc 37 (zQ pc 36 (.iconst 2) 1) (zQ pc 37 (.if_icmp .eq 9) 3)))))) (zH pc 63 (zH pc 52 (zH pc 46 (zH pc 42 (zQ pc 40 (.iload 4) 2) (zH pc 43 (zQ pc 42 (.iconst 5) 1) (zQ pc 43 (.if_icmp .ne 12) 3))) (zH pc 47 (zQ pc 46 (.aload_n 0) 1) (zH pc 50 (zQ pc 47 (.getfield 447) 3) (zQ pc 50 (.bipush 60) 2)))) (zH pc 58 (zH pc 55 (zQ pc 52 (.if_icmp .ne 6) 3) (zH pc 57 (zQ pc 55 (.iload 4) 2) (zQ pc 57 .ireturn 1))) (zH pc 59 (zQ pc 58 (.aload_n 0) 1) (zH pc 62 (zQ pc 59 (.getfield 186) 3) (zQ pc 62 (.aload_n 0) 1))))) (zH pc 76 (zH pc 69 (zH pc 66 (zQ pc 63 (.getfield 447) 3) (zH pc 68 (zQ pc 66 (.iload 4) 2) (zQ pc 68 (.iconst 2) 1))) (zH pc 72 (zQ pc 69 (.if_icmp .ne 7) 3) (zH pc 73 (zQ pc 72 (.iconst 1) 1) (zQ pc 73 (.goto 4) 3)))) (zH pc 79 (zH pc 77 (zQ pc 76 (.iconst 0) 1) (zH pc 78 (zQ pc 77 .bastore 1) (zQ pc 78 (.iconst 0) 1))) (zH pc 81 (zQ pc 79 (.istore 5) 2) (zH pc 83 (zQ pc 81 (.iload 5) 2) (zQ pc 83 (.bipush 96) 2))))))) (zH pc 131 (zH pc 107 (zH pc 98 (zH pc 92 (zH pc 88 (zQ pc 85 (.if_icmp .ge 25) 3) (zH pc 89 (zQ pc 88 (.aload_n 0) 1) (zQ pc 89 (.getfield 189) 3))) (zH pc 94 (zQ pc 92 (.bipush 96) 2) (zH pc 95 (zQ pc 94 (.aload_n 0) 1) (zQ pc 95 (.getfield 447) 3)))) (zH pc 102 (zH pc 99 (zQ pc 98 .imul 1) (zH pc 101 (zQ pc 99 (.iload 5) 2) (zQ pc 101 .iadd 1))) (zH pc 103 (zQ pc 102 (.iconst 0) 1) (zH pc 104 (zQ pc 103 .bastore 1) (zQ pc 104 (.iinc 5 1) 3))))) (zH pc 119 (zH pc 113 (zH pc 110 (zQ pc 107 (.goto (-26)) 3) (zH pc 111 (zQ pc 110 (.iconst 0) 1) (zQ pc 111 (.istore 5) 2))) (zH pc 115 (zQ pc 113 (.iload 5) 2) (zH pc 116 (zQ pc 115 (.aload_n 0) 1) (zQ pc 116 (.getfield 383) 3)))) (zH pc 126 (zH pc 122 (zQ pc 119 (.if_icmp .ge 42) 3) (zH pc 123 (zQ pc 122 (.aload_n 0) 1) (zQ pc 123 (.getfield 171) 3))) (zH pc 128 (zQ pc 126 (.iload 5) 2) (zH pc 129 (zQ pc 128 .iaload 1) (zQ pc 129 (.bipush 96) 2)))))) (zH pc 153 (zH pc 144 (zH pc 138 (zH pc 134 (zQ pc 131 (.if_icmp .ge 24) 3) (zH pc 135 (zQ pc 134 (.aload_n 0) 1) (zQ pc 135 (.getfield 189) 3))) (zH pc 140 (zQ pc 138 (.bipush 96) 2) (zH pc 141 (zQ pc 140 (.aload_n 0) 1) (zQ pc 141 (.getfield 447) 3)))) (zH pc 149 (zH pc 145 (zQ pc 144 .imul 1) (zH pc 146 (zQ pc 145 (.aload_n 0) 1) (zQ pc 146 (.getfield 171) 3))) (zH pc 151 (zQ pc 149 (.iload 5) 2) (zH pc 152 (zQ pc 151 .iaload 1) (zQ pc 152 .iadd 1))))) (zH pc 163 (zH pc 158 (zH pc 154 (zQ pc 153 (.iconst 1) 1) (zH pc 155 (zQ pc 154 .bastore 1) (zQ pc 155 (.iinc 5 1) 3))) (zH pc 161 (zQ pc 158 (.goto (-45)) 3) (zH pc 162 (zQ pc 161 (.aload_n 0) 1) (zQ pc 162 .dup 1)))) (zH pc 168 (zH pc 166 (zQ pc 163 (.getfield 447) 3) (zH pc 167 (zQ pc 166 (.iconst 1) 1) (zQ pc 167 .iadd 1))) (zH pc 171 (zQ pc 168 (.putfield 447) 3) (zH pc 173 (zQ pc 171 (.iload 4) 2) (zQ pc 173 .ireturn 1)))))))) else none
def zc_201 (pc : Nat) : Option (Instr × Nat) := bif Nat.blt pc 77 then (zH pc 37 (zH pc 17 (zH pc 7 (zH pc 2 (zH pc 1 (zQ pc 0 (.iconst 0) 1) (zQ pc 1 (.istore_n 2) 1)) (zH pc 3 (zQ pc 2 (.iload_n 2) 1) (zH pc 4 (zQ pc 3 (.aload_n 0) 1) (zQ pc 4 (.getfield 447) 3)))) (zH pc 12 (zH pc 10 (zQ pc 7 (.if_icmp .ge 68) 3) (zH pc 11 (zQ pc 10 (.iconst 0) 1) (zQ pc 11 (.istore_n 3) 1))) (zH pc 13 (zQ pc 12 (.iconst 0) 1) (zH pc 15 (zQ pc 13 (.istore 4) 2) (zQ pc 15 (.iload 4) 2))))) (zH pc 26 (zH pc 21 (zH pc 18 (zQ pc 17 (.iload_n 1) 1) (zQ pc 18 (.if_icmp .ge 39) 3)) (zH pc 22 (zQ pc 21 (.iload_n 3) 1) (zH pc 25 (zQ pc 22 (.ifCond .ne 23) 3) (zQ pc 25 (.aload_n 0) 1)))) (zH pc 32 (zH pc 29 (zQ pc 26 (.getfield 189) 3) (zH pc 31 (zQ pc 29 (.bipush 96) 2) (zQ pc 31 (.iload_n 2) 1))) (zH pc 33 (zQ pc 32 .imul 1) (zH pc 34 (zQ pc 33 (.aload_n 0) 1) (zQ pc 34 (.getfield 192) 3)))))) (zH pc 57 (zH pc 45 (zH pc 40 (zH pc 39 (zQ pc 37 (.iload 4) 2) (zQ pc 39 .iaload 1)) (zH pc 41 (zQ pc 40 .iadd 1) (zH pc 42 (zQ pc 41 .baload 1) (zQ pc 42 (.ifCond .eq 7) 3)))) (zH pc 50 (zH pc 46 (zQ pc 45 (.iconst 1) 1) (zH pc 49 (zQ pc 46 (.goto 4) 3) (zQ pc 49 (.iconst 0) 1))) (zH pc 51 (zQ pc 50 (.istore_n 3) 1) (zH pc 54 (zQ pc 51 (.iinc 4 1) 3) (zQ pc 54 (.goto (-39)) 3))))) (zH pc 67 (zH pc 62 (zH pc 58 (zQ pc 57 (.iload_n 3) 1) (zH pc 59 (zQ pc 58 (.aload_n 0) 1) (zQ pc 59 (.getfield 186) 3))) (zH pc 63 (zQ pc 62 (.iload_n 2) 1) (zH pc 64 (zQ pc 63 .baload 1) (zQ pc 64 (.if_icmp .eq 5) 3)))) (zH pc 72 (zH pc 68 (zQ pc 67 (.iconst 0) 1) (zH pc 69 (zQ pc 68 .ireturn 1) (zQ pc 69 (.iinc 2 1) 3))) (zH pc 75 (zQ pc 72 (.goto (-70)) 3) (zH pc 76 (zQ pc 75 (.iconst 1) 1) (zQ pc 76 .ireturn 1))))))) else none
def zc_202 (pc : Nat) : Option (Instr × Nat) := bif Nat.blt pc 80 then (zH pc 42 (zH pc 20 (zH pc 10 (zH pc 5 (zH pc 1 (zQ pc 0 (.aload_n 0) 1) (zH pc 2 (zQ pc 1 (.iload_n 1) 1) (zQ pc 2 (.invokevirtual 449) 3))) (zH pc 8 (zQ pc 5 (.ifCond .ne 4) 3) (zH pc 9 (zQ pc 8 .return_ 1) (zQ pc 9 (.aload_n 0) 1)))) (zH pc 17 (zH pc 13 (zQ pc 10 (.getfield 452) 3) (zH pc 16 (zQ pc 13 (.ifCond .ne 28) 3) (zQ pc 16 (.iconst 0) 1))) (zH pc 18 (zQ pc 17 (.istore_n 2) 1) (zH pc 19 (zQ pc 18 (.iload_n 2) 1) (zQ pc 19 (.iload_n 1) 1))))) (zH pc 32 (zH pc 27 (zH pc 23 (zQ pc 20 (.if_icmp .ge 21) 3) (zH pc 24 (zQ pc 23 (.aload_n 0) 1) (zQ pc 24 (.getfield 198) 3))) (zH pc 28 (zQ pc 27 (.iload_n 2) 1) (zH pc 29 (zQ pc 28 (.aload_n 0) 1) (zQ pc 29 (.getfield 192) 3)))) (zH pc 35 (zH pc 33 (zQ pc 32 (.iload_n 2) 1) (zH pc 34 (zQ pc 33 .iaload 1) (zQ pc 34 .iastore 1))) (zH pc 38 (zQ pc 35 (.iinc 2 1) 3) (zH pc 41 (zQ pc 38 (.goto (-20)) 3) (zQ pc 41 (.aload_n 0) 1)))))) (zH pc 62 (zH pc 52 (zH pc 47 (zH pc 43 (zQ pc 42 .dup 1) (zH pc 46 (zQ pc 43 (.getfield 452) 3) (zQ pc 46 (.iconst 1) 1))) (zH pc 48 (zQ pc 47 .iadd 1) (zH pc 51 (zQ pc 48 (.putfield 452) 3) (zQ pc 51 (.iconst 0) 1)))) (zH pc 55 (zH pc 53 (zQ pc 52 (.istore_n 2) 1) (zH pc 54 (zQ pc 53 (.iload_n 2) 1) (zQ pc 54 (.iload_n 1) 1))) (zH pc 58 (zQ pc 55 (.if_icmp .ge 24) 3) (zH pc 59 (zQ pc 58 (.aload_n 0) 1) (zQ pc 59 (.getfield 195) 3))))) (zH pc 70 (zH pc 67 (zH pc 63 (zQ pc 62 (.aload_n 0) 1) (zH pc 66 (zQ pc 63 (.getfield 192) 3) (zQ pc 66 (.iload_n 2) 1))) (zH pc 68 (zQ pc 67 .iaload 1) (zH pc 69 (zQ pc 68 .dup2 1) (zQ pc 69 .iaload 1)))) (zH pc 73 (zH pc 71 (zQ pc 70 (.iconst 1) 1) (zH pc 72 (zQ pc 71 .iadd 1) (zQ pc 72 .iastore 1))) (zH pc 76 (zQ pc 73 (.iinc 2 1) 3) (zH pc 79 (zQ pc 76 (.goto (-23)) 3) (zQ pc 79 .return_ 1))))))) else none
def zc_203 (pc : Nat) : Option (Instr × Nat) := bif Nat.blt pc 275 then (zH pc 135 (zH pc 66 (zH pc 32 (zH pc 14 (zH pc 6 (zH pc 2 (zH pc 1 (zQ pc 0 (.aload_n 0) 1) (zQ pc 1 (.iconst 0) 1)) (zH pc 5 (zQ pc 2 (.putfield 452) 3) (zQ pc 5 (.iconst 0) 1))) (zH pc 8 (zH pc 7 (zQ pc 6 (.istore_n 1) 1) (zQ pc 7 (.iload_n 1) 1)) (zH pc 10 (zQ pc 8 (.bipush 96) 2) (zH pc 13 (zQ pc 10 (.if_icmp .ge 16) 3) (zQ pc 13 (.aload_n 0) 1))))) (zH pc 23 (zH pc 18 (zH pc 17 (zQ pc 14 (.getfield 195) 3) (zQ pc 17 (.iload_n 1) 1)) (zH pc 19 (zQ pc 18 (.iconst 0) 1) (zH pc 20 (zQ pc 19 .iastore 1) (zQ pc 20 (.iinc 1 1) 3)))) (zH pc 27 (zH pc 26 (zQ pc 23 (.goto (-16)) 3) (zQ pc 26 (.aload_n 0) 1)) (zH pc 28 (zQ pc 27 (.iconst 0) 1) (zH pc 31 (zQ pc 28 (.invokevirtual 455) 3) (zQ pc 31 (.aload_n 0) 1)))))) (zH pc 48 (zH pc 40 (zH pc 38 (zH pc 35 (zQ pc 32 (.getfield 452) 3) (zQ pc 35 (.ifCond .le 5) 3)) (zH pc 39 (zQ pc 38 (.iconst 0) 1) (zQ pc 39 .ireturn 1))) (zH pc 42 (zH pc 41 (zQ pc 40 (.iconst 0) 1) (zQ pc 41 (.istore_n 1) 1)) (zH pc 43 (zQ pc 42 (.iload_n 1) 1) (zH pc 45 (zQ pc 43 (.bipush 96) 2) (zQ pc 45 (.if_icmp .ge 32) 3))))) (zH pc 59 (zH pc 50 (zH pc 49 (zQ pc 48 (.aload_n 0) 1) (zQ pc 49 (.iload_n 1) 1)) (zH pc 53 (zQ pc 50 (.invokevirtual 208) 3) (zH pc 56 (zQ pc 53 (.ifCond .ne 6) 3) (zQ pc 56 (.goto 15) 3)))) (zH pc 63 (zH pc 60 (zQ pc 59 (.aload_n 0) 1) (zQ pc 60 (.getfield 192) 3)) (zH pc 64 (zQ pc 63 (.iconst 0) 1) (zH pc 65 (zQ pc 64 (.iload_n 1) 1) (zQ pc 65 .iastore 1))))))) (zH pc 98 (zH pc 85 (zH pc 74 (zH pc 68 (zH pc 67 (zQ pc 66 (.aload_n 0) 1) (zQ pc 67 (.iconst 1) 1)) (zH pc 71 (zQ pc 68 (.invokevirtual 455) 3) (zQ pc 71 (.iinc 1 1) 3))) (zH pc 78 (zH pc 77 (zQ pc 74 (.goto (-32)) 3) (zQ pc 77 (.aload_n 0) 1)) (zH pc 81 (zQ pc 78 (.getfield 452) 3) (zH pc 84 (zQ pc 81 (.ifCond .le 5) 3) (zQ pc 84 (.iconst 1) 1))))) (zH pc 91 (zH pc 87 (zH pc 86 (zQ pc 85 .ireturn 1) (zQ pc 86 (.iconst 0) 1)) (zH pc 88 (zQ pc 87 (.istore_n 1) 1) (zH pc 89 (zQ pc 88 (.iload_n 1) 1) (zQ pc 89 (.bipush 96) 2)))) (zH pc 95 (zH pc 94 (zQ pc 91 (.if_icmp .ge 63) 3) (zQ pc 94 (.iload_n 1) 1)) (zH pc 96 (zQ pc 95 (.iconst 1) 1) (zH pc 97 (zQ pc 96 .iadd 1) (zQ pc 97 (.istore_n 2) 1)))))) (zH pc 117 (zH pc 106 (zH pc 101 (zH pc 99 (zQ pc 98 (.iload_n 2) 1) (zQ pc 99 (.bipush 96) 2)) (zH pc 104 (zQ pc 101 (.if_icmp .ge 47) 3) (zH pc 105 (zQ pc 104 (.aload_n 0) 1) (zQ pc 105 (.iload_n 1) 1)))) (zH pc 112 (zH pc 109 (zQ pc 106 (.invokevirtual 208) 3) (zQ pc 109 (.ifCond .eq 39) 3)) (zH pc 113 (zQ pc 112 (.aload_n 0) 1) (zH pc 114 (zQ pc 113 (.iload_n 2) 1) (zQ pc 114 (.invokevirtual 208) 3))))) (zH pc 128 (zH pc 123 (zH pc 120 (zQ pc 117 (.ifCond .ne 6) 3) (zQ pc 120 (.goto 22) 3)) (zH pc 124 (zQ pc 123 (.aload_n 0) 1) (zH pc 127 (zQ pc 124 (.getfield 192) 3) (zQ pc 127 (.iconst 0) 1)))) (zH pc 130 (zH pc 129 (zQ pc 128 (.iload_n 1) 1) (zQ pc 129 .iastore 1)) (zH pc 131 (zQ pc 130 (.aload_n 0) 1) (zH pc 134 (zQ pc 131 (.getfield 192) 3) (zQ pc 134 (.iconst 1) 1)))))))) (zH pc 200 (zH pc 171 (zH pc 154 (zH pc 139 (zH pc 137 (zH pc 136 (zQ pc 135 (.iload_n 2) 1) (zQ pc 136 .iastore 1)) (zH pc 138 (zQ pc 137 (.aload_n 0) 1) (zQ pc 138 (.iconst 2) 1))) (zH pc 145 (zH pc 142 (zQ pc 139 (.invokevirtual 455) 3) (zQ pc 142 (.iinc 2 1) 3)) (zH pc 148 (zQ pc 145 (.goto (-47)) 3) (zH pc 151 (zQ pc 148 (.iinc 1 1) 3) (zQ pc 151 (.goto (-63)) 3))))) (zH pc 163 (zH pc 158 (zH pc 155 (zQ pc 154 (.aload_n 0) 1) (zQ pc 155 (.getfield 452) 3)) (zH pc 161 (zQ pc 158 (.ifCond .le 5) 3) (zH pc 162 (zQ pc 161 (.iconst 2) 1) (zQ pc 162 .ireturn 1)))) (zH pc 165 (zH pc 164 (zQ pc 163 (.iconst 0) 1) (zQ pc 164 (.istore_n 1) 1)) (zH pc 166 (zQ pc 165 (.iload_n 1) 1) (zH pc 168 (zQ pc 166 (.bipush 96) 2) (zQ pc 168 (.if_icmp .ge 94) 3)))))) (zH pc 183 (zH pc 175 (zH pc 173 (zH pc 172 (zQ pc 171 (.iload_n 1) 1) (zQ pc 172 (.iconst 1) 1)) (zH pc 174 (zQ pc 173 .iadd 1) (zQ pc 174 (.istore_n 2) 1))) (zH pc 178 (zH pc 176 (zQ pc 175 (.iload_n 2) 1) (zQ pc 176 (.bipush 96) 2)) (zH pc 181 (zQ pc 178 (.if_icmp .ge 78) 3) (zH pc 182 (zQ pc 181 (.aload_n 0) 1) (zQ pc 182 (.iload_n 1) 1))))) (zH pc 192 (zH pc 189 (zH pc 186 (zQ pc 183 (.invokevirtual 208) 3) (zQ pc 186 (.ifCond .eq 70) 3)) (zH pc 190 (zQ pc 189 (.iload_n 2) 1) (zH pc 191 (zQ pc 190 (.iconst 1) 1) (zQ pc 191 .iadd 1)))) (zH pc 194 (zH pc 193 (zQ pc 192 (.istore_n 3) 1) (zQ pc 193 (.iload_n 3) 1)) (zH pc 196 (zQ pc 194 (.bipush 96) 2) (zH pc 199 (zQ pc 196 (.if_icmp .ge 54) 3) (zQ pc 199 (.aload_n 0) 1))))))) (zH pc 233 (zH pc 219 (zH pc 208 (zH pc 204 (zH pc 201 (zQ pc 200 (.iload_n 2) 1) (zQ pc 201 (.invokevirtual 208) 3)) (zH pc 207 (zQ pc 204 (.ifCond .eq 46) 3) (zQ pc 207 (.aload_n 0) 1))) (zH pc 212 (zH pc 209 (zQ pc 208 (.iload_n 3) 1) (zQ pc 209 (.invokevirtual 208) 3)) (zH pc 215 (zQ pc 212 (.ifCond .ne 6) 3) (zH pc 218 (zQ pc 215 (.goto 29) 3) (zQ pc 218 (.aload_n 0) 1))))) (zH pc 226 (zH pc 223 (zH pc 222 (zQ pc 219 (.getfield 192) 3) (zQ pc 222 (.iconst 0) 1)) (zH pc 224 (zQ pc 223 (.iload_n 1) 1) (zH pc 225 (zQ pc 224 .iastore 1) (zQ pc 225 (.aload_n 0) 1)))) (zH pc 230 (zH pc 229 (zQ pc 226 (.getfield 192) 3) (zQ pc 229 (.iconst 1) 1)) (zH pc 231 (zQ pc 230 (.iload_n 2) 1) (zH pc 232 (zQ pc 231 .iastore 1) (zQ pc 232 (.aload_n 0) 1)))))) (zH pc 253 (zH pc 240 (zH pc 237 (zH pc 236 (zQ pc 233 (.getfield 192) 3) (zQ pc 236 (.iconst 2) 1)) (zH pc 238 (zQ pc 237 (.iload_n 3) 1) (zH pc 239 (zQ pc 238 .iastore 1) (zQ pc 239 (.aload_n 0) 1)))) (zH pc 244 (zH pc 241 (zQ pc 240 (.iconst 3) 1) (zQ pc 241 (.invokevirtual 455) 3)) (zH pc 247 (zQ pc 244 (.iinc 3 1) 3) (zH pc 250 (zQ pc 247 (.goto (-54)) 3) (zQ pc 250 (.iinc 2 1) 3))))) (zH pc 266 (zH pc 259 (zH pc 256 (zQ pc 253 (.goto (-78)) 3) (zQ pc 256 (.iinc 1 1) 3)) (zH pc 262 (zQ pc 259 (.goto (-94)) 3) (zH pc 263 (zQ pc 262 (.aload_n 0) 1) (zQ pc 263 (.getfield 452) 3)))) (zH pc 270 (zH pc 269 (zQ pc 266 (.ifCond .le 7) 3) (zQ pc 269 (.iconst 3) 1)) (zH pc 273 (zQ pc 270 (.goto 4) 3) (zH pc 274 (zQ pc 273 (.iconst (-1)) 1) (zQ pc 274 .ireturn 1))))))))) else none
def zc_204 (pc : Nat) : Option (Instr × Nat) := bif Nat.blt pc 47 then (zH pc 22 (zH pc 11 (zH pc 5 (zH pc 1 (zQ pc 0 (.aload_n 0) 1) (zH pc 2 (zQ pc 1 (.iconst 0) 1) (zQ pc 2 (.putfield 201) 3))) (zH pc 7 (zH pc 6 (zQ pc 5 (.iload_n 1) 1) (zQ pc 6 (.iconst 0) 1)) (zH pc 8 (zQ pc 7 (.iconst 3) 1) (zQ pc 8 (.invokestatic 212) 3)))) (zH pc 16 (zH pc 14 (zQ pc 11 (.ifCond .ne 5) 3) (zH pc 15 (zQ pc 14 (.iconst (-1)) 1) (zQ pc 15 .ireturn 1))) (zH pc 20 (zH pc 17 (zQ pc 16 (.aload_n 0) 1) (zQ pc 17 (.invokevirtual 458) 3)) (zH pc 21 (zQ pc 20 (.istore_n 2) 1) (zQ pc 21 (.iload_n 1) 1))))) (zH pc 35 (zH pc 29 (zH pc 25 (zQ pc 22 (.ifCond .ne 7) 3) (zH pc 26 (zQ pc 25 (.iload_n 2) 1) (zQ pc 26 (.goto 20) 3))) (zH pc 31 (zH pc 30 (zQ pc 29 (.iload_n 1) 1) (zQ pc 30 (.iload_n 2) 1)) (zH pc 34 (zQ pc 31 (.if_icmp .gt 14) 3) (zQ pc 34 (.aload_n 0) 1)))) (zH pc 41 (zH pc 39 (zH pc 38 (zQ pc 35 (.getfield 198) 3) (zQ pc 38 (.iload_n 1) 1)) (zH pc 40 (zQ pc 39 (.iconst 1) 1) (zQ pc 40 .isub 1))) (zH pc 45 (zH pc 42 (zQ pc 41 .iaload 1) (zQ pc 42 (.goto 4) 3)) (zH pc 46 (zQ pc 45 (.iconst (-1)) 1) (zQ pc 46 .ireturn 1)))))) else none
def zc_205 (pc : Nat) : Option (Instr × Nat) := bif Nat.blt pc 41 then (zH pc 21 (zH pc 7 (zH pc 2 (zH pc 1 (zQ pc 0 (.aload_n 0) 1) (zQ pc 1 (.iconst 0) 1)) (zH pc 5 (zQ pc 2 (.putfield 201) 3) (zH pc 6 (zQ pc 5 (.aload_n 0) 1) (zQ pc 6 (.iload_n 1) 1)))) (zH pc 14 (zH pc 10 (zQ pc 7 (.invokevirtual 208) 3) (zH pc 13 (zQ pc 10 (.ifCond .eq 10) 3) (zQ pc 13 (.aload_n 0) 1))) (zH pc 17 (zQ pc 14 (.invokevirtual 458) 3) (zH pc 20 (zQ pc 17 (.ifCond .ge 5) 3) (zQ pc 20 (.iconst (-1)) 1))))) (zH pc 29 (zH pc 26 (zH pc 22 (zQ pc 21 .ireturn 1) (zH pc 23 (zQ pc 22 (.aload_n 0) 1) (zQ pc 23 (.getfield 195) 3))) (zH pc 27 (zQ pc 26 (.iload_n 1) 1) (zH pc 28 (zQ pc 27 .iaload 1) (zQ pc 28 (.aload_n 0) 1)))) (zH pc 36 (zH pc 32 (zQ pc 29 (.getfield 452) 3) (zH pc 35 (zQ pc 32 (.if_icmp .ne 7) 3) (zQ pc 35 (.iconst 1) 1))) (zH pc 39 (zQ pc 36 (.goto 4) 3) (zH pc 40 (zQ pc 39 (.iconst 0) 1) (zQ pc 40 .ireturn 1)))))) else none
def zc_206 (pc : Nat) : Option (Instr × Nat) := bif Nat.blt pc 17 then (zH pc 9 (zH pc 2 (zH pc 1 (zQ pc 0 (.aload_n 0) 1) (zQ pc 1 (.iconst 0) 1)) (zH pc 5 (zQ pc 2 (.putfield 201) 3) (zH pc 6 (zQ pc 5 (.aload_n 0) 1) (zQ pc 6 (.getfield 447) 3)))) (zH pc 12 (zH pc 10 (zQ pc 9 (.istore_n 1) 1) (zH pc 11 (zQ pc 10 (.aload_n 0) 1) (zQ pc 11 (.iconst 0) 1))) (zH pc 15 (zQ pc 12 (.putfield 447) 3) (zH pc 16 (zQ pc 15 (.iload_n 1) 1) (zQ pc 16 .ireturn 1))))) else none
def zc_207 (pc : Nat) : Option (Instr × Nat) := bif Nat.blt pc 114 then (zH pc 54 (zH pc 29 (zH pc 14 (zH pc 6 (zH pc 2 (zH pc 1 (zQ pc 0 (.aload_n 0) 1) (zQ pc 1 (.iconst 0) 1)) (zH pc 5 (zQ pc 2 (.putfield 201) 3) (zQ pc 5 (.aload_n 0) 1))) (zH pc 10 (zH pc 7 (zQ pc 6 (.iload_n 1) 1) (zQ pc 7 (.invokevirtual 241) 3)) (zH pc 13 (zQ pc 10 (.ifCond .eq 12) 3) (zQ pc 13 (.iload_n 2) 1)))) (zH pc 22 (zH pc 16 (zH pc 15 (zQ pc 14 (.iconst 0) 1) (zQ pc 15 (.iconst 5) 1)) (zH pc 19 (zQ pc 16 (.invokestatic 212) 3) (zQ pc 19 (.ifCond .ne 10) 3))) (zH pc 24 (zH pc 23 (zQ pc 22 (.aload_n 0) 1) (zQ pc 23 (.iconst 1) 1)) (zH pc 27 (zQ pc 24 (.putfield 201) 3) (zH pc 28 (zQ pc 27 (.iconst 0) 1) (zQ pc 28 .ireturn 1)))))) (zH pc 41 (zH pc 37 (zH pc 33 (zH pc 30 (zQ pc 29 (.iload_n 2) 1) (zQ pc 30 (.ifCond .ne 10) 3)) (zH pc 34 (zQ pc 33 (.aload_n 0) 1) (zQ pc 34 (.getfield 44) 3))) (zH pc 39 (zH pc 38 (zQ pc 37 (.iload_n 1) 1) (zQ pc 38 .iaload 1)) (zH pc 40 (zQ pc 39 .ireturn 1) (zQ pc 40 (.aload_n 0) 1)))) (zH pc 47 (zH pc 45 (zH pc 44 (zQ pc 41 (.getfield 44) 3) (zQ pc 44 (.iload_n 1) 1)) (zH pc 46 (zQ pc 45 .iaload 1) (zQ pc 46 (.iconst 1) 1))) (zH pc 51 (zH pc 50 (zQ pc 47 (.if_icmp .eq 5) 3) (zQ pc 50 (.iconst (-1)) 1)) (zH pc 52 (zQ pc 51 .ireturn 1) (zH pc 53 (zQ pc 52 (.iload_n 2) 1) (zQ pc 53 (.iconst 1) 1))))))) (zH pc 85 (zH pc 68 (zH pc 62 (zH pc 58 (zH pc 57 (zQ pc 54 (.if_icmp .ne 12) 3) (zQ pc 57 (.aload_n 0) 1)) (zH pc 61 (zQ pc 58 (.getfield 47) 3) (zQ pc 61 (.iload_n 1) 1))) (zH pc 66 (zH pc 63 (zQ pc 62 .iaload 1) (zQ pc 63 (.goto 50) 3)) (zH pc 67 (zQ pc 66 (.iload_n 2) 1) (zQ pc 67 (.iconst 2) 1)))) (zH pc 76 (zH pc 72 (zH pc 71 (zQ pc 68 (.if_icmp .ne 11) 3) (zQ pc 71 (.aload_n 0) 1)) (zH pc 73 (zQ pc 72 (.iload_n 1) 1) (zQ pc 73 (.invokevirtual 252) 3))) (zH pc 80 (zH pc 79 (zQ pc 76 (.goto 37) 3) (zQ pc 79 (.iload_n 2) 1)) (zH pc 81 (zQ pc 80 (.iconst 3) 1) (zH pc 84 (zQ pc 81 (.if_icmp .ne 12) 3) (zQ pc 84 (.aload_n 0) 1)))))) (zH pc 99 (zH pc 93 (zH pc 89 (zH pc 88 (zQ pc 85 (.getfield 50) 3) (zQ pc 88 (.iload_n 1) 1)) (zH pc 90 (zQ pc 89 .iaload 1) (zQ pc 90 (.goto 23) 3))) (zH pc 95 (zH pc 94 (zQ pc 93 (.iload_n 2) 1) (zQ pc 94 (.iconst 4) 1)) (zH pc 98 (zQ pc 95 (.if_icmp .ne 12) 3) (zQ pc 98 (.aload_n 0) 1)))) (zH pc 107 (zH pc 103 (zH pc 102 (zQ pc 99 (.getfield 53) 3) (zQ pc 102 (.iload_n 1) 1)) (zH pc 104 (zQ pc 103 .iaload 1) (zQ pc 104 (.goto 9) 3))) (zH pc 111 (zH pc 108 (zQ pc 107 (.aload_n 0) 1) (zQ pc 108 (.getfield 65) 3)) (zH pc 112 (zQ pc 111 (.iload_n 1) 1) (zH pc 113 (zQ pc 112 .iaload 1) (zQ pc 113 .ireturn 1)))))))) else none
def zc_208 (pc : Nat) : Option (Instr × Nat) := bif Nat.blt pc 55 then (zH pc 29 (zH pc 14 (zH pc 6 (zH pc 2 (zH pc 1 (zQ pc 0 (.aload_n 0) 1) (zQ pc 1 (.iconst 0) 1)) (zH pc 5 (zQ pc 2 (.putfield 201) 3) (zQ pc 5 (.aload_n 0) 1))) (zH pc 10 (zH pc 7 (zQ pc 6 (.iload_n 1) 1) (zQ pc 7 (.invokevirtual 241) 3)) (zH pc 13 (zQ pc 10 (.ifCond .eq 43) 3) (zQ pc 13 (.aload_n 0) 1)))) (zH pc 20 (zH pc 18 (zH pc 17 (zQ pc 14 (.getfield 44) 3) (zQ pc 17 (.iload_n 1) 1)) (zH pc 19 (zQ pc 18 .iaload 1) (zQ pc 19 (.iconst 1) 1))) (zH pc 24 (zH pc 23 (zQ pc 20 (.if_icmp .ne 33) 3) (zQ pc 23 (.iload_n 2) 1)) (zH pc 25 (zQ pc 24 (.iconst 0) 1) (zH pc 26 (zQ pc 25 (.aload_n 0) 1) (zQ pc 26 (.getfield 68) 3)))))) (zH pc 43 (zH pc 33 (zH pc 31 (zH pc 30 (zQ pc 29 (.iload_n 1) 1) (zQ pc 30 .iaload 1)) (zH pc 32 (zQ pc 31 (.iconst 1) 1) (zQ pc 32 .isub 1))) (zH pc 39 (zH pc 36 (zQ pc 33 (.invokestatic 212) 3) (zQ pc 36 (.ifCond .eq 17) 3)) (zH pc 40 (zQ pc 39 (.aload_n 0) 1) (zQ pc 40 (.getfield 71) 3)))) (zH pc 48 (zH pc 46 (zH pc 45 (zQ pc 43 (.bipush 120) 2) (zQ pc 45 (.iload_n 1) 1)) (zH pc 47 (zQ pc 46 .imul 1) (zQ pc 47 (.iload_n 2) 1))) (zH pc 50 (zH pc 49 (zQ pc 48 .iadd 1) (zQ pc 49 .iaload 1)) (zH pc 53 (zQ pc 50 (.goto 4) 3) (zH pc 54 (zQ pc 53 (.iconst (-1)) 1) (zQ pc 54 .ireturn 1))))))) else none
def zc_209 (pc : Nat) : Option (Instr × Nat) := bif Nat.blt pc 24 then (zH pc 13 (zH pc 5 (zH pc 1 (zQ pc 0 (.aload_n 0) 1) (zH pc 2 (zQ pc 1 (.iconst 0) 1) (zQ pc 2 (.putfield 201) 3))) (zH pc 7 (zH pc 6 (zQ pc 5 (.aload_n 0) 1) (zQ pc 6 (.iload_n 1) 1)) (zH pc 10 (zQ pc 7 (.invokevirtual 227) 3) (zQ pc 10 (.ifCond .eq 12) 3)))) (zH pc 18 (zH pc 14 (zQ pc 13 (.aload_n 0) 1) (zH pc 17 (zQ pc 14 (.getfield 25) 3) (zQ pc 17 (.iload_n 1) 1))) (zH pc 22 (zH pc 19 (zQ pc 18 .iaload 1) (zQ pc 19 (.goto 4) 3)) (zH pc 23 (zQ pc 22 (.iconst (-1)) 1) (zQ pc 23 .ireturn 1))))) else none
def zc_210 (pc : Nat) : Option (Instr × Nat) := bif Nat.blt pc 79 then (zH pc 39 (zH pc 19 (zH pc 7 (zH pc 2 (zH pc 1 (zQ pc 0 (.aload_n 0) 1) (zQ pc 1 (.iconst 0) 1)) (zH pc 5 (zQ pc 2 (.putfield 201) 3) (zH pc 6 (zQ pc 5 (.iload_n 1) 1) (zQ pc 6 (.iconst 0) 1)))) (zH pc 12 (zH pc 8 (zQ pc 7 (.aload_n 0) 1) (zH pc 11 (zQ pc 8 (.getfield 264) 3) (zQ pc 11 (.iconst 1) 1))) (zH pc 13 (zQ pc 12 .isub 1) (zH pc 16 (zQ pc 13 (.invokestatic 212) 3) (zQ pc 16 (.ifCond .eq 12) 3))))) (zH pc 29 (zH pc 22 (zH pc 20 (zQ pc 19 (.iload_n 2) 1) (zH pc 21 (zQ pc 20 (.iconst 0) 1) (zQ pc 21 (.iconst 3) 1))) (zH pc 25 (zQ pc 22 (.invokestatic 212) 3) (zH pc 28 (zQ pc 25 (.ifCond .ne 5) 3) (zQ pc 28 (.iconst (-1)) 1)))) (zH pc 34 (zH pc 30 (zQ pc 29 .ireturn 1) (zH pc 31 (zQ pc 30 (.iload_n 2) 1) (zQ pc 31 (.ifCond .ne 12) 3))) (zH pc 35 (zQ pc 34 (.aload_n 0) 1) (zH pc 38 (zQ pc 35 (.getfield 80) 3) (zQ pc 38 (.iload_n 1) 1)))))) (zH pc 59 (zH pc 48 (zH pc 43 (zH pc 40 (zQ pc 39 .iaload 1) (zQ pc 40 (.goto 38) 3)) (zH pc 44 (zQ pc 43 (.iload_n 2) 1) (zH pc 45 (zQ pc 44 (.iconst 1) 1) (zQ pc 45 (.if_icmp .ne 13) 3)))) (zH pc 52 (zH pc 49 (zQ pc 48 (.aload_n 0) 1) (zH pc 50 (zQ pc 49 (.iload_n 1) 1) (zQ pc 50 (.bipush 99) 2))) (zH pc 55 (zQ pc 52 (.invokevirtual 271) 3) (zH pc 58 (zQ pc 55 (.goto 23) 3) (zQ pc 58 (.iload_n 2) 1))))) (zH pc 69 (zH pc 64 (zH pc 60 (zQ pc 59 (.iconst 2) 1) (zH pc 63 (zQ pc 60 (.if_icmp .ne 12) 3) (zQ pc 63 (.aload_n 0) 1))) (zH pc 67 (zQ pc 64 (.getfield 86) 3) (zH pc 68 (zQ pc 67 (.iload_n 1) 1) (zQ pc 68 .iaload 1)))) (zH pc 76 (zH pc 72 (zQ pc 69 (.goto 9) 3) (zH pc 73 (zQ pc 72 (.aload_n 0) 1) (zQ pc 73 (.getfield 89) 3))) (zH pc 77 (zQ pc 76 (.iload_n 1) 1) (zH pc 78 (zQ pc 77 .iaload 1) (zQ pc 78 .ireturn 1))))))) else none
def zc_211 (pc : Nat) : Option (Instr × Nat) := bif Nat.blt pc 242 then (zH pc 156 (zH pc 107 (zH pc 86 (zH pc 8 (zH pc 5 (zH pc 1 (zQ pc 0 (.aload_n 0) 1) (zH pc 2 (zQ pc 1 (.iconst 0) 1) (zQ pc 2 (.putfield 201) 3))) (zH pc 6 (zQ pc 5 (.iconst 0) 1) (zH pc 7 (zQ pc 6 (.istore_n 2) 1) (zQ pc 7 (.iload_n 1) 1)))) (zH pc 80 (zH pc 76 (zQ pc 8 (.tableswitch 232 0 12 #[68, 73, 78, 83, 114, 142, 147, 152, 157, 164, 171, 176, 203]) 68) (zH pc 77 (zQ pc 76 (.aload_n 0) 1) (zQ pc 77 (.getfield 220) 3))) (zH pc 82 (zH pc 81 (zQ pc 80 .ireturn 1) (zQ pc 81 (.aload_n 0) 1)) (zH pc 85 (zQ pc 82 (.getfield 205) 3) (zQ pc 85 .ireturn 1))))) (zH pc 94 (zH pc 91 (zH pc 87 (zQ pc 86 (.aload_n 0) 1) (zH pc 90 (zQ pc 87 (.getfield 216) 3) (zQ pc 90 .ireturn 1))) (zH pc 92 (zQ pc 91 (.iconst 0) 1) (zH pc 93 (zQ pc 92 (.istore_n 3) 1) (zQ pc 93 (.iload_n 3) 1)))) (zH pc 101 (zH pc 95 (zQ pc 94 (.aload_n 0) 1) (zH pc 98 (zQ pc 95 (.getfield 216) 3) (zQ pc 98 (.if_icmp .ge 22) 3))) (zH pc 105 (zH pc 102 (zQ pc 101 (.aload_n 0) 1) (zQ pc 102 (.getfield 44) 3)) (zH pc 106 (zQ pc 105 (.iload_n 3) 1) (zQ pc 106 .iaload 1)))))) (zH pc 131 (zH pc 121 (zH pc 114 (zH pc 108 (zQ pc 107 (.iconst 1) 1) (zH pc 111 (zQ pc 108 (.if_icmp .ne 6) 3) (zQ pc 111 (.iinc 2 1) 3))) (zH pc 117 (zQ pc 114 (.iinc 3 1) 3) (zH pc 120 (zQ pc 117 (.goto (-24)) 3) (zQ pc 120 (.iload_n 2) 1)))) (zH pc 124 (zH pc 122 (zQ pc 121 .ireturn 1) (zH pc 123 (zQ pc 122 (.iconst 0) 1) (zQ pc 123 (.istore_n 3) 1))) (zH pc 127 (zH pc 125 (zQ pc 124 (.iload_n 3) 1) (zQ pc 125 (.bipush 96) 2)) (zH pc 130 (zQ pc 127 (.if_icmp .ge 21) 3) (zQ pc 130 (.aload_n 0) 1))))) (zH pc 145 (zH pc 136 (zH pc 134 (zQ pc 131 (.getfield 25) 3) (zH pc 135 (zQ pc 134 (.iload_n 3) 1) (zQ pc 135 .iaload 1))) (zH pc 139 (zQ pc 136 (.ifCond .lt 6) 3) (zH pc 142 (zQ pc 139 (.iinc 2 1) 3) (zQ pc 142 (.iinc 3 1) 3)))) (zH pc 150 (zH pc 148 (zQ pc 145 (.goto (-21)) 3) (zH pc 149 (zQ pc 148 (.iload_n 2) 1) (zQ pc 149 .ireturn 1))) (zH pc 154 (zH pc 151 (zQ pc 150 (.aload_n 0) 1) (zQ pc 151 (.getfield 264) 3)) (zH pc 155 (zQ pc 154 .ireturn 1) (zQ pc 155 (.aload_n 0) 1))))))) (zH pc 196 (zH pc 177 (zH pc 166 (zH pc 161 (zH pc 159 (zQ pc 156 (.getfield 268) 3) (zH pc 160 (zQ pc 159 .ireturn 1) (zQ pc 160 (.aload_n 0) 1))) (zH pc 164 (zQ pc 161 (.getfield 447) 3) (zH pc 165 (zQ pc 164 .ireturn 1) (zQ pc 165 (.aload_n 0) 1)))) (zH pc 171 (zH pc 169 (zQ pc 166 (.getfield 104) 3) (zH pc 170 (zQ pc 169 (.iconst 0) 1) (zQ pc 170 .iaload 1))) (zH pc 173 (zH pc 172 (zQ pc 171 .ireturn 1) (zQ pc 172 (.aload_n 0) 1)) (zH pc 176 (zQ pc 173 (.getfield 122) 3) (zQ pc 176 (.iconst 0) 1))))) (zH pc 185 (zH pc 180 (zH pc 178 (zQ pc 177 .iaload 1) (zH pc 179 (zQ pc 178 .ireturn 1) (zQ pc 179 (.aload_n 0) 1))) (zH pc 183 (zQ pc 180 (.getfield 276) 3) (zH pc 184 (zQ pc 183 .ireturn 1) (zQ pc 184 (.iconst 0) 1)))) (zH pc 188 (zH pc 186 (zQ pc 185 (.istore_n 3) 1) (zH pc 187 (zQ pc 186 (.iload_n 3) 1) (zQ pc 187 (.aload_n 0) 1))) (zH pc 194 (zH pc 191 (zQ pc 188 (.getfield 205) 3) (zQ pc 191 (.if_icmp .ge 18) 3)) (zH pc 195 (zQ pc 194 (.iload_n 2) 1) (zQ pc 195 (.aload_n 0) 1)))))) (zH pc 217 (zH pc 206 (zH pc 201 (zH pc 199 (zQ pc 196 (.getfield 13) 3) (zH pc 200 (zQ pc 199 (.iload_n 3) 1) (zQ pc 200 .iaload 1))) (zH pc 202 (zQ pc 201 .iadd 1) (zH pc 203 (zQ pc 202 (.istore_n 2) 1) (zQ pc 203 (.iinc 3 1) 3)))) (zH pc 211 (zH pc 209 (zQ pc 206 (.goto (-20)) 3) (zH pc 210 (zQ pc 209 (.iload_n 2) 1) (zQ pc 210 .ireturn 1))) (zH pc 214 (zH pc 213 (zQ pc 211 (.bipush 100) 2) (zQ pc 213 (.istore_n 3) 1)) (zH pc 215 (zQ pc 214 (.iload_n 3) 1) (zQ pc 215 (.bipush 116) 2))))) (zH pc 229 (zH pc 224 (zH pc 220 (zQ pc 217 (.if_icmp .ge 21) 3) (zH pc 221 (zQ pc 220 (.aload_n 0) 1) (zQ pc 221 (.getfield 25) 3))) (zH pc 225 (zQ pc 224 (.iload_n 3) 1) (zH pc 226 (zQ pc 225 .iaload 1) (zQ pc 226 (.ifCond .lt 6) 3)))) (zH pc 238 (zH pc 232 (zQ pc 229 (.iinc 2 1) 3) (zH pc 235 (zQ pc 232 (.iinc 3 1) 3) (zQ pc 235 (.goto (-21)) 3))) (zH pc 240 (zH pc 239 (zQ pc 238 (.iload_n 2) 1) (zQ pc 239 .ireturn 1)) (zH pc 241 (zQ pc 240 (.iconst (-1)) 1) (zQ pc 241 .ireturn 1)))))))) else none
def zc_212 (pc : Nat) : Option (Instr × Nat) := bif Nat.blt pc 1500 then (zH pc 824 (zH pc 474 (zH pc 300 (zH pc 221 (zH pc 178 (zH pc 26 (zH pc 15 (zH pc 7 (zH pc 3 (zQ pc 0 (.new 8) 3) (zH pc 4 (zQ pc 3 .dup 1) (zQ pc 4 (.invokespecial 15) 3))) (zH pc 11 (zH pc 8 (zQ pc 7 (.astore_n 1) 1) (zQ pc 8 (.new 16) 3)) (zH pc 12 (zQ pc 11 .dup 1) (zQ pc 12 (.invokespecial 18) 3)))) (zH pc 20 (zH pc 17 (zH pc 16 (zQ pc 15 (.astore_n 2) 1) (zQ pc 16 (.iconst 1) 1)) (zH pc 19 (zQ pc 17 (.newarray .long) 2) (zQ pc 19 (.astore_n 3) 1))) (zH pc 23 (zH pc 21 (zQ pc 20 (.iconst 0) 1) (zQ pc 21 (.istore 4) 2)) (zH pc 25 (zQ pc 23 (.iload 4) 2) (zQ pc 25 (.aload_n 0) 1))))) (zH pc 37 (zH pc 30 (zH pc 27 (zQ pc 26 .arraylength 1) (zH pc 29 (zQ pc 27 (.bipush 7) 2) (zQ pc 29 .isub 1))) (zH pc 34 (zH pc 33 (zQ pc 30 (.if_icmp .gt 1468) 3) (zQ pc 33 (.aload_n 0) 1)) (zH pc 36 (zQ pc 34 (.iload 4) 2) (zQ pc 36 .iaload 1)))) (zH pc 173 (zH pc 40 (zH pc 39 (zQ pc 37 (.bipush 31) 2) (zQ pc 39 .iand 1)) (zH pc 172 (zQ pc 40 (.tableswitch 1452 0 28 #[132, 157, 206, 279, 316, 365, 418, 471, 496, 533, 558, 583, 730, 743, 780, 841, 890, 977, 1038, 1087, 1148, 1197, 1222, 1247, 1260, 1328, 1365, 1390, 1427]) 132) (zQ pc 172 (.aload_n 1) 1))) (zH pc 176 (zH pc 174 (zQ pc 173 (.aload_n 0) 1) (zQ pc 174 (.iload 4) 2)) (zH pc 177 (zQ pc 176 (.iconst 1) 1) (zQ pc 177 .iadd 1)))))) (zH pc 201 (zH pc 188 (zH pc 183 (zH pc 179 (zQ pc 178 .iaload 1) (zH pc 182 (zQ pc 179 (.invokevirtual 19) 3) (zQ pc 182 (.aload_n 2) 1))) (zH pc 186 (zH pc 184 (zQ pc 183 (.aload_n 0) 1) (zQ pc 184 (.iload 4) 2)) (zH pc 187 (zQ pc 186 (.iconst 1) 1) (zQ pc 187 .iadd 1)))) (zH pc 196 (zH pc 192 (zH pc 189 (zQ pc 188 .iaload 1) (zQ pc 189 (.invokevirtual 23) 3)) (zH pc 195 (zQ pc 192 (.if_icmp .eq 1300) 3) (zQ pc 195 (.iconst 0) 1))) (zH pc 198 (zH pc 197 (zQ pc 196 .ireturn 1) (zQ pc 197 (.aload_n 1) 1)) (zH pc 199 (zQ pc 198 (.aload_n 0) 1) (zQ pc 199 (.iload 4) 2))))) (zH pc 210 (zH pc 205 (zH pc 203 (zH pc 202 (zQ pc 201 (.iconst 1) 1) (zQ pc 202 .iadd 1)) (zH pc 204 (zQ pc 203 .iaload 1) (zQ pc 204 (.aload_n 0) 1))) (zH pc 208 (zH pc 207 (zQ pc 205 (.iload 4) 2) (zQ pc 207 (.iconst 2) 1)) (zH pc 209 (zQ pc 208 .iadd 1) (zQ pc 209 .iaload 1)))) (zH pc 215 (zH pc 213 (zH pc 211 (zQ pc 210 (.aload_n 0) 1) (zQ pc 211 (.iload 4) 2)) (zH pc 214 (zQ pc 213 (.iconst 3) 1) (zQ pc 214 .iadd 1))) (zH pc 219 (zH pc 216 (zQ pc 215 .iaload 1) (zQ pc 216 (.invokevirtual 24) 3)) (zH pc 220 (zQ pc 219 (.aload_n 2) 1) (zQ pc 220 (.aload_n 0) 1))))))) (zH pc 262 (zH pc 241 (zH pc 230 (zH pc 225 (zH pc 223 (zQ pc 221 (.iload 4) 2) (zH pc 224 (zQ pc 223 (.iconst 1) 1) (zQ pc 224 .iadd 1))) (zH pc 227 (zH pc 226 (zQ pc 225 .iaload 1) (zQ pc 226 (.aload_n 0) 1)) (zH pc 229 (zQ pc 227 (.iload 4) 2) (zQ pc 229 (.iconst 2) 1)))) (zH pc 235 (zH pc 232 (zH pc 231 (zQ pc 230 .iadd 1) (zQ pc 231 .iaload 1)) (zH pc 233 (zQ pc 232 (.aload_n 0) 1) (zQ pc 233 (.iload 4) 2))) (zH pc 237 (zH pc 236 (zQ pc 235 (.iconst 3) 1) (zQ pc 236 .iadd 1)) (zH pc 238 (zQ pc 237 .iaload 1) (zQ pc 238 (.invokevirtual 28) 3))))) (zH pc 252 (zH pc 247 (zH pc 245 (zH pc 244 (zQ pc 241 (.if_icmp .eq 1251) 3) (zQ pc 244 (.iconst 0) 1)) (zH pc 246 (zQ pc 245 .ireturn 1) (zQ pc 246 (.aload_n 1) 1))) (zH pc 250 (zH pc 248 (zQ pc 247 (.aload_n 0) 1) (zQ pc 248 (.iload 4) 2)) (zH pc 251 (zQ pc 250 (.iconst 1) 1) (zQ pc 251 .iadd 1)))) (zH pc 257 (zH pc 254 (zH pc 253 (zQ pc 252 .iaload 1) (zQ pc 253 (.aload_n 0) 1)) (zH pc 256 (zQ pc 254 (.iload 4) 2) (zQ pc 256 (.iconst 2) 1))) (zH pc 259 (zH pc 258 (zQ pc 257 .iadd 1) (zQ pc 258 .iaload 1)) (zH pc 260 (zQ pc 259 (.aload_n 0) 1) (zQ pc 260 (.iload 4) 2)))))) (zH pc 281 (zH pc 270 (zH pc 265 (zH pc 263 (zQ pc 262 (.iconst 3) 1) (zH pc 264 (zQ pc 263 .iadd 1) (zQ pc 264 .iaload 1))) (zH pc 268 (zH pc 266 (zQ pc 265 (.aload_n 0) 1) (zQ pc 266 (.iload 4) 2)) (zH pc 269 (zQ pc 268 (.iconst 4) 1) (zQ pc 269 .iadd 1)))) (zH pc 275 (zH pc 272 (zH pc 271 (zQ pc 270 .iaload 1) (zQ pc 271 (.aload_n 0) 1)) (zH pc 274 (zQ pc 272 (.iload 4) 2) (zQ pc 274 (.iconst 5) 1))) (zH pc 277 (zH pc 276 (zQ pc 275 .iadd 1) (zQ pc 276 .iaload 1)) (zH pc 280 (zQ pc 277 (.invokevirtual 29) 3) (zQ pc 280 (.aload_n 2) 1))))) (zH pc 291 (zH pc 286 (zH pc 284 (zH pc 282 (zQ pc 281 (.aload_n 0) 1) (zQ pc 282 (.iload 4) 2)) (zH pc 285 (zQ pc 284 (.iconst 1) 1) (zQ pc 285 .iadd 1))) (zH pc 288 (zH pc 287 (zQ pc 286 .iaload 1) (zQ pc 287 (.aload_n 0) 1)) (zH pc 290 (zQ pc 288 (.iload 4) 2) (zQ pc 290 (.iconst 2) 1)))) (zH pc 296 (zH pc 293 (zH pc 292 (zQ pc 291 .iadd 1) (zQ pc 292 .iaload 1)) (zH pc 294 (zQ pc 293 (.aload_n 0) 1) (zQ pc 294 (.iload 4) 2))) (zH pc 298 (zH pc 297 (zQ pc 296 (.iconst 3) 1) (zQ pc 297 .iadd 1)) (zH pc 299 (zQ pc 298 .iaload 1) (zQ pc 299 (.aload_n 0) 1)))))))) (zH pc 384 (zH pc 342 (zH pc 321 (zH pc 309 (zH pc 304 (zH pc 302 (zQ pc 300 (.iload 4) 2) (zH pc 303 (zQ pc 302 (.iconst 4) 1) (zQ pc 303 .iadd 1))) (zH pc 306 (zH pc 305 (zQ pc 304 .iaload 1) (zQ pc 305 (.aload_n 0) 1)) (zH pc 308 (zQ pc 306 (.iload 4) 2) (zQ pc 308 (.iconst 5) 1)))) (zH pc 317 (zH pc 311 (zH pc 310 (zQ pc 309 .iadd 1) (zQ pc 310 .iaload 1)) (zH pc 314 (zQ pc 311 (.invokevirtual 33) 3) (zQ pc 314 (.if_icmp .eq 1178) 3))) (zH pc 319 (zH pc 318 (zQ pc 317 (.iconst 0) 1) (zQ pc 318 .ireturn 1)) (zH pc 320 (zQ pc 319 (.aload_n 1) 1) (zQ pc 320 (.aload_n 0) 1))))) (zH pc 331 (zH pc 326 (zH pc 324 (zH pc 323 (zQ pc 321 (.iload 4) 2) (zQ pc 323 (.iconst 1) 1)) (zH pc 325 (zQ pc 324 .iadd 1) (zQ pc 325 .iaload 1))) (zH pc 329 (zH pc 327 (zQ pc 326 (.aload_n 0) 1) (zQ pc 327 (.iload 4) 2)) (zH pc 330 (zQ pc 329 (.iconst 2) 1) (zQ pc 330 .iadd 1)))) (zH pc 337 (zH pc 335 (zH pc 332 (zQ pc 331 .iaload 1) (zQ pc 332 (.invokevirtual 34) 3)) (zH pc 336 (zQ pc 335 (.aload_n 2) 1) (zQ pc 336 (.aload_n 0) 1))) (zH pc 340 (zH pc 339 (zQ pc 337 (.iload 4) 2) (zQ pc 339 (.iconst 1) 1)) (zH pc 341 (zQ pc 340 .iadd 1) (zQ pc 341 .iaload 1)))))) (zH pc 363 (zH pc 354 (zH pc 346 (zH pc 343 (zQ pc 342 (.aload_n 0) 1) (zH pc 345 (zQ pc 343 (.iload 4) 2) (zQ pc 345 (.iconst 2) 1))) (zH pc 348 (zH pc 347 (zQ pc 346 .iadd 1) (zQ pc 347 .iaload 1)) (zH pc 351 (zQ pc 348 (.invokevirtual 38) 3) (zQ pc 351 (.if_icmp .eq 1141) 3)))) (zH pc 358 (zH pc 356 (zH pc 355 (zQ pc 354 (.iconst 0) 1) (zQ pc 355 .ireturn 1)) (zH pc 357 (zQ pc 356 (.aload_n 1) 1) (zQ pc 357 (.aload_n 0) 1))) (zH pc 361 (zH pc 360 (zQ pc 358 (.iload 4) 2) (zQ pc 360 (.iconst 1) 1)) (zH pc 362 (zQ pc 361 .iadd 1) (zQ pc 362 .iaload 1))))) (zH pc 373 (zH pc 368 (zH pc 366 (zH pc 364 (zQ pc 363 (.aload_n 0) 1) (zQ pc 364 (.iload 4) 2)) (zH pc 367 (zQ pc 366 (.iconst 2) 1) (zQ pc 367 .iadd 1))) (zH pc 370 (zH pc 369 (zQ pc 368 .iaload 1) (zQ pc 369 (.aload_n 0) 1)) (zH pc 372 (zQ pc 370 (.iload 4) 2) (zQ pc 372 (.iconst 3) 1)))) (zH pc 379 (zH pc 375 (zH pc 374 (zQ pc 373 .iadd 1) (zQ pc 374 .iaload 1)) (zH pc 378 (zQ pc 375 (.invokevirtual 39) 3) (zQ pc 378 (.aload_n 2) 1))) (zH pc 382 (zH pc 380 (zQ pc 379 (.aload_n 0) 1) (zQ pc 380 (.iload 4) 2)) (zH pc 383 (zQ pc 382 (.iconst 1) 1) (zQ pc 383 .iadd 1))))))) (zH pc 429 (zH pc 405 (zH pc 392 (zH pc 388 (zH pc 385 (zQ pc 384 .iaload 1) (zH pc 386 (zQ pc 385 (.aload_n 0) 1) (zQ pc 386 (.iload 4) 2))) (zH pc 390 (zH pc 389 (zQ pc 388 (.iconst 2) 1) (zQ pc 389 .iadd 1)) (zH pc 391 (zQ pc 390 .iaload 1) (zQ pc 391 (.aload_n 0) 1)))) (zH pc 397 (zH pc 395 (zH pc 394 (zQ pc 392 (.iload 4) 2) (zQ pc 394 (.iconst 3) 1)) (zH pc 396 (zQ pc 395 .iadd 1) (zQ pc 396 .iaload 1))) (zH pc 403 (zH pc 400 (zQ pc 397 (.invokevirtual 42) 3) (zQ pc 400 (.if_icmp .eq 1092) 3)) (zH pc 404 (zQ pc 403 (.iconst 0) 1) (zQ pc 404 .ireturn 1))))) (zH pc 415 (zH pc 410 (zH pc 407 (zH pc 406 (zQ pc 405 (.aload_n 1) 1) (zQ pc 406 (.aload_n 0) 1)) (zH pc 409 (zQ pc 407 (.iload 4) 2) (zQ pc 409 (.iconst 1) 1))) (zH pc 412 (zH pc 411 (zQ pc 410 .iadd 1) (zQ pc 411 .iaload 1)) (zH pc 413 (zQ pc 412 (.aload_n 0) 1) (zQ pc 413 (.iload 4) 2)))) (zH pc 421 (zH pc 417 (zH pc 416 (zQ pc 415 (.iconst 2) 1) (zQ pc 416 .iadd 1)) (zH pc 418 (zQ pc 417 .iaload 1) (zQ pc 418 (.ifCond .eq 7) 3))) (zH pc 425 (zH pc 422 (zQ pc 421 (.iconst 1) 1) (zQ pc 422 (.goto 4) 3)) (zH pc 426 (zQ pc 425 (.iconst 0) 1) (zQ pc 426 (.invokevirtual 43) 3)))))) (zH pc 450 (zH pc 437 (zH pc 433 (zH pc 430 (zQ pc 429 (.aload_n 2) 1) (zH pc 431 (zQ pc 430 (.aload_n 0) 1) (zQ pc 431 (.iload 4) 2))) (zH pc 435 (zH pc 434 (zQ pc 433 (.iconst 1) 1) (zQ pc 434 .iadd 1)) (zH pc 436 (zQ pc 435 .iaload 1) (zQ pc 436 (.aload_n 0) 1)))) (zH pc 442 (zH pc 440 (zH pc 439 (zQ pc 437 (.iload 4) 2) (zQ pc 439 (.iconst 2) 1)) (zH pc 441 (zQ pc 440 .iadd 1) (zQ pc 441 .iaload 1))) (zH pc 446 (zH pc 445 (zQ pc 442 (.ifCond .eq 7) 3) (zQ pc 445 (.iconst 1) 1)) (zH pc 449 (zQ pc 446 (.goto 4) 3) (zQ pc 449 (.iconst 0) 1))))) (zH pc 463 (zH pc 458 (zH pc 456 (zH pc 453 (zQ pc 450 (.invokevirtual 47) 3) (zQ pc 453 (.if_icmp .eq 1039) 3)) (zH pc 457 (zQ pc 456 (.iconst 0) 1) (zQ pc 457 .ireturn 1))) (zH pc 460 (zH pc 459 (zQ pc 458 (.aload_n 1) 1) (zQ pc 459 (.aload_n 0) 1)) (zH pc 462 (zQ pc 460 (.iload 4) 2) (zQ pc 462 (.iconst 1) 1)))) (zH pc 468 (zH pc 465 (zH pc 464 (zQ pc 463 .iadd 1) (zQ pc 464 .iaload 1)) (zH pc 466 (zQ pc 465 (.aload_n 0) 1) (zQ pc 466 (.iload 4) 2))) (zH pc 470 (zH pc 469 (zQ pc 468 (.iconst 2) 1) (zQ pc 469 .iadd 1)) (zH pc 471 (zQ pc 470 .iaload 1) (zQ pc 471 (.ifCond .eq 7) 3))))))))) (zH pc 651 (zH pc 563 (zH pc 521 (zH pc 495 (zH pc 486 (zH pc 479 (zH pc 475 (zQ pc 474 (.iconst 1) 1) (zH pc 478 (zQ pc 475 (.goto 4) 3) (zQ pc 478 (.iconst 0) 1))) (zH pc 483 (zH pc 482 (zQ pc 479 (.invokevirtual 48) 3) (zQ pc 482 (.aload_n 2) 1)) (zH pc 484 (zQ pc 483 (.aload_n 0) 1) (zQ pc 484 (.iload 4) 2)))) (zH pc 490 (zH pc 488 (zH pc 487 (zQ pc 486 (.iconst 1) 1) (zQ pc 487 .iadd 1)) (zH pc 489 (zQ pc 488 .iaload 1) (zQ pc 489 (.aload_n 0) 1))) (zH pc 493 (zH pc 492 (zQ pc 490 (.iload 4) 2) (zQ pc 492 (.iconst 2) 1)) (zH pc 494 (zQ pc 493 .iadd 1) (zQ pc 494 .iaload 1))))) (zH pc 510 (zH pc 502 (zH pc 498 (zQ pc 495 (.ifCond .eq 7) 3) (zH pc 499 (zQ pc 498 (.iconst 1) 1) (zQ pc 499 (.goto 4) 3))) (zH pc 506 (zH pc 503 (zQ pc 502 (.iconst 0) 1) (zQ pc 503 (.invokevirtual 51) 3)) (zH pc 509 (zQ pc 506 (.if_icmp .eq 986) 3) (zQ pc 509 (.iconst 0) 1)))) (zH pc 515 (zH pc 512 (zH pc 511 (zQ pc 510 .ireturn 1) (zQ pc 511 (.aload_n 1) 1)) (zH pc 513 (zQ pc 512 (.aload_n 0) 1) (zQ pc 513 (.iload 4) 2))) (zH pc 517 (zH pc 516 (zQ pc 515 (.iconst 1) 1) (zQ pc 516 .iadd 1)) (zH pc 518 (zQ pc 517 .iaload 1) (zQ pc 518 (.invokevirtual 52) 3)))))) (zH pc 542 (zH pc 531 (zH pc 525 (zH pc 522 (zQ pc 521 (.aload_n 2) 1) (zH pc 523 (zQ pc 522 (.aload_n 0) 1) (zQ pc 523 (.iload 4) 2))) (zH pc 527 (zH pc 526 (zQ pc 525 (.iconst 1) 1) (zQ pc 526 .iadd 1)) (zH pc 528 (zQ pc 527 .iaload 1) (zQ pc 528 (.invokevirtual 55) 3)))) (zH pc 537 (zH pc 535 (zH pc 534 (zQ pc 531 (.if_icmp .eq 961) 3) (zQ pc 534 (.iconst 0) 1)) (zH pc 536 (zQ pc 535 .ireturn 1) (zQ pc 536 (.aload_n 1) 1))) (zH pc 540 (zH pc 538 (zQ pc 537 (.aload_n 0) 1) (zQ pc 538 (.iload 4) 2)) (zH pc 541 (zQ pc 540 (.iconst 1) 1) (zQ pc 541 .iadd 1))))) (zH pc 553 (zH pc 547 (zH pc 544 (zH pc 543 (zQ pc 542 .iaload 1) (zQ pc 543 (.aload_n 0) 1)) (zH pc 546 (zQ pc 544 (.iload 4) 2) (zQ pc 546 (.iconst 2) 1))) (zH pc 549 (zH pc 548 (zQ pc 547 .iadd 1) (zQ pc 548 .iaload 1)) (zH pc 552 (zQ pc 549 (.invokevirtual 56) 3) (zQ pc 552 (.aload_n 2) 1)))) (zH pc 558 (zH pc 556 (zH pc 554 (zQ pc 553 (.aload_n 0) 1) (zQ pc 554 (.iload 4) 2)) (zH pc 557 (zQ pc 556 (.iconst 1) 1) (zQ pc 557 .iadd 1))) (zH pc 560 (zH pc 559 (zQ pc 558 .iaload 1) (zQ pc 559 (.aload_n 0) 1)) (zH pc 562 (zQ pc 560 (.iload 4) 2) (zQ pc 562 (.iconst 2) 1))))))) (zH pc 609 (zH pc 585 (zH pc 574 (zH pc 568 (zH pc 564 (zQ pc 563 .iadd 1) (zH pc 565 (zQ pc 564 .iaload 1) (zQ pc 565 (.invokevirtual 59) 3))) (zH pc 572 (zH pc 571 (zQ pc 568 (.if_icmp .eq 924) 3) (zQ pc 571 (.iconst 0) 1)) (zH pc 573 (zQ pc 572 .ireturn 1) (zQ pc 573 (.aload_n 1) 1)))) (zH pc 579 (zH pc 577 (zH pc 575 (zQ pc 574 (.aload_n 0) 1) (zQ pc 575 (.iload 4) 2)) (zH pc 578 (zQ pc 577 (.iconst 1) 1) (zQ pc 578 .iadd 1))) (zH pc 583 (zH pc 580 (zQ pc 579 .iaload 1) (zQ pc 580 (.invokevirtual 60) 3)) (zH pc 584 (zQ pc 583 (.aload_n 2) 1) (zQ pc 584 (.aload_n 0) 1))))) (zH pc 598 (zH pc 590 (zH pc 588 (zH pc 587 (zQ pc 585 (.iload 4) 2) (zQ pc 587 (.iconst 1) 1)) (zH pc 589 (zQ pc 588 .iadd 1) (zQ pc 589 .iaload 1))) (zH pc 596 (zH pc 593 (zQ pc 590 (.invokevirtual 64) 3) (zQ pc 593 (.if_icmp .eq 899) 3)) (zH pc 597 (zQ pc 596 (.iconst 0) 1) (zQ pc 597 .ireturn 1)))) (zH pc 603 (zH pc 600 (zH pc 599 (zQ pc 598 (.aload_n 1) 1) (zQ pc 599 (.aload_n 0) 1)) (zH pc 602 (zQ pc 600 (.iload 4) 2) (zQ pc 602 (.iconst 1) 1))) (zH pc 605 (zH pc 604 (zQ pc 603 .iadd 1) (zQ pc 604 .iaload 1)) (zH pc 608 (zQ pc 605 (.invokevirtual 65) 3) (zQ pc 608 (.aload_n 2) 1)))))) (zH pc 630 (zH pc 621 (zH pc 613 (zH pc 610 (zQ pc 609 (.aload_n 0) 1) (zH pc 612 (zQ pc 610 (.iload 4) 2) (zQ pc 612 (.iconst 1) 1))) (zH pc 615 (zH pc 614 (zQ pc 613 .iadd 1) (zQ pc 614 .iaload 1)) (zH pc 618 (zQ pc 615 (.invokevirtual 68) 3) (zQ pc 618 (.if_icmp .eq 874) 3)))) (zH pc 625 (zH pc 623 (zH pc 622 (zQ pc 621 (.iconst 0) 1) (zQ pc 622 .ireturn 1)) (zH pc 624 (zQ pc 623 (.aload_n 1) 1) (zQ pc 624 (.aload_n 0) 1))) (zH pc 628 (zH pc 627 (zQ pc 625 (.iload 4) 2) (zQ pc 627 (.iconst 1) 1)) (zH pc 629 (zQ pc 628 .iadd 1) (zQ pc 629 .iaload 1))))) (zH pc 640 (zH pc 635 (zH pc 633 (zH pc 631 (zQ pc 630 .i2l 1) (zQ pc 631 (.bipush 32) 2)) (zH pc 634 (zQ pc 633 .lshl 1) (zQ pc 634 (.aload_n 0) 1))) (zH pc 638 (zH pc 637 (zQ pc 635 (.iload 4) 2) (zQ pc 637 (.iconst 2) 1)) (zH pc 639 (zQ pc 638 .iadd 1) (zQ pc 639 .iaload 1)))) (zH pc 646 (zH pc 644 (zH pc 641 (zQ pc 640 .i2l 1) (zQ pc 641 (.ldc2_w 69) 3)) (zH pc 645 (zQ pc 644 .land 1) (zQ pc 645 .lor 1))) (zH pc 649 (zH pc 647 (zQ pc 646 (.aload_n 0) 1) (zQ pc 647 (.iload 4) 2)) (zH pc 650 (zQ pc 649 (.iconst 3) 1) (zQ pc 650 .iadd 1)))))))) (zH pc 733 (zH pc 694 (zH pc 671 (zH pc 660 (zH pc 655 (zH pc 652 (zQ pc 651 .iaload 1) (zH pc 653 (zQ pc 652 .i2l 1) (zQ pc 653 (.bipush 32) 2))) (zH pc 657 (zH pc 656 (zQ pc 655 .lshl 1) (zQ pc 656 (.aload_n 0) 1)) (zH pc 659 (zQ pc 657 (.iload 4) 2) (zQ pc 659 (.iconst 4) 1)))) (zH pc 666 (zH pc 662 (zH pc 661 (zQ pc 660 .iadd 1) (zQ pc 661 .iaload 1)) (zH pc 663 (zQ pc 662 .i2l 1) (zQ pc 663 (.ldc2_w 69) 3))) (zH pc 668 (zH pc 667 (zQ pc 666 .land 1) (zQ pc 667 .lor 1)) (zH pc 669 (zQ pc 668 (.aload_n 0) 1) (zQ pc 669 (.iload 4) 2))))) (zH pc 681 (zH pc 675 (zH pc 673 (zH pc 672 (zQ pc 671 (.iconst 5) 1) (zQ pc 672 .iadd 1)) (zH pc 674 (zQ pc 673 .iaload 1) (zQ pc 674 .i2l 1))) (zH pc 678 (zH pc 677 (zQ pc 675 (.bipush 32) 2) (zQ pc 677 .lshl 1)) (zH pc 679 (zQ pc 678 (.aload_n 0) 1) (zQ pc 679 (.iload 4) 2)))) (zH pc 686 (zH pc 684 (zH pc 683 (zQ pc 681 (.bipush 6) 2) (zQ pc 683 .iadd 1)) (zH pc 685 (zQ pc 684 .iaload 1) (zQ pc 685 .i2l 1))) (zH pc 690 (zH pc 689 (zQ pc 686 (.ldc2_w 69) 3) (zQ pc 689 .land 1)) (zH pc 691 (zQ pc 690 .lor 1) (zQ pc 691 (.invokevirtual 71) 3)))))) (zH pc 712 (zH pc 702 (zH pc 698 (zH pc 695 (zQ pc 694 (.aload_n 2) 1) (zH pc 696 (zQ pc 695 (.aload_n 0) 1) (zQ pc 696 (.iload 4) 2))) (zH pc 700 (zH pc 699 (zQ pc 698 (.iconst 1) 1) (zQ pc 699 .iadd 1)) (zH pc 701 (zQ pc 700 .iaload 1) (zQ pc 701 .i2l 1)))) (zH pc 708 (zH pc 705 (zH pc 704 (zQ pc 702 (.bipush 32) 2) (zQ pc 704 .lshl 1)) (zH pc 706 (zQ pc 705 (.aload_n 0) 1) (zQ pc 706 (.iload 4) 2))) (zH pc 710 (zH pc 709 (zQ pc 708 (.iconst 2) 1) (zQ pc 709 .iadd 1)) (zH pc 711 (zQ pc 710 .iaload 1) (zQ pc 711 .i2l 1))))) (zH pc 723 (zH pc 718 (zH pc 716 (zH pc 715 (zQ pc 712 (.ldc2_w 69) 3) (zQ pc 715 .land 1)) (zH pc 717 (zQ pc 716 .lor 1) (zQ pc 717 (.aload_n 0) 1))) (zH pc 721 (zH pc 720 (zQ pc 718 (.iload 4) 2) (zQ pc 720 (.iconst 3) 1)) (zH pc 722 (zQ pc 721 .iadd 1) (zQ pc 722 .iaload 1)))) (zH pc 728 (zH pc 726 (zH pc 724 (zQ pc 723 .i2l 1) (zQ pc 724 (.bipush 32) 2)) (zH pc 727 (zQ pc 726 .lshl 1) (zQ pc 727 (.aload_n 0) 1))) (zH pc 731 (zH pc 730 (zQ pc 728 (.iload 4) 2) (zQ pc 730 (.iconst 4) 1)) (zH pc 732 (zQ pc 731 .iadd 1) (zQ pc 732 .iaload 1))))))) (zH pc 782 (zH pc 754 (zH pc 743 (zH pc 738 (zH pc 734 (zQ pc 733 .i2l 1) (zH pc 737 (zQ pc 734 (.ldc2_w 69) 3) (zQ pc 737 .land 1))) (zH pc 740 (zH pc 739 (zQ pc 738 .lor 1) (zQ pc 739 (.aload_n 0) 1)) (zH pc 742 (zQ pc 740 (.iload 4) 2) (zQ pc 742 (.iconst 5) 1)))) (zH pc 748 (zH pc 745 (zH pc 744 (zQ pc 743 .iadd 1) (zQ pc 744 .iaload 1)) (zH pc 746 (zQ pc 745 .i2l 1) (zQ pc 746 (.bipush 32) 2))) (zH pc 750 (zH pc 749 (zQ pc 748 .lshl 1) (zQ pc 749 (.aload_n 0) 1)) (zH pc 752 (zQ pc 750 (.iload 4) 2) (zQ pc 752 (.bipush 6) 2))))) (zH pc 768 (zH pc 760 (zH pc 756 (zH pc 755 (zQ pc 754 .iadd 1) (zQ pc 755 .iaload 1)) (zH pc 757 (zQ pc 756 .i2l 1) (zQ pc 757 (.ldc2_w 69) 3))) (zH pc 762 (zH pc 761 (zQ pc 760 .land 1) (zQ pc 761 .lor 1)) (zH pc 765 (zQ pc 762 (.invokevirtual 75) 3) (zQ pc 765 (.if_icmp .eq 727) 3)))) (zH pc 774 (zH pc 770 (zH pc 769 (zQ pc 768 (.iconst 0) 1) (zQ pc 769 .ireturn 1)) (zH pc 771 (zQ pc 770 (.aload_n 1) 1) (zQ pc 771 (.invokevirtual 76) 3))) (zH pc 778 (zH pc 775 (zQ pc 774 (.aload_n 2) 1) (zQ pc 775 (.invokevirtual 80) 3)) (zH pc 781 (zQ pc 778 (.if_icmp .eq 714) 3) (zQ pc 781 (.iconst 0) 1)))))) (zH pc 801 (zH pc 790 (zH pc 785 (zH pc 783 (zQ pc 782 .ireturn 1) (zH pc 784 (zQ pc 783 (.aload_n 1) 1) (zQ pc 784 (.aload_n 0) 1))) (zH pc 788 (zH pc 787 (zQ pc 785 (.iload 4) 2) (zQ pc 787 (.iconst 1) 1)) (zH pc 789 (zQ pc 788 .iadd 1) (zQ pc 789 .iaload 1)))) (zH pc 795 (zH pc 793 (zH pc 791 (zQ pc 790 (.aload_n 0) 1) (zQ pc 791 (.iload 4) 2)) (zH pc 794 (zQ pc 793 (.iconst 2) 1) (zQ pc 794 .iadd 1))) (zH pc 799 (zH pc 796 (zQ pc 795 .iaload 1) (zQ pc 796 (.invokevirtual 81) 3)) (zH pc 800 (zQ pc 799 (.aload_n 2) 1) (zQ pc 800 (.aload_n 0) 1))))) (zH pc 811 (zH pc 806 (zH pc 804 (zH pc 803 (zQ pc 801 (.iload 4) 2) (zQ pc 803 (.iconst 1) 1)) (zH pc 805 (zQ pc 804 .iadd 1) (zQ pc 805 .iaload 1))) (zH pc 809 (zH pc 807 (zQ pc 806 (.aload_n 0) 1) (zQ pc 807 (.iload 4) 2)) (zH pc 810 (zQ pc 809 (.iconst 2) 1) (zQ pc 810 .iadd 1)))) (zH pc 819 (zH pc 815 (zH pc 812 (zQ pc 811 .iaload 1) (zQ pc 812 (.invokevirtual 84) 3)) (zH pc 818 (zQ pc 815 (.if_icmp .eq 677) 3) (zQ pc 818 (.iconst 0) 1))) (zH pc 821 (zH pc 820 (zQ pc 819 .ireturn 1) (zQ pc 820 (.aload_n 1) 1)) (zH pc 822 (zQ pc 821 (.aload_n 0) 1) (zQ pc 822 (.iload 4) 2)))))))))) (zH pc 1145 (zH pc 983 (zH pc 903 (zH pc 861 (zH pc 842 (zH pc 832 (zH pc 827 (zH pc 825 (zQ pc 824 (.iconst 1) 1) (zH pc 826 (zQ pc 825 .iadd 1) (zQ pc 826 .iaload 1))) (zH pc 830 (zH pc 828 (zQ pc 827 (.aload_n 0) 1) (zQ pc 828 (.iload 4) 2)) (zH pc 831 (zQ pc 830 (.iconst 2) 1) (zQ pc 831 .iadd 1)))) (zH pc 837 (zH pc 834 (zH pc 833 (zQ pc 832 .iaload 1) (zQ pc 833 (.aload_n 0) 1)) (zH pc 836 (zQ pc 834 (.iload 4) 2) (zQ pc 836 (.iconst 3) 1))) (zH pc 839 (zH pc 838 (zQ pc 837 .iadd 1) (zQ pc 838 .iaload 1)) (zH pc 840 (zQ pc 839 (.aload_n 0) 1) (zQ pc 840 (.iload 4) 2))))) (zH pc 852 (zH pc 845 (zH pc 843 (zQ pc 842 (.iconst 4) 1) (zH pc 844 (zQ pc 843 .iadd 1) (zQ pc 844 .iaload 1))) (zH pc 849 (zH pc 848 (zQ pc 845 (.invokevirtual 85) 3) (zQ pc 848 (.aload_n 2) 1)) (zH pc 850 (zQ pc 849 (.aload_n 0) 1) (zQ pc 850 (.iload 4) 2)))) (zH pc 856 (zH pc 854 (zH pc 853 (zQ pc 852 (.iconst 1) 1) (zQ pc 853 .iadd 1)) (zH pc 855 (zQ pc 854 .iaload 1) (zQ pc 855 (.aload_n 0) 1))) (zH pc 859 (zH pc 858 (zQ pc 856 (.iload 4) 2) (zQ pc 858 (.iconst 2) 1)) (zH pc 860 (zQ pc 859 .iadd 1) (zQ pc 860 .iaload 1)))))) (zH pc 882 (zH pc 870 (zH pc 865 (zH pc 862 (zQ pc 861 (.aload_n 0) 1) (zH pc 864 (zQ pc 862 (.iload 4) 2) (zQ pc 864 (.iconst 3) 1))) (zH pc 867 (zH pc 866 (zQ pc 865 .iadd 1) (zQ pc 866 .iaload 1)) (zH pc 868 (zQ pc 867 (.aload_n 0) 1) (zQ pc 868 (.iload 4) 2)))) (zH pc 876 (zH pc 872 (zH pc 871 (zQ pc 870 (.iconst 4) 1) (zQ pc 871 .iadd 1)) (zH pc 873 (zQ pc 872 .iaload 1) (zQ pc 873 (.invokevirtual 89) 3))) (zH pc 880 (zH pc 879 (zQ pc 876 (.if_icmp .eq 616) 3) (zQ pc 879 (.iconst 0) 1)) (zH pc 881 (zQ pc 880 .ireturn 1) (zQ pc 881 (.aload_n 1) 1))))) (zH pc 892 (zH pc 887 (zH pc 885 (zH pc 883 (zQ pc 882 (.aload_n 0) 1) (zQ pc 883 (.iload 4) 2)) (zH pc 886 (zQ pc 885 (.iconst 1) 1) (zQ pc 886 .iadd 1))) (zH pc 889 (zH pc 888 (zQ pc 887 .iaload 1) (zQ pc 888 (.aload_n 0) 1)) (zH pc 891 (zQ pc 889 (.iload 4) 2) (zQ pc 891 (.iconst 2) 1)))) (zH pc 897 (zH pc 894 (zH pc 893 (zQ pc 892 .iadd 1) (zQ pc 893 .iaload 1)) (zH pc 895 (zQ pc 894 (.aload_n 0) 1) (zQ pc 895 (.iload 4) 2))) (zH pc 899 (zH pc 898 (zQ pc 897 (.iconst 3) 1) (zQ pc 898 .iadd 1)) (zH pc 900 (zQ pc 899 .iaload 1) (zQ pc 900 (.invokevirtual 90) 3))))))) (zH pc 943 (zH pc 921 (zH pc 911 (zH pc 907 (zH pc 904 (zQ pc 903 (.aload_n 2) 1) (zH pc 905 (zQ pc 904 (.aload_n 0) 1) (zQ pc 905 (.iload 4) 2))) (zH pc 909 (zH pc 908 (zQ pc 907 (.iconst 1) 1) (zQ pc 908 .iadd 1)) (zH pc 910 (zQ pc 909 .iaload 1) (zQ pc 910 (.aload_n 0) 1)))) (zH pc 916 (zH pc 914 (zH pc 913 (zQ pc 911 (.iload 4) 2) (zQ pc 913 (.iconst 2) 1)) (zH pc 915 (zQ pc 914 .iadd 1) (zQ pc 915 .iaload 1))) (zH pc 919 (zH pc 917 (zQ pc 916 (.aload_n 0) 1) (zQ pc 917 (.iload 4) 2)) (zH pc 920 (zQ pc 919 (.iconst 3) 1) (zQ pc 920 .iadd 1))))) (zH pc 934 (zH pc 929 (zH pc 925 (zH pc 922 (zQ pc 921 .iaload 1) (zQ pc 922 (.invokevirtual 93) 3)) (zH pc 928 (zQ pc 925 (.if_icmp .eq 567) 3) (zQ pc 928 (.iconst 0) 1))) (zH pc 931 (zH pc 930 (zQ pc 929 .ireturn 1) (zQ pc 930 (.aload_n 1) 1)) (zH pc 932 (zQ pc 931 (.aload_n 0) 1) (zQ pc 932 (.iload 4) 2)))) (zH pc 938 (zH pc 936 (zH pc 935 (zQ pc 934 (.iconst 1) 1) (zQ pc 935 .iadd 1)) (zH pc 937 (zQ pc 936 .iaload 1) (zQ pc 937 (.aload_n 0) 1))) (zH pc 941 (zH pc 940 (zQ pc 938 (.iload 4) 2) (zQ pc 940 (.iconst 2) 1)) (zH pc 942 (zQ pc 941 .iadd 1) (zQ pc 942 .iaload 1)))))) (zH pc 961 (zH pc 952 (zH pc 947 (zH pc 944 (zQ pc 943 (.aload_n 0) 1) (zH pc 946 (zQ pc 944 (.iload 4) 2) (zQ pc 946 (.iconst 3) 1))) (zH pc 949 (zH pc 948 (zQ pc 947 .iadd 1) (zQ pc 948 .iaload 1)) (zH pc 950 (zQ pc 949 (.aload_n 0) 1) (zQ pc 950 (.iload 4) 2)))) (zH pc 956 (zH pc 954 (zH pc 953 (zQ pc 952 (.iconst 4) 1) (zQ pc 953 .iadd 1)) (zH pc 955 (zQ pc 954 .iaload 1) (zQ pc 955 (.aload_n 0) 1))) (zH pc 959 (zH pc 958 (zQ pc 956 (.iload 4) 2) (zQ pc 958 (.iconst 5) 1)) (zH pc 960 (zQ pc 959 .iadd 1) (zQ pc 960 .iaload 1))))) (zH pc 973 (zH pc 967 (zH pc 964 (zH pc 962 (zQ pc 961 (.aload_n 0) 1) (zQ pc 962 (.iload 4) 2)) (zH pc 966 (zQ pc 964 (.bipush 6) 2) (zQ pc 966 .iadd 1))) (zH pc 971 (zH pc 968 (zQ pc 967 .iaload 1) (zQ pc 968 (.invokevirtual 94) 3)) (zH pc 972 (zQ pc 971 (.aload_n 2) 1) (zQ pc 972 (.aload_n 0) 1)))) (zH pc 978 (zH pc 976 (zH pc 975 (zQ pc 973 (.iload 4) 2) (zQ pc 975 (.iconst 1) 1)) (zH pc 977 (zQ pc 976 .iadd 1) (zQ pc 977 .iaload 1))) (zH pc 981 (zH pc 979 (zQ pc 978 (.aload_n 0) 1) (zQ pc 979 (.iload 4) 2)) (zH pc 982 (zQ pc 981 (.iconst 2) 1) (zQ pc 982 .iadd 1)))))))) (zH pc 1063 (zH pc 1024 (zH pc 1001 (zH pc 991 (zH pc 987 (zH pc 984 (zQ pc 983 .iaload 1) (zH pc 985 (zQ pc 984 (.aload_n 0) 1) (zQ pc 985 (.iload 4) 2))) (zH pc 989 (zH pc 988 (zQ pc 987 (.iconst 3) 1) (zQ pc 988 .iadd 1)) (zH pc 990 (zQ pc 989 .iaload 1) (zQ pc 990 (.aload_n 0) 1)))) (zH pc 996 (zH pc 994 (zH pc 993 (zQ pc 991 (.iload 4) 2) (zQ pc 993 (.iconst 4) 1)) (zH pc 995 (zQ pc 994 .iadd 1) (zQ pc 995 .iaload 1))) (zH pc 999 (zH pc 997 (zQ pc 996 (.aload_n 0) 1) (zQ pc 997 (.iload 4) 2)) (zH pc 1000 (zQ pc 999 (.iconst 5) 1) (zQ pc 1000 .iadd 1))))) (zH pc 1015 (zH pc 1007 (zH pc 1003 (zH pc 1002 (zQ pc 1001 .iaload 1) (zQ pc 1002 (.aload_n 0) 1)) (zH pc 1005 (zQ pc 1003 (.iload 4) 2) (zQ pc 1005 (.bipush 6) 2))) (zH pc 1009 (zH pc 1008 (zQ pc 1007 .iadd 1) (zQ pc 1008 .iaload 1)) (zH pc 1012 (zQ pc 1009 (.invokevirtual 98) 3) (zQ pc 1012 (.if_icmp .eq 480) 3)))) (zH pc 1019 (zH pc 1017 (zH pc 1016 (zQ pc 1015 (.iconst 0) 1) (zQ pc 1016 .ireturn 1)) (zH pc 1018 (zQ pc 1017 (.aload_n 1) 1) (zQ pc 1018 (.aload_n 0) 1))) (zH pc 1022 (zH pc 1021 (zQ pc 1019 (.iload 4) 2) (zQ pc 1021 (.iconst 1) 1)) (zH pc 1023 (zQ pc 1022 .iadd 1) (zQ pc 1023 .iaload 1)))))) (zH pc 1042 (zH pc 1033 (zH pc 1028 (zH pc 1025 (zQ pc 1024 (.aload_n 0) 1) (zH pc 1027 (zQ pc 1025 (.iload 4) 2) (zQ pc 1027 (.iconst 2) 1))) (zH pc 1030 (zH pc 1029 (zQ pc 1028 .iadd 1) (zQ pc 1029 .iaload 1)) (zH pc 1031 (zQ pc 1030 (.aload_n 0) 1) (zQ pc 1031 (.iload 4) 2)))) (zH pc 1037 (zH pc 1035 (zH pc 1034 (zQ pc 1033 (.iconst 3) 1) (zQ pc 1034 .iadd 1)) (zH pc 1036 (zQ pc 1035 .iaload 1) (zQ pc 1036 (.aload_n 0) 1))) (zH pc 1040 (zH pc 1039 (zQ pc 1037 (.iload 4) 2) (zQ pc 1039 (.iconst 4) 1)) (zH pc 1041 (zQ pc 1040 .iadd 1) (zQ pc 1041 .iaload 1))))) (zH pc 1053 (zH pc 1049 (zH pc 1046 (zH pc 1045 (zQ pc 1042 (.invokevirtual 99) 3) (zQ pc 1045 (.aload_n 2) 1)) (zH pc 1047 (zQ pc 1046 (.aload_n 0) 1) (zQ pc 1047 (.iload 4) 2))) (zH pc 1051 (zH pc 1050 (zQ pc 1049 (.iconst 1) 1) (zQ pc 1050 .iadd 1)) (zH pc 1052 (zQ pc 1051 .iaload 1) (zQ pc 1052 (.aload_n 0) 1)))) (zH pc 1058 (zH pc 1056 (zH pc 1055 (zQ pc 1053 (.iload 4) 2) (zQ pc 1055 (.iconst 2) 1)) (zH pc 1057 (zQ pc 1056 .iadd 1) (zQ pc 1057 .iaload 1))) (zH pc 1061 (zH pc 1059 (zQ pc 1058 (.aload_n 0) 1) (zQ pc 1059 (.iload 4) 2)) (zH pc 1062 (zQ pc 1061 (.iconst 3) 1) (zQ pc 1062 .iadd 1))))))) (zH pc 1105 (zH pc 1084 (zH pc 1073 (zH pc 1067 (zH pc 1064 (zQ pc 1063 .iaload 1) (zH pc 1065 (zQ pc 1064 (.aload_n 0) 1) (zQ pc 1065 (.iload 4) 2))) (zH pc 1069 (zH pc 1068 (zQ pc 1067 (.iconst 4) 1) (zQ pc 1068 .iadd 1)) (zH pc 1070 (zQ pc 1069 .iaload 1) (zQ pc 1070 (.invokevirtual 102) 3)))) (zH pc 1079 (zH pc 1077 (zH pc 1076 (zQ pc 1073 (.if_icmp .eq 419) 3) (zQ pc 1076 (.iconst 0) 1)) (zH pc 1078 (zQ pc 1077 .ireturn 1) (zQ pc 1078 (.aload_n 1) 1))) (zH pc 1082 (zH pc 1080 (zQ pc 1079 (.aload_n 0) 1) (zQ pc 1080 (.iload 4) 2)) (zH pc 1083 (zQ pc 1082 (.iconst 1) 1) (zQ pc 1083 .iadd 1))))) (zH pc 1094 (zH pc 1089 (zH pc 1086 (zH pc 1085 (zQ pc 1084 .iaload 1) (zQ pc 1085 (.aload_n 0) 1)) (zH pc 1088 (zQ pc 1086 (.iload 4) 2) (zQ pc 1088 (.iconst 2) 1))) (zH pc 1091 (zH pc 1090 (zQ pc 1089 .iadd 1) (zQ pc 1090 .iaload 1)) (zH pc 1092 (zQ pc 1091 (.aload_n 0) 1) (zQ pc 1092 (.iload 4) 2)))) (zH pc 1100 (zH pc 1096 (zH pc 1095 (zQ pc 1094 (.iconst 3) 1) (zQ pc 1095 .iadd 1)) (zH pc 1097 (zQ pc 1096 .iaload 1) (zQ pc 1097 (.invokevirtual 103) 3))) (zH pc 1102 (zH pc 1101 (zQ pc 1100 (.aload_n 2) 1) (zQ pc 1101 (.aload_n 0) 1)) (zH pc 1104 (zQ pc 1102 (.iload 4) 2) (zQ pc 1104 (.iconst 1) 1)))))) (zH pc 1126 (zH pc 1113 (zH pc 1108 (zH pc 1106 (zQ pc 1105 .iadd 1) (zH pc 1107 (zQ pc 1106 .iaload 1) (zQ pc 1107 (.aload_n 0) 1))) (zH pc 1111 (zH pc 1110 (zQ pc 1108 (.iload 4) 2) (zQ pc 1110 (.iconst 2) 1)) (zH pc 1112 (zQ pc 1111 .iadd 1) (zQ pc 1112 .iaload 1)))) (zH pc 1118 (zH pc 1116 (zH pc 1114 (zQ pc 1113 (.aload_n 0) 1) (zQ pc 1114 (.iload 4) 2)) (zH pc 1117 (zQ pc 1116 (.iconst 3) 1) (zQ pc 1117 .iadd 1))) (zH pc 1122 (zH pc 1119 (zQ pc 1118 .iaload 1) (zQ pc 1119 (.invokevirtual 106) 3)) (zH pc 1125 (zQ pc 1122 (.if_icmp .eq 370) 3) (zQ pc 1125 (.iconst 0) 1))))) (zH pc 1135 (zH pc 1131 (zH pc 1128 (zH pc 1127 (zQ pc 1126 .ireturn 1) (zQ pc 1127 (.aload_n 1) 1)) (zH pc 1129 (zQ pc 1128 (.aload_n 0) 1) (zQ pc 1129 (.iload 4) 2))) (zH pc 1133 (zH pc 1132 (zQ pc 1131 (.iconst 1) 1) (zQ pc 1132 .iadd 1)) (zH pc 1134 (zQ pc 1133 .iaload 1) (zQ pc 1134 (.aload_n 0) 1)))) (zH pc 1140 (zH pc 1138 (zH pc 1137 (zQ pc 1135 (.iload 4) 2) (zQ pc 1137 (.iconst 2) 1)) (zH pc 1139 (zQ pc 1138 .iadd 1) (zQ pc 1139 .iaload 1))) (zH pc 1143 (zH pc 1141 (zQ pc 1140 (.aload_n 0) 1) (zQ pc 1141 (.iload 4) 2)) (zH pc 1144 (zQ pc 1143 (.iconst 3) 1) (zQ pc 1144 .iadd 1))))))))) (zH pc 1317 (zH pc 1224 (zH pc 1186 (zH pc 1165 (zH pc 1155 (zH pc 1149 (zH pc 1146 (zQ pc 1145 .iaload 1) (zH pc 1147 (zQ pc 1146 (.aload_n 0) 1) (zQ pc 1147 (.iload 4) 2))) (zH pc 1151 (zH pc 1150 (zQ pc 1149 (.iconst 4) 1) (zQ pc 1150 .iadd 1)) (zH pc 1152 (zQ pc 1151 .iaload 1) (zQ pc 1152 (.invokevirtual 107) 3)))) (zH pc 1160 (zH pc 1157 (zH pc 1156 (zQ pc 1155 (.aload_n 2) 1) (zQ pc 1156 (.aload_n 0) 1)) (zH pc 1159 (zQ pc 1157 (.iload 4) 2) (zQ pc 1159 (.iconst 1) 1))) (zH pc 1162 (zH pc 1161 (zQ pc 1160 .iadd 1) (zQ pc 1161 .iaload 1)) (zH pc 1163 (zQ pc 1162 (.aload_n 0) 1) (zQ pc 1163 (.iload 4) 2))))) (zH pc 1173 (zH pc 1168 (zH pc 1166 (zQ pc 1165 (.iconst 2) 1) (zH pc 1167 (zQ pc 1166 .iadd 1) (zQ pc 1167 .iaload 1))) (zH pc 1171 (zH pc 1169 (zQ pc 1168 (.aload_n 0) 1) (zQ pc 1169 (.iload 4) 2)) (zH pc 1172 (zQ pc 1171 (.iconst 3) 1) (zQ pc 1172 .iadd 1)))) (zH pc 1178 (zH pc 1175 (zH pc 1174 (zQ pc 1173 .iaload 1) (zQ pc 1174 (.aload_n 0) 1)) (zH pc 1177 (zQ pc 1175 (.iload 4) 2) (zQ pc 1177 (.iconst 4) 1))) (zH pc 1180 (zH pc 1179 (zQ pc 1178 .iadd 1) (zQ pc 1179 .iaload 1)) (zH pc 1183 (zQ pc 1180 (.invokevirtual 110) 3) (zQ pc 1183 (.if_icmp .eq 309) 3)))))) (zH pc 1204 (zH pc 1194 (zH pc 1189 (zH pc 1187 (zQ pc 1186 (.iconst 0) 1) (zH pc 1188 (zQ pc 1187 .ireturn 1) (zQ pc 1188 (.aload_n 1) 1))) (zH pc 1192 (zH pc 1190 (zQ pc 1189 (.aload_n 0) 1) (zQ pc 1190 (.iload 4) 2)) (zH pc 1193 (zQ pc 1192 (.iconst 1) 1) (zQ pc 1193 .iadd 1)))) (zH pc 1199 (zH pc 1196 (zH pc 1195 (zQ pc 1194 .iaload 1) (zQ pc 1195 (.aload_n 0) 1)) (zH pc 1198 (zQ pc 1196 (.iload 4) 2) (zQ pc 1198 (.iconst 2) 1))) (zH pc 1201 (zH pc 1200 (zQ pc 1199 .iadd 1) (zQ pc 1200 .iaload 1)) (zH pc 1202 (zQ pc 1201 (.aload_n 0) 1) (zQ pc 1202 (.iload 4) 2))))) (zH pc 1215 (zH pc 1210 (zH pc 1206 (zH pc 1205 (zQ pc 1204 (.iconst 3) 1) (zQ pc 1205 .iadd 1)) (zH pc 1207 (zQ pc 1206 .iaload 1) (zQ pc 1207 (.invokevirtual 111) 3))) (zH pc 1212 (zH pc 1211 (zQ pc 1210 (.aload_n 2) 1) (zQ pc 1211 (.aload_n 0) 1)) (zH pc 1214 (zQ pc 1212 (.iload 4) 2) (zQ pc 1214 (.iconst 1) 1)))) (zH pc 1220 (zH pc 1217 (zH pc 1216 (zQ pc 1215 .iadd 1) (zQ pc 1216 .iaload 1)) (zH pc 1218 (zQ pc 1217 (.aload_n 0) 1) (zQ pc 1218 (.iload 4) 2))) (zH pc 1222 (zH pc 1221 (zQ pc 1220 (.iconst 2) 1) (zQ pc 1221 .iadd 1)) (zH pc 1223 (zQ pc 1222 .iaload 1) (zQ pc 1223 (.aload_n 0) 1))))))) (zH pc 1269 (zH pc 1247 (zH pc 1236 (zH pc 1228 (zH pc 1226 (zQ pc 1224 (.iload 4) 2) (zH pc 1227 (zQ pc 1226 (.iconst 3) 1) (zQ pc 1227 .iadd 1))) (zH pc 1232 (zH pc 1229 (zQ pc 1228 .iaload 1) (zQ pc 1229 (.invokevirtual 114) 3)) (zH pc 1235 (zQ pc 1232 (.if_icmp .eq 260) 3) (zQ pc 1235 (.iconst 0) 1)))) (zH pc 1241 (zH pc 1238 (zH pc 1237 (zQ pc 1236 .ireturn 1) (zQ pc 1237 (.aload_n 1) 1)) (zH pc 1239 (zQ pc 1238 (.aload_n 0) 1) (zQ pc 1239 (.iload 4) 2))) (zH pc 1243 (zH pc 1242 (zQ pc 1241 (.iconst 1) 1) (zQ pc 1242 .iadd 1)) (zH pc 1244 (zQ pc 1243 .iaload 1) (zQ pc 1244 (.invokevirtual 115) 3))))) (zH pc 1260 (zH pc 1252 (zH pc 1249 (zH pc 1248 (zQ pc 1247 (.aload_n 2) 1) (zQ pc 1248 (.aload_n 0) 1)) (zH pc 1251 (zQ pc 1249 (.iload 4) 2) (zQ pc 1251 (.iconst 1) 1))) (zH pc 1254 (zH pc 1253 (zQ pc 1252 .iadd 1) (zQ pc 1253 .iaload 1)) (zH pc 1257 (zQ pc 1254 (.invokevirtual 118) 3) (zQ pc 1257 (.if_icmp .eq 235) 3)))) (zH pc 1264 (zH pc 1262 (zH pc 1261 (zQ pc 1260 (.iconst 0) 1) (zQ pc 1261 .ireturn 1)) (zH pc 1263 (zQ pc 1262 (.aload_n 1) 1) (zQ pc 1263 (.aload_n 0) 1))) (zH pc 1267 (zH pc 1266 (zQ pc 1264 (.iload 4) 2) (zQ pc 1266 (.iconst 1) 1)) (zH pc 1268 (zQ pc 1267 .iadd 1) (zQ pc 1268 .iaload 1)))))) (zH pc 1295 (zH pc 1279 (zH pc 1274 (zH pc 1272 (zQ pc 1269 (.invokevirtual 119) 3) (zH pc 1273 (zQ pc 1272 (.aload_n 2) 1) (zQ pc 1273 (.aload_n 0) 1))) (zH pc 1277 (zH pc 1276 (zQ pc 1274 (.iload 4) 2) (zQ pc 1276 (.iconst 1) 1)) (zH pc 1278 (zQ pc 1277 .iadd 1) (zQ pc 1278 .iaload 1)))) (zH pc 1287 (zH pc 1285 (zH pc 1282 (zQ pc 1279 (.invokevirtual 122) 3) (zQ pc 1282 (.if_icmp .eq 210) 3)) (zH pc 1286 (zQ pc 1285 (.iconst 0) 1) (zQ pc 1286 .ireturn 1))) (zH pc 1291 (zH pc 1288 (zQ pc 1287 (.aload_n 1) 1) (zQ pc 1288 (.invokevirtual 123) 3)) (zH pc 1292 (zQ pc 1291 (.aload_n 2) 1) (zQ pc 1292 (.invokevirtual 126) 3))))) (zH pc 1306 (zH pc 1301 (zH pc 1299 (zH pc 1298 (zQ pc 1295 (.if_icmp .eq 197) 3) (zQ pc 1298 (.iconst 0) 1)) (zH pc 1300 (zQ pc 1299 .ireturn 1) (zQ pc 1300 (.aload_n 1) 1))) (zH pc 1304 (zH pc 1302 (zQ pc 1301 (.aload_n 0) 1) (zQ pc 1302 (.iload 4) 2)) (zH pc 1305 (zQ pc 1304 (.iconst 1) 1) (zQ pc 1305 .iadd 1)))) (zH pc 1311 (zH pc 1308 (zH pc 1307 (zQ pc 1306 .iaload 1) (zQ pc 1307 (.aload_n 0) 1)) (zH pc 1310 (zQ pc 1308 (.iload 4) 2) (zQ pc 1310 (.iconst 2) 1))) (zH pc 1313 (zH pc 1312 (zQ pc 1311 .iadd 1) (zQ pc 1312 .iaload 1)) (zH pc 1314 (zQ pc 1313 (.aload_n 3) 1) (zQ pc 1314 (.invokestatic 127) 3)))))))) (zH pc 1409 (zH pc 1365 (zH pc 1338 (zH pc 1326 (zH pc 1321 (zH pc 1319 (zQ pc 1317 (.istore 5) 2) (zH pc 1320 (zQ pc 1319 (.aload_n 2) 1) (zQ pc 1320 (.aload_n 0) 1))) (zH pc 1324 (zH pc 1323 (zQ pc 1321 (.iload 4) 2) (zQ pc 1323 (.iconst 1) 1)) (zH pc 1325 (zQ pc 1324 .iadd 1) (zQ pc 1325 .iaload 1)))) (zH pc 1331 (zH pc 1329 (zH pc 1327 (zQ pc 1326 (.aload_n 0) 1) (zQ pc 1327 (.iload 4) 2)) (zH pc 1330 (zQ pc 1329 (.iconst 2) 1) (zQ pc 1330 .iadd 1))) (zH pc 1335 (zH pc 1332 (zQ pc 1331 .iaload 1) (zQ pc 1332 (.invokevirtual 132) 3)) (zH pc 1337 (zQ pc 1335 (.istore 6) 2) (zQ pc 1337 (.aload_n 2) 1))))) (zH pc 1354 (zH pc 1347 (zH pc 1343 (zH pc 1341 (zQ pc 1338 (.invokevirtual 133) 3) (zQ pc 1341 (.iload 5) 2)) (zH pc 1346 (zQ pc 1343 (.if_icmp .eq 5) 3) (zQ pc 1346 (.iconst 0) 1))) (zH pc 1350 (zH pc 1348 (zQ pc 1347 .ireturn 1) (zQ pc 1348 (.iload 5) 2)) (zH pc 1353 (zQ pc 1350 (.ifCond .ne 15) 3) (zQ pc 1353 (.aload_n 3) 1)))) (zH pc 1359 (zH pc 1356 (zH pc 1355 (zQ pc 1354 (.iconst 0) 1) (zQ pc 1355 .laload 1)) (zH pc 1358 (zQ pc 1356 (.iload 6) 2) (zQ pc 1358 .i2l 1))) (zH pc 1363 (zH pc 1360 (zQ pc 1359 .lcmp 1) (zQ pc 1360 (.ifCond .eq 5) 3)) (zH pc 1364 (zQ pc 1363 (.iconst 0) 1) (zQ pc 1364 .ireturn 1)))))) (zH pc 1386 (zH pc 1375 (zH pc 1370 (zH pc 1368 (zQ pc 1365 (.goto 127) 3) (zH pc 1369 (zQ pc 1368 (.aload_n 1) 1) (zQ pc 1369 (.aload_n 0) 1))) (zH pc 1373 (zH pc 1372 (zQ pc 1370 (.iload 4) 2) (zQ pc 1372 (.iconst 1) 1)) (zH pc 1374 (zQ pc 1373 .iadd 1) (zQ pc 1374 .iaload 1)))) (zH pc 1380 (zH pc 1378 (zH pc 1376 (zQ pc 1375 (.aload_n 0) 1) (zQ pc 1376 (.iload 4) 2)) (zH pc 1379 (zQ pc 1378 (.iconst 2) 1) (zQ pc 1379 .iadd 1))) (zH pc 1384 (zH pc 1381 (zQ pc 1380 .iaload 1) (zQ pc 1381 (.invokevirtual 136) 3)) (zH pc 1385 (zQ pc 1384 (.aload_n 2) 1) (zQ pc 1385 (.aload_n 0) 1))))) (zH pc 1396 (zH pc 1391 (zH pc 1389 (zH pc 1388 (zQ pc 1386 (.iload 4) 2) (zQ pc 1388 (.iconst 1) 1)) (zH pc 1390 (zQ pc 1389 .iadd 1) (zQ pc 1390 .iaload 1))) (zH pc 1394 (zH pc 1392 (zQ pc 1391 (.aload_n 0) 1) (zQ pc 1392 (.iload 4) 2)) (zH pc 1395 (zQ pc 1394 (.iconst 2) 1) (zQ pc 1395 .iadd 1)))) (zH pc 1404 (zH pc 1400 (zH pc 1397 (zQ pc 1396 .iaload 1) (zQ pc 1397 (.invokevirtual 139) 3)) (zH pc 1403 (zQ pc 1400 (.if_icmp .eq 92) 3) (zQ pc 1403 (.iconst 0) 1))) (zH pc 1406 (zH pc 1405 (zQ pc 1404 .ireturn 1) (zQ pc 1405 (.aload_n 1) 1)) (zH pc 1407 (zQ pc 1406 (.aload_n 0) 1) (zQ pc 1407 (.iload 4) 2))))))) (zH pc 1452 (zH pc 1431 (zH pc 1419 (zH pc 1412 (zH pc 1410 (zQ pc 1409 (.iconst 1) 1) (zH pc 1411 (zQ pc 1410 .iadd 1) (zQ pc 1411 .iaload 1))) (zH pc 1416 (zH pc 1415 (zQ pc 1412 (.invokevirtual 140) 3) (zQ pc 1415 (.aload_n 2) 1)) (zH pc 1417 (zQ pc 1416 (.aload_n 0) 1) (zQ pc 1417 (.iload 4) 2)))) (zH pc 1425 (zH pc 1421 (zH pc 1420 (zQ pc 1419 (.iconst 1) 1) (zQ pc 1420 .iadd 1)) (zH pc 1422 (zQ pc 1421 .iaload 1) (zQ pc 1422 (.invokevirtual 143) 3))) (zH pc 1429 (zH pc 1428 (zQ pc 1425 (.if_icmp .eq 67) 3) (zQ pc 1428 (.iconst 0) 1)) (zH pc 1430 (zQ pc 1429 .ireturn 1) (zQ pc 1430 (.aload_n 1) 1))))) (zH pc 1441 (zH pc 1436 (zH pc 1434 (zH pc 1432 (zQ pc 1431 (.aload_n 0) 1) (zQ pc 1432 (.iload 4) 2)) (zH pc 1435 (zQ pc 1434 (.iconst 1) 1) (zQ pc 1435 .iadd 1))) (zH pc 1438 (zH pc 1437 (zQ pc 1436 .iaload 1) (zQ pc 1437 (.aload_n 0) 1)) (zH pc 1440 (zQ pc 1438 (.iload 4) 2) (zQ pc 1440 (.iconst 2) 1)))) (zH pc 1447 (zH pc 1443 (zH pc 1442 (zQ pc 1441 .iadd 1) (zQ pc 1442 .iaload 1)) (zH pc 1446 (zQ pc 1443 (.invokevirtual 144) 3) (zQ pc 1446 (.aload_n 2) 1))) (zH pc 1450 (zH pc 1448 (zQ pc 1447 (.aload_n 0) 1) (zQ pc 1448 (.iload 4) 2)) (zH pc 1451 (zQ pc 1450 (.iconst 1) 1) (zQ pc 1451 .iadd 1)))))) (zH pc 1473 (zH pc 1462 (zH pc 1456 (zH pc 1453 (zQ pc 1452 .iaload 1) (zH pc 1454 (zQ pc 1453 (.aload_n 0) 1) (zQ pc 1454 (.iload 4) 2))) (zH pc 1458 (zH pc 1457 (zQ pc 1456 (.iconst 2) 1) (zQ pc 1457 .iadd 1)) (zH pc 1459 (zQ pc 1458 .iaload 1) (zQ pc 1459 (.invokevirtual 147) 3)))) (zH pc 1468 (zH pc 1466 (zH pc 1465 (zQ pc 1462 (.if_icmp .eq 30) 3) (zQ pc 1465 (.iconst 0) 1)) (zH pc 1467 (zQ pc 1466 .ireturn 1) (zQ pc 1467 (.aload_n 1) 1))) (zH pc 1471 (zH pc 1469 (zQ pc 1468 (.aload_n 0) 1) (zQ pc 1469 (.iload 4) 2)) (zH pc 1472 (zQ pc 1471 (.iconst 1) 1) (zQ pc 1472 .iadd 1))))) (zH pc 1484 (zH pc 1479 (zH pc 1477 (zH pc 1474 (zQ pc 1473 .iaload 1) (zQ pc 1474 (.invokevirtual 148) 3)) (zH pc 1478 (zQ pc 1477 (.aload_n 2) 1) (zQ pc 1478 (.aload_n 0) 1))) (zH pc 1482 (zH pc 1481 (zQ pc 1479 (.iload 4) 2) (zQ pc 1481 (.iconst 1) 1)) (zH pc 1483 (zQ pc 1482 .iadd 1) (zQ pc 1483 .iaload 1)))) (zH pc 1492 (zH pc 1490 (zH pc 1487 (zQ pc 1484 (.invokevirtual 151) 3) (zQ pc 1487 (.if_icmp .eq 5) 3)) (zH pc 1491 (zQ pc 1490 (.iconst 0) 1) (zQ pc 1491 .ireturn 1))) (zH pc 1498 (zH pc 1495 (zQ pc 1492 (.iinc 4 7) 3) (zQ pc 1495 (.goto (-1472)) 3)) (zH pc 1499 (zQ pc 1498 (.iconst 1) 1) (zQ pc 1499 .ireturn 1))))))))))) else none
def zcode (mi pc : Nat) : Option (Instr × Nat) := bif Nat.blt mi 213 then (zH mi 106 (zH mi 53 (zH mi 26 (zH mi 13 (zH mi 6 (zH mi 3 (zH mi 1 (zE mi 0 (zc_0 pc) none) (zH mi 2 (zE mi 1 (zc_1 pc) none) (zE mi 2 (zc_2 pc) none))) (zH mi 4 (zE mi 3 (zc_3 pc) none) (zH mi 5 (zE mi 4 (zc_4 pc) none) (zE mi 5 (zc_5 pc) none)))) (zH mi 9 (zH mi 7 (zE mi 6 (zc_6 pc) none) (zH mi 8 (zE mi 7 (zc_7 pc) none) (zE mi 8 (zc_8 pc) none))) (zH mi 11 (zH mi 10 (zE mi 9 (zc_9 pc) none) (zE mi 10 (zc_10 pc) none)) (zH mi 12 (zE mi 11 (zc_11 pc) none) (zE mi 12 (zc_12 pc) none))))) (zH mi 19 (zH mi 16 (zH mi 14 (zE mi 13 (zc_13 pc) none) (zH mi 15 (zE mi 14 (zc_14 pc) none) (zE mi 15 (zc_15 pc) none))) (zH mi 17 (zE mi 16 (zc_16 pc) none) (zH mi 18 (zE mi 17 (zc_17 pc) none) (zE mi 18 (zc_18 pc) none)))) (zH mi 22 (zH mi 20 (zE mi 19 (zc_19 pc) none) (zH mi 21 (zE mi 20 (zc_20 pc) none) (zE mi 21 (zc_21 pc) none))) (zH mi 24 (zH mi 23 (zE mi 22 (zc_22 pc) none) (zE mi 23 (zc_23 pc) none)) (zH mi 25 (zE mi 24 (zc_24 pc) none) (zE mi 25 (zc_25 pc) none)))))) (zH mi 39 (zH mi 32 (zH mi 29 (zH mi 27 (zE mi 26 (zc_26 pc) none) (zH mi 28 (zE mi 27 (zc_27 pc) none) (zE mi 28 (zc_28 pc) none))) (zH mi 30 (zE mi 29 (zc_29 pc) none) (zH mi 31 (zE mi 30 (zc_30 pc) none) (zE mi 31 (zc_31 pc) none)))) (zH mi 35 (zH mi 33 (zE mi 32 (zc_32 pc) none) (zH mi 34 (zE mi 33 (zc_33 pc) none) (zE mi 34 (zc_34 pc) none))) (zH mi 37 (zH mi 36 (zE mi 35 (zc_35 pc) none) (zE mi 36 (zc_36 pc) none)) (zH mi 38 (zE mi 37 (zc_37 pc) none) (zE mi 38 (zc_38 pc) none))))) (zH mi 46 (zH mi 42 (zH mi 40 (zE mi 39 (zc_39 pc) none) (zH mi 41 (zE mi 40 (zc_40 pc) none) (zE mi 41 (zc_41 pc) none))) (zH mi 44 (zH mi 43 (zE mi 42 (zc_42 pc) none) (zE mi 43 (zc_43 pc) none)) (zH mi 45 (zE mi 44 (zc_44 pc) none) (zE mi 45 (zc_45 pc) none)))) (zH mi 49 (zH mi 47 (zE mi 46 (zc_46 pc) none) (zH mi 48 (zE mi 47 (zc_47 pc) none) (zE mi 48 (zc_48 pc) none))) (zH mi 51 (zH mi 50 (zE mi 49 (zc_49 pc) none) (zE mi 50 (zc_50 pc) none)) (zH mi 52 (zE mi 51 (zc_51 pc) none) (zE mi 52 (zc_52 pc) none))))))) (zH mi 79 (zH mi 66 (zH mi 59 (zH mi 56 (zH mi 54 (zE mi 53 (zc_53 pc) none) (zH mi 55 (zE mi 54 (zc_54 pc) none) (zE mi 55 (zc_55 pc) none))) (zH mi 57 (zE mi 56 (zc_56 pc) none) (zH mi 58 (zE mi 57 (zc_57 pc) none) (zE mi 58 (zc_58 pc) none)))) (zH mi 62 (zH mi 60 (zE mi 59 (zc_59 pc) none) (zH mi 61 (zE mi 60 (zc_60 pc) none) (zE mi 61 (zc_61 pc) none))) (zH mi 64 (zH mi 63 (zE mi 62 (zc_62 pc) none) (zE mi 63 (zc_63 pc) none)) (zH mi 65 (zE mi 64 (zc_64 pc) none) (zE mi 65 (zc_65 pc) none))))) (zH mi 72 (zH mi 69 (zH mi 67 (zE mi 66 (zc_66 pc) none) (zH mi 68 (zE mi 67 (zc_67 pc) none) (zE mi 68 (zc_68 pc) none))) (zH mi 70 (zE mi 69 (zc_69 pc) none) (zH mi 71 (zE mi 70 (zc_70 pc) none) (zE mi 71 (zc_71 pc) none)))) (zH mi 75 (zH mi 73 (zE mi 72 (zc_72 pc) none) (zH mi 74 (zE mi 73 (zc_73 pc) none) (zE mi 74 (zc_74 pc) none))) (zH mi 77 (zH mi 76 (zE mi 75 (zc_75 pc) none) (zE mi 76 (zc_76 pc) none)) (zH mi 78 (zE mi 77 (zc_77 pc) none) (zE mi 78 (zc_78 pc) none)))))) (zH mi 92 (zH mi 85 (zH mi 82 (zH mi 80 (zE mi 79 (zc_79 pc) none) (zH mi 81 (zE mi 80 (zc_80 pc) none) (zE mi 81 (zc_81 pc) none))) (zH mi 83 (zE mi 82 (zc_82 pc) none) (zH mi 84 (zE mi 83 (zc_83 pc) none) (zE mi 84 (zc_84 pc) none)))) (zH mi 88 (zH mi 86 (zE mi 85 (zc_85 pc) none) (zH mi 87 (zE mi 86 (zc_86 pc) none) (zE mi 87 (zc_87 pc) none))) (zH mi 90 (zH mi 89 (zE mi 88 (zc_88 pc) none) (zE mi 89 (zc_89 pc) none)) (zH mi 91 (zE mi 90 (zc_90 pc) none) (zE mi 91 (zc_91 pc) none))))) (zH mi 99 (zH mi 95 (zH mi 93 (zE mi 92 (zc_92 pc) none) (zH mi 94 (zE mi 93 (zc_93 pc) none) (zE mi 94 (zc_94 pc) none))) (zH mi 97 (zH mi 96 (zE mi 95 (zc_95 pc) none) (zE mi 96 (zc_96 pc) none)) (zH mi 98 (zE mi 97 (zc_97 pc) none) (zE mi 98 (zc_98 pc) none)))) (zH mi 102 (zH mi 100 (zE mi 99 (zc_99 pc) none) (zH mi 101 (zE mi 100 (zc_100 pc) none) (zE mi 101 (zc_101 pc) none))) (zH mi 104 (zH mi 103 (zE mi 102 (zc_102 pc) none) (zE mi 103 (zc_103 pc) none)) (zH mi 105 (zE mi 104 (zc_104 pc) none) (zE mi 105 (zc_105 pc) none)))))))) (zH mi 159 (zH mi 132 (zH mi 119 (zH mi 112 (zH mi 109 (zH mi 107 (zE mi 106 (zc_106 pc) none) (zH mi 108 (zE mi 107 (zc_107 pc) none) (zE mi 108 (zc_108 pc) none))) (zH mi 110 (zE mi 109 (zc_109 pc) none) (zH mi 111 (zE mi 110 (zc_110 pc) none) (zE mi 111 (zc_111 pc) none)))) (zH mi 115 (zH mi 113 (zE mi 112 (zc_112 pc) none) (zH mi 114 (zE mi 113 (zc_113 pc) none) (zE mi 114 (zc_114 pc) none))) (zH mi 117 (zH mi 116 (zE mi 115 (zc_115 pc) none) (zE mi 116 (zc_116 pc) none)) (zH mi 118 (zE mi 117 (zc_117 pc) none) (zE mi 118 (zc_118 pc) none))))) (zH mi 125 (zH mi 122 (zH mi 120 (zE mi 119 (zc_119 pc) none) (zH mi 121 (zE mi 120 (zc_120 pc) none) (zE mi 121 (zc_121 pc) none))) (zH mi 123 (zE mi 122 (zc_122 pc) none) (zH mi 124 (zE mi 123 (zc_123 pc) none) (zE mi 124 (zc_124 pc) none)))) (zH mi 128 (zH mi 126 (zE mi 125 (zc_125 pc) none) (zH mi 127 (zE mi 126 (zc_126 pc) none) (zE mi 127 (zc_127 pc) none))) (zH mi 130 (zH mi 129 (zE mi 128 (zc_128 pc) none) (zE mi 129 (zc_129 pc) none)) (zH mi 131 (zE mi 130 (zc_130 pc) none) (zE mi 131 (zc_131 pc) none)))))) (zH mi 145 (zH mi 138 (zH mi 135 (zH mi 133 (zE mi 132 (zc_132 pc) none) (zH mi 134 (zE mi 133 (zc_133 pc) none) (zE mi 134 (zc_134 pc) none))) (zH mi 136 (zE mi 135 (zc_135 pc) none) (zH mi 137 (zE mi 136 (zc_136 pc) none) (zE mi 137 (zc_137 pc) none)))) (zH mi 141 (zH mi 139 (zE mi 138 (zc_138 pc) none) (zH mi 140 (zE mi 139 (zc_139 pc) none) (zE mi 140 (zc_140 pc) none))) (zH mi 143 (zH mi 142 (zE mi 141 (zc_141 pc) none) (zE mi 142 (zc_142 pc) none)) (zH mi 144 (zE mi 143 (zc_143 pc) none) (zE mi 144 (zc_144 pc) none))))) (zH mi 152 (zH mi 148 (zH mi 146 (zE mi 145 (zc_145 pc) none) (zH mi 147 (zE mi 146 (zc_146 pc) none) (zE mi 147 (zc_147 pc) none))) (zH mi 150 (zH mi 149 (zE mi 148 (zc_148 pc) none) (zE mi 149 (zc_149 pc) none)) (zH mi 151 (zE mi 150 (zc_150 pc) none) (zE mi 151 (zc_151 pc) none)))) (zH mi 155 (zH mi 153 (zE mi 152 (zc_152 pc) none) (zH mi 154 (zE mi 153 (zc_153 pc) none) (zE mi 154 (zc_154 pc) none))) (zH mi 157 (zH mi 156 (zE mi 155 (zc_155 pc) none) (zE mi 156 (zc_156 pc) none)) (zH mi 158 (zE mi 157 (zc_157 pc) none) (zE mi 158 (zc_158 pc) none))))))) (zH mi 186 (zH mi 172 (zH mi 165 (zH mi 162 (zH mi 160 (zE mi 159 (zc_159 pc) none) (zH mi 161 (zE mi 160 (zc_160 pc) none) (zE mi 161 (zc_161 pc) none))) (zH mi 163 (zE mi 162 (zc_162 pc) none) (zH mi 164 (zE mi 163 (zc_163 pc) none) (zE mi 164 (zc_164 pc) none)))) (zH mi 168 (zH mi 166 (zE mi 165 (zc_165 pc) none) (zH mi 167 (zE mi 166 (zc_166 pc) none) (zE mi 167 (zc_167 pc) none))) (zH mi 170 (zH mi 169 (zE mi 168 (zc_168 pc) none) (zE mi 169 (zc_169 pc) none)) (zH mi 171 (zE mi 170 (zc_170 pc) none) (zE mi 171 (zc_171 pc) none))))) (zH mi 179 (zH mi 175 (zH mi 173 (zE mi 172 (zc_172 pc) none) (zH mi 174 (zE mi 173 (zc_173 pc) none) (zE mi 174 (zc_174 pc) none))) (zH mi 177 (zH mi 176 (zE mi 175 (zc_175 pc) none) (zE mi 176 (zc_176 pc) none)) (zH mi 178 (zE mi 177 (zc_177 pc) none) (zE mi 178 (zc_178 pc) none)))) (zH mi 182 (zH mi 180 (zE mi 179 (zc_179 pc) none) (zH mi 181 (zE mi 180 (zc_180 pc) none) (zE mi 181 (zc_181 pc) none))) (zH mi 184 (zH mi 183 (zE mi 182 (zc_182 pc) none) (zE mi 183 (zc_183 pc) none)) (zH mi 185 (zE mi 184 (zc_184 pc) none) (zE mi 185 (zc_185 pc) none)))))) (zH mi 199 (zH mi 192 (zH mi 189 (zH mi 187 (zE mi 186 (zc_186 pc) none) (zH mi 188 (zE mi 187 (zc_187 pc) none) (zE mi 188 (zc_188 pc) none))) (zH mi 190 (zE mi 189 (zc_189 pc) none) (zH mi 191 (zE mi 190 (zc_190 pc) none) (zE mi 191 (zc_191 pc) none)))) (zH mi 195 (zH mi 193 (zE mi 192 (zc_192 pc) none) (zH mi 194 (zE mi 193 (zc_193 pc) none) (zE mi 194 (zc_194 pc) none))) (zH mi 197 (zH mi 196 (zE mi 195 (zc_195 pc) none) (zE mi 196 (zc_196 pc) none)) (zH mi 198 (zE mi 197 (zc_197 pc) none) (zE mi 198 (zc_198 pc) none))))) (zH mi 206 (zH mi 202 (zH mi 200 (zE mi 199 (zc_199 pc) none) (zH mi 201 (zE mi 200 (zc_200 pc) none) (zE mi 201 (zc_201 pc) none))) (zH mi 204 (zH mi 203 (zE mi 202 (zc_202 pc) none) (zE mi 203 (zc_203 pc) none)) (zH mi 205 (zE mi 204 (zc_204 pc) none) (zE mi 205 (zc_205 pc) none)))) (zH mi 209 (zH mi 207 (zE mi 206 (zc_206 pc) none) (zH mi 208 (zE mi 207 (zc_207 pc) none) (zE mi 208 (zc_208 pc) none))) (zH mi 211 (zH mi 210 (zE mi 209 (zc_209 pc) none) (zE mi 210 (zc_210 pc) none)) (zH mi 212 (zE mi 211 (zc_211 pc) none) (zE mi 212 (zc_212 pc) none))))))))) else none
def zcutk (k : Nat) : Option (List Bool) := (zH k 335981 (zH k 167970 (zH k 96260 (zH k 49192 (zH k 22538 (zH k 12298 (zH k 10265 (zE k 8196 (some [true, true, true]) none) (zE k 10265 (some [true, true, true, false]) none)) (zH k 14356 (zE k 12298 (some [true, true, true, true]) none) (zH k 18438 (zE k 14356 (some [true, true, true, false]) none) (zE k 18438 (some [true, true, true, true, true, true, false]) none)))) (zH k 32774 (zH k 26626 (zE k 22538 (some [true, true, true, true, true, true]) none) (zE k 26626 (some [true, true, true, true]) none)) (zH k 34823 (zE k 32774 (some [true, true, true, true, true, true, true]) none) (zH k 43026 (zE k 34823 (some [true, true, true, true]) none) (zE k 43026 (some [true, true]) none))))) (zH k 57365 (zH k 49248 (zH k 49217 (zE k 49192 (some [true, true, true, false, true, false]) none) (zE k 49217 (some [true, true, true, false, true, true]) none)) (zH k 53251 (zE k 49248 (some [true, true, false, false, true, false]) none) (zH k 55301 (zE k 53251 (some [true, true, true, true, true, true, true]) none) (zE k 55301 (some [true, true, true, true, true, false, false]) none)))) (zH k 63547 (zH k 59396 (zE k 57365 (some [true, true, true, true, true]) none) (zH k 61458 (zE k 59396 (some [true, true, true, true]) none) (zE k 61458 (some [true, true, true, true, false]) none))) (zH k 71700 (zE k 63547 (some [true, true, true, true, true, true, false]) none) (zH k 94213 (zE k 71700 (some [true, true, false]) none) (zE k 94213 (some [true, false, true, true, true]) none)))))) (zH k 133129 (zH k 112643 (zH k 100374 (zH k 98348 (zE k 96260 (some [true, true, true]) none) (zE k 98348 (some [true, false, false, false, true]) none)) (zH k 104458 (zE k 100374 (some [true, false]) none) (zH k 108628 (zE k 104458 (some [true, true, true, true]) none) (zE k 108628 (some [true, true, true, true, true]) none)))) (zH k 116801 (zH k 112683 (zE k 112643 (some [true, true, false, true, false, false]) none) (zH k 116749 (zE k 112683 (some [true, true, false, true, true, false]) none) (zE k 116749 (some [true, false, false]) none))) (zH k 116857 (zE k 116801 (some [true, false, false]) none) (zH k 118787 (zE k 116857 (some [true, true, true]) none) (zE k 118787 (some [true, true, true, true, true]) none))))) (zH k 139295 (zH k 133197 (zH k 133159 (zE k 133129 (some [true, true, true, true, false, false, false]) none) (zE k 133159 (some [true, true, true, true, true, true, true]) none)) (zH k 135172 (zE k 133197 (some [true, true, true, true, true, true, false]) none) (zH k 137220 (zE k 135172 (some [true, true, true]) none) (zE k 137220 (some [true, true, false, true]) none)))) (zH k 157743 (zH k 139359 (zE k 139295 (some [true, true, true, false]) none) (zH k 155650 (zE k 139359 (some [true, false, true, false]) none) (zE k 155650 (some [true, true, false, true]) none))) (zH k 161866 (zE k 157743 (some [true, true, true, true, true, true]) none) (zH k 161903 (zE k 161866 (some [true, true, true, true, true, true, false]) none) (zE k 161903 (some [true, true, true, true, true, true, true]) none))))))) (zH k 196642 (zH k 184322 (zH k 172087 (zH k 169990 (zH k 168075 (zE k 167970 (some [true, true, true, false, false, true, true, true, false]) none) (zE k 168075 (some [true, true, true, false, false, false, true, true, true]) none)) (zH k 170035 (zE k 169990 (some [true, true, true, true, false]) none) (zH k 172037 (zE k 170035 (some [true, true, true, true, true]) none) (zE k 172037 (some [true, false, true, true, true, false]) none)))) (zH k 178191 (zH k 172127 (zE k 172087 (some [true, false, true, true, true, true]) none) (zE k 172127 (some [true, false, true, true, true, true]) none)) (zH k 178253 (zE k 178191 (some [true, true, true, true, true]) none) (zH k 180243 (zE k 178253 (some [true, false, true, true, false]) none) (zE k 180243 (some [true, true]) none))))) (zH k 190466 (zH k 184353 (zH k 184343 (zE k 184322 (some [true, true, false]) none) (zE k 184343 (some [true, true, false]) none)) (zH k 186388 (zE k 184353 (some [true, true, true]) none) (zH k 188418 (zE k 186388 (some [true, true, true, true, true, false]) none) (zE k 188418 (some [true, true, true]) none)))) (zH k 192536 (zH k 190479 (zE k 190466 (some [true, true, true, true, false]) none) (zH k 192514 (zE k 190479 (some [true, true, true, true, true]) none) (zE k 192514 (some [true, true, true, false]) none))) (zH k 192610 (zE k 192536 (some [true, true, true, true]) none) (zH k 194562 (zE k 192610 (some [true, true, false, false]) none) (zE k 194562 (some [true, true, true]) none)))))) (zH k 319566 (zH k 268338 (zH k 233506 (zH k 198689 (zE k 196642 (some [true, false, true, true, true]) none) (zE k 198689 (some [true, true]) none)) (zH k 237647 (zE k 233506 (some [true, true, true, true, true, false]) none) (zH k 245808 (zE k 237647 (some [true, true, true, true, true, true, true]) none) (zE k 245808 (some [true, false, false, false, true, true]) none)))) (zH k 294914 (zH k 286755 (zE k 268338 (some [true, true, false, false, false, false, false, false]) none) (zH k 290882 (zE k 286755 (some [true, true, true, true]) none) (zE k 290882 (some [true, true, true, true, true, true]) none))) (zH k 307202 (zE k 294914 (some [true, true, true, true]) none) (zH k 309259 (zE k 307202 (some [true, true, true]) none) (zE k 309259 (some [true, true, true, true, true, true, false]) none))))) (zH k 327690 (zH k 319686 (zH k 319610 (zE k 319566 (some [true, true, true, false, false]) none) (zE k 319610 (some [true, true, false, false, true]) none)) (zH k 319785 (zE k 319686 (some [true, true, true, true, false]) none) (zH k 323706 (zE k 319785 (some [true, true, false, false, true]) none) (zE k 323706 (some [true, true, true, true]) none)))) (zH k 331815 (zH k 329786 (zE k 327690 (some [true, true, true, true, true]) none) (zH k 331784 (zE k 329786 (some [true, true, true, true, true, true, true]) none) (zE k 331784 (some [true, true, false, true, false, true, false, true, false, false, false]) none))) (zH k 335872 (zE k 331815 (some [true, true, false, true, false, true, false, true, false, false, false]) none) (zH k 335924 (zE k 335872 (some [true, false]) none) (zE k 335924 (some [true, false]) none)))))))) (zH k 385079 (zH k 356542 (zH k 352412 (zH k 336217 (zH k 336096 (zH k 336060 (zE k 335981 (some [true, false]) none) (zE k 336060 (some [true, false]) none)) (zH k 336171 (zE k 336096 (some [true, false]) none) (zH k 336194 (zE k 336171 (some [true, false]) none) (zE k 336194 (some [true, true]) none)))) (zH k 352277 (zH k 350210 (zE k 336217 (some [false, true]) none) (zE k 350210 (some [true, true]) none)) (zH k 352324 (zE k 352277 (some [true, true, true, true, false, false, false, false]) none) (zH k 352378 (zE k 352324 (some [true, true, true, true, true, true, true, false]) none) (zE k 352378 (some [true, true, true, true, true, true, true, true]) none))))) (zH k 352654 (zH k 352536 (zH k 352482 (zE k 352412 (some [true, true, true, true, false, true, false, false]) none) (zE k 352482 (some [true, true, true, true, false, false, false, false]) none)) (zH k 352593 (zE k 352536 (some [true, true, true, false, false, false, false, false]) none) (zH k 352634 (zE k 352593 (some [true, true, true, true, false, false, false, false]) none) (zE k 352634 (some [true, true, true, true, false, false, false, false]) none)))) (zH k 354332 (zH k 352709 (zE k 352654 (some [true, true, true, false, false, false, false, false]) none) (zH k 352729 (zE k 352709 (some [true, true, true, true, false, false, false, false]) none) (zE k 352729 (some [true, true, true, false, false, false, false, false]) none))) (zH k 356400 (zE k 354332 (some [true, true, false, false, false]) none) (zH k 356445 (zE k 356400 (some [true, false]) none) (zE k 356445 (some [true, true]) none)))))) (zH k 366641 (zH k 364558 (zH k 362572 (zH k 362540 (zE k 356542 (some [true, true]) none) (zE k 362540 (some [true, true, true]) none)) (zH k 362602 (zE k 362572 (some [true, true, true]) none) (zH k 362632 (zE k 362602 (some [true, true, true]) none) (zE k 362632 (some [true, true, true]) none)))) (zH k 364831 (zH k 364590 (zE k 364558 (some [true, true, true, true, false, false]) none) (zH k 364680 (zE k 364590 (some [true, true, true, true, true, false]) none) (zE k 364680 (some [true, true, true, true, true, false]) none))) (zH k 364863 (zE k 364831 (some [true, true, true, true, false, true]) none) (zH k 366608 (zE k 364863 (some [true, true, true, true, false, true]) none) (zE k 366608 (some [true, true, true, true, true, false, false, false, false]) none))))) (zH k 374858 (zH k 368642 (zH k 366712 (zE k 366641 (some [true, true, true, true, true, false, false, false, false]) none) (zE k 366712 (some [true, true, true, true, true, true, true, true, false]) none)) (zH k 368663 (zE k 368642 (some [true, true]) none) (zH k 370695 (zE k 368663 (some [true, true]) none) (zE k 370695 (some [false, true, false, true, true]) none)))) (zH k 380984 (zH k 374922 (zE k 374858 (some [true, false, true, true, false, true, true, true, true, false, false, false]) none) (zH k 374979 (zE k 374922 (some [true, false, true, true, false, false, true, true, true, false, false, true]) none) (zE k 374979 (some [true, false, true, true, false, true, true, true, true, true, true, false]) none))) (zH k 381026 (zE k 380984 (some [true, true, true, true, true, true, true, false, false, false]) none) (zH k 382999 (zE k 381026 (some [true, true, true, true, false, false, false, false, true, false]) none) (zE k 382999 (some [true, true, false]) none))))))) (zH k 407584 (zH k 395336 (zH k 391199 (zH k 385230 (zH k 385194 (zE k 385079 (some [true, true, true, true, true, true, true, true, true, true, true, true, false, false, false]) none) (zE k 385194 (some [true, true, true, true, true, true, true, true, true, true, true, true, true, false, false]) none)) (zH k 389122 (zE k 385230 (some [true, true, true, true, true, true, true, true, true, true, true, true, true, false, false]) none) (zH k 391173 (zE k 389122 (some [true, true]) none) (zE k 391173 (some [true, true, true, true, true]) none)))) (zH k 393243 (zH k 393219 (zE k 391199 (some [true, true, true, false, true]) none) (zE k 393219 (some [true, true, true, true, true, true, false]) none)) (zH k 395270 (zE k 393243 (some [true, true, true, true, true, true, false]) none) (zH k 395309 (zE k 395270 (some [true, true, true, true, true, true, true, false, false, false, false]) none) (zE k 395309 (some [true, true, true, true, true, true, true, false, false, false, false]) none))))) (zH k 401421 (zH k 395442 (zH k 395388 (zE k 395336 (some [true, true, true, true, true, true, true, false, false, false, false]) none) (zE k 395388 (some [true, true, true, true, true, true, false, true, true, true, false]) none)) (zH k 397368 (zE k 395442 (some [true, true, true, true, true, true, false, true, true, true, true]) none) (zH k 399375 (zE k 397368 (some [true, true, true, true, true, true]) none) (zE k 399375 (some [true, true, true, true]) none)))) (zH k 401526 (zH k 401446 (zE k 401421 (some [true, true, true, true, false, true, true, true, true, false, false, false, false, false]) none) (zH k 401460 (zE k 401446 (some [true, true, true, true, false, true, true, true, true, false, false, false, false, false]) none) (zE k 401460 (some [true, true, true, true, false, true, true, true, true, true, false, false, false, false]) none))) (zH k 401562 (zE k 401526 (some [true, true, false, true, false, true, true, true, true, false, false, false, false, false]) none) (zH k 401641 (zE k 401562 (some [true, true, false, true, false, true, true, true, true, false, false, false, false, false]) none) (zE k 401641 (some [false, false, false, true, false, true, true, true, true, true, true, true, false, false]) none)))))) (zH k 415842 (zH k 411663 (zH k 409681 (zH k 409646 (zE k 407584 (some [true, true, true, true, true, true]) none) (zE k 409646 (some [true, false, false, false, true, false]) none)) (zH k 409713 (zE k 409681 (some [true, false, false, false, true, true]) none) (zH k 411650 (zE k 409713 (some [true, false, false, false, true, true]) none) (zE k 411650 (some [true, true, true, false, false]) none)))) (zH k 415751 (zH k 413714 (zE k 411663 (some [true, true, true, true, true]) none) (zH k 413749 (zE k 413714 (some [true, true, true]) none) (zE k 413749 (some [true, true, true]) none))) (zH k 415786 (zE k 415751 (some [true, true, false, false]) none) (zH k 415832 (zE k 415786 (some [true, true, false, false]) none) (zE k 415832 (some [true, true, false, false]) none))))) (zH k 432252 (zH k 415919 (zH k 415909 (zE k 415842 (some [true, true, true, false]) none) (zE k 415909 (some [true, true, false, false]) none)) (zH k 415937 (zE k 415919 (some [true, true, true, false]) none) (zH k 432221 (zE k 415937 (some [true, true, true, true]) none) (zE k 432221 (some [true, false, true, true]) none)))) (zH k 434199 (zH k 432314 (zE k 432252 (some [true, false, true, true]) none) (zH k 432342 (zE k 432314 (some [true, false, true, true]) none) (zE k 432342 (some [true, false, true, true]) none))) (zH k 434602 (zE k 434199 (some [true, true, true, true, true, false, false]) none) (zH k 434655 (zE k 434602 (some [true, true, true, true, true, false, false]) none) (zE k 434655 (some [true, true, true, true, true, false, false]) none)))))))))
def zcut (mi pc : Nat) : Option (List Bool) := zcutk (mi * 2048 + pc)
def zaln (t : Nat) : Nat := (zH t 69 (zH t 42 (zH t 29 (zH t 22 (zH t 17 (zH t 15 (zE t 14 13 0) (zH t 16 (zE t 15 5 0) (zE t 16 0 0))) (zH t 20 (zE t 17 1 0) (zH t 21 (zE t 20 40 0) (zE t 21 1200 0)))) (zH t 25 (zH t 23 (zE t 22 200 0) (zH t 24 (zE t 23 200 0) (zE t 24 200 0))) (zH t 27 (zH t 26 (zE t 25 200 0) (zE t 26 200 0)) (zH t 28 (zE t 27 200 0) (zE t 28 200 0))))) (zH t 35 (zH t 32 (zH t 30 (zE t 29 97 0) (zH t 31 (zE t 30 5 0) (zE t 31 2 0))) (zH t 33 (zE t 32 2 0) (zH t 34 (zE t 33 12 0) (zE t 34 12 0)))) (zH t 38 (zH t 36 (zE t 35 12 0) (zH t 37 (zE t 36 960 0) (zE t 37 96 0))) (zH t 40 (zH t 39 (zE t 38 96 0) (zE t 39 116 0)) (zH t 41 (zE t 40 16 0) (zE t 41 1000 0)))))) (zH t 55 (zH t 48 (zH t 45 (zH t 43 (zE t 42 16 0) (zH t 44 (zE t 43 16 0) (zE t 44 16 0))) (zH t 46 (zE t 45 1000 0) (zH t 47 (zE t 46 6 0) (zE t 47 6 0)))) (zH t 51 (zH t 49 (zE t 48 6 0) (zH t 50 (zE t 49 25 0) (zE t 50 360 0))) (zH t 53 (zH t 52 (zE t 51 60 0) (zE t 52 60 0)) (zH t 54 (zE t 53 96 0) (zE t 54 3 0))))) (zH t 62 (zH t 58 (zH t 56 (zE t 55 3 0) (zH t 57 (zE t 56 3 0) (zE t 57 96 0))) (zH t 60 (zH t 59 (zE t 58 5 0) (zE t 59 12 0)) (zH t 61 (zE t 60 12 0) (zE t 61 12 0)))) (zH t 65 (zH t 63 (zE t 62 960 0) (zH t 64 (zE t 63 16 0) (zE t 64 116 0))) (zH t 67 (zH t 66 (zE t 65 116 0) (zE t 66 116 0)) (zH t 68 (zE t 67 40 0) (zE t 68 40 0))))))) (zH t 95 (zH t 82 (zH t 75 (zH t 72 (zH t 70 (zE t 69 40 0) (zH t 71 (zE t 70 40 0) (zE t 71 40 0))) (zH t 73 (zE t 72 40 0) (zH t 74 (zE t 73 40 0) (zE t 74 200 0)))) (zH t 78 (zH t 76 (zE t 75 40 0) (zH t 77 (zE t 76 40 0) (zE t 77 40 0))) (zH t 80 (zH t 79 (zE t 78 40 0) (zE t 79 4800 0)) (zH t 81 (zE t 80 116 0) (zE t 81 40 0))))) (zH t 88 (zH t 85 (zH t 83 (zE t 82 200 0) (zH t 84 (zE t 83 200 0) (zE t 84 200 0))) (zH t 86 (zE t 85 200 0) (zH t 87 (zE t 86 200 0) (zE t 87 200 0)))) (zH t 91 (zH t 89 (zE t 88 200 0) (zH t 90 (zE t 89 1000 0) (zE t 90 2 0))) (zH t 93 (zH t 92 (zE t 91 32 0) (zE t 92 32 0)) (zH t 94 (zE t 93 32 0) (zE t 94 32 0)))))) (zH t 108 (zH t 101 (zH t 98 (zH t 96 (zE t 95 32 0) (zH t 97 (zE t 96 2 0) (zE t 97 6 0))) (zH t 99 (zE t 98 2000 0) (zH t 100 (zE t 99 6 0) (zE t 100 6 0)))) (zH t 104 (zH t 102 (zE t 101 6 0) (zH t 103 (zE t 102 6 0) (zE t 103 6 0))) (zH t 106 (zH t 105 (zE t 104 6 0) (zE t 105 6 0)) (zH t 107 (zE t 106 6 0) (zE t 107 6 0))))) (zH t 115 (zH t 111 (zH t 109 (zE t 108 6 0) (zH t 110 (zE t 109 6 0) (zE t 110 7 0))) (zH t 113 (zH t 112 (zE t 111 6 0) (zE t 112 8 0)) (zH t 114 (zE t 113 12 0) (zE t 114 16 0)))) (zH t 118 (zH t 116 (zE t 115 16 0) (zH t 117 (zE t 116 232 0) (zE t 117 60 0))) (zH t 120 (zH t 119 (zE t 118 5760 0) (zE t 119 3 0)) (zH t 121 (zE t 120 96 0) (zE t 121 3 0))))))))
def zaty (t : Nat) : Nat := (zH t 69 (zH t 42 (zH t 29 (zH t 22 (zH t 17 (zH t 15 (zE t 14 5 9) (zH t 16 (zE t 15 6 9) (zE t 16 7 9))) (zH t 20 (zE t 17 3 9) (zH t 21 (zE t 20 4 9) (zE t 21 0 9)))) (zH t 25 (zH t 23 (zE t 22 0 9) (zH t 24 (zE t 23 0 9) (zE t 24 0 9))) (zH t 27 (zH t 26 (zE t 25 0 9) (zE t 26 0 9)) (zH t 28 (zE t 27 0 9) (zE t 28 0 9))))) (zH t 35 (zH t 32 (zH t 30 (zE t 29 0 9) (zH t 31 (zE t 30 0 9) (zE t 31 0 9))) (zH t 33 (zE t 32 0 9) (zH t 34 (zE t 33 0 9) (zE t 34 0 9)))) (zH t 38 (zH t 36 (zE t 35 0 9) (zH t 37 (zE t 36 0 9) (zE t 37 1 9))) (zH t 40 (zH t 39 (zE t 38 1 9) (zE t 39 0 9)) (zH t 41 (zE t 40 0 9) (zE t 41 2 9)))))) (zH t 55 (zH t 48 (zH t 45 (zH t 43 (zE t 42 0 9) (zH t 44 (zE t 43 0 9) (zE t 44 0 9))) (zH t 46 (zE t 45 0 9) (zH t 47 (zE t 46 3 9) (zE t 47 0 9)))) (zH t 51 (zH t 49 (zE t 48 0 9) (zH t 50 (zE t 49 0 9) (zE t 50 0 9))) (zH t 53 (zH t 52 (zE t 51 0 9) (zE t 52 1 9)) (zH t 54 (zE t 53 1 9) (zE t 54 0 9))))) (zH t 62 (zH t 58 (zH t 56 (zE t 55 0 9) (zH t 57 (zE t 56 0 9) (zE t 57 0 9))) (zH t 60 (zH t 59 (zE t 58 0 9) (zE t 59 0 9)) (zH t 61 (zE t 60 0 9) (zE t 61 0 9)))) (zH t 65 (zH t 63 (zE t 62 0 9) (zH t 64 (zE t 63 0 9) (zE t 64 0 9))) (zH t 67 (zH t 66 (zE t 65 1 9) (zE t 66 1 9)) (zH t 68 (zE t 67 0 9) (zE t 68 0 9))))))) (zH t 95 (zH t 82 (zH t 75 (zH t 72 (zH t 70 (zE t 69 0 9) (zH t 71 (zE t 70 0 9) (zE t 71 0 9))) (zH t 73 (zE t 72 0 9) (zH t 74 (zE t 73 0 9) (zE t 74 0 9)))) (zH t 78 (zH t 76 (zE t 75 0 9) (zH t 77 (zE t 76 0 9) (zE t 77 0 9))) (zH t 80 (zH t 79 (zE t 78 0 9) (zE t 79 0 9)) (zH t 81 (zE t 80 1 9) (zE t 81 1 9))))) (zH t 88 (zH t 85 (zH t 83 (zE t 82 0 9) (zH t 84 (zE t 83 0 9) (zE t 84 0 9))) (zH t 86 (zE t 85 0 9) (zH t 87 (zE t 86 0 9) (zE t 87 0 9)))) (zH t 91 (zH t 89 (zE t 88 0 9) (zH t 90 (zE t 89 0 9) (zE t 90 0 9))) (zH t 93 (zH t 92 (zE t 91 0 9) (zE t 92 0 9)) (zH t 94 (zE t 93 0 9) (zE t 94 0 9)))))) (zH t 108 (zH t 101 (zH t 98 (zH t 96 (zE t 95 0 9) (zH t 97 (zE t 96 0 9) (zE t 97 3 9))) (zH t 99 (zE t 98 0 9) (zH t 100 (zE t 99 0 9) (zE t 100 1 9)))) (zH t 104 (zH t 102 (zE t 101 0 9) (zH t 103 (zE t 102 0 9) (zE t 103 0 9))) (zH t 106 (zH t 105 (zE t 104 0 9) (zE t 105 0 9)) (zH t 107 (zE t 106 0 9) (zE t 107 0 9))))) (zH t 115 (zH t 111 (zH t 109 (zE t 108 1 9) (zH t 110 (zE t 109 0 9) (zE t 110 0 9))) (zH t 113 (zH t 112 (zE t 111 0 9) (zE t 112 0 9)) (zH t 114 (zE t 113 0 9) (zE t 114 0 9)))) (zH t 118 (zH t 116 (zE t 115 0 9) (zH t 117 (zE t 116 1 9) (zE t 117 1 9))) (zH t 120 (zH t 119 (zE t 118 1 9) (zE t 119 0 9)) (zH t 121 (zE t 120 0 9) (zE t 121 0 9))))))))
def zfink (k i : Nat) : Option (Nat × Nat) := (zH k 1416 (zH k 899 (zH k 386 (zH k 134 (zH k 129 (zH k 1 (zE k 0 (some (4, 0)) none) (zH k 2 (zE k 1 (some (20, 0)) none) (zE k 2 (some (21, 0)) none))) (zH k 131 (zH k 130 (zE k 129 (some (22, 0)) none) (zE k 130 (some (23, 0)) none)) (zH k 132 (zE k 131 (some (24, 0)) none) (zE k 132 (some (25, 0)) none)))) (zH k 260 (zH k 135 (zE k 134 (some (26, 0)) none) (zH k 136 (zE k 135 (some (27, 0)) none) (zE k 136 (some (28, 0)) none))) (zH k 384 (zH k 263 (zE k 260 (some (29, i)) none) (zE k 263 (some (30, i)) none)) (zH k 385 (zE k 384 (some (4, 0)) none) (zE k 385 (some (31, 0)) none))))) (zH k 519 (zH k 515 (zH k 513 (zE k 386 (some (32, 0)) none) (zH k 514 (zE k 513 (some (33, 0)) none) (zE k 514 (some (34, 0)) none))) (zH k 517 (zH k 516 (zE k 515 (some (35, 0)) none) (zE k 516 (some (36, 0)) none)) (zH k 518 (zE k 517 (some (37, 0)) none) (zE k 518 (some (38, 0)) none)))) (zH k 642 (zH k 640 (zH k 520 (zE k 519 (some (39, 0)) none) (zE k 520 (some (40, 0)) none)) (zH k 641 (zE k 640 (some (4, 0)) none) (zE k 641 (some (0, 0)) none))) (zH k 768 (zH k 643 (zE k 642 (some (9, 0)) none) (zE k 643 (some (9, 1)) none)) (zH k 896 (zE k 768 (some (41, 0)) none) (zE k 896 (some (6, 0)) none)))))) (zH k 1032 (zH k 908 (zH k 902 (zH k 900 (zE k 899 (some (42, i)) none) (zH k 901 (zE k 900 (some (43, i)) none) (zE k 901 (some (44, i)) none))) (zH k 906 (zH k 905 (zE k 902 (some (45, i)) none) (zE k 905 (some (46, i)) none)) (zH k 907 (zE k 906 (some (47, i)) none) (zE k 907 (some (48, i)) none)))) (zH k 1028 (zH k 1026 (zH k 1024 (zE k 908 (some (49, i)) none) (zE k 1024 (some (4, 0)) none)) (zH k 1027 (zE k 1026 (some (50, 0)) none) (zE k 1027 (some (51, 0)) none))) (zH k 1030 (zH k 1029 (zE k 1028 (some (52, 0)) none) (zE k 1029 (some (53, 0)) none)) (zH k 1031 (zE k 1030 (some (54, 0)) none) (zE k 1031 (some (55, 0)) none))))) (zH k 1284 (zH k 1280 (zH k 1034 (zE k 1032 (some (56, 0)) none) (zH k 1156 (zE k 1034 (some (57, 0)) none) (zE k 1156 (some (58, i)) none))) (zH k 1282 (zH k 1281 (zE k 1280 (some (4, 0)) none) (zE k 1281 (some (0, 0)) none)) (zH k 1283 (zE k 1282 (some (5, 0)) none) (zE k 1283 (some (3, 0)) none)))) (zH k 1412 (zH k 1286 (zH k 1285 (zE k 1284 (some (8, 0)) none) (zE k 1285 (some (1, 0)) none)) (zH k 1411 (zE k 1286 (some (6, 0)) none) (zE k 1411 (some (59, 0)) none))) (zH k 1414 (zH k 1413 (zE k 1412 (some (60, 0)) none) (zE k 1413 (some (61, 0)) none)) (zH k 1415 (zE k 1414 (some (62, 0)) none) (zE k 1415 (some (63, 0)) none))))))) (zH k 1456 (zH k 1431 (zH k 1424 (zH k 1420 (zH k 1417 (zE k 1416 (some (64, 0)) none) (zH k 1418 (zE k 1417 (some (65, 0)) none) (zE k 1418 (some (66, 0)) none))) (zH k 1422 (zH k 1421 (zE k 1420 (some (67, 0)) none) (zE k 1421 (some (68, 0)) none)) (zH k 1423 (zE k 1422 (some (69, 0)) none) (zE k 1423 (some (70, 0)) none)))) (zH k 1427 (zH k 1425 (zE k 1424 (some (71, 0)) none) (zH k 1426 (zE k 1425 (some (72, 0)) none) (zE k 1426 (some (73, 0)) none))) (zH k 1429 (zH k 1428 (zE k 1427 (some (74, 0)) none) (zE k 1428 (some (75, 0)) none)) (zH k 1430 (zE k 1429 (some (76, 0)) none) (zE k 1430 (some (77, 0)) none))))) (zH k 1439 (zH k 1434 (zH k 1432 (zE k 1431 (some (78, 0)) none) (zH k 1433 (zE k 1432 (some (79, 0)) none) (zE k 1433 (some (80, 0)) none))) (zH k 1437 (zH k 1436 (zE k 1434 (some (81, 0)) none) (zE k 1436 (some (82, 0)) none)) (zH k 1438 (zE k 1437 (some (83, 0)) none) (zE k 1438 (some (84, 0)) none)))) (zH k 1445 (zH k 1442 (zH k 1441 (zE k 1439 (some (85, 0)) none) (zE k 1441 (some (86, 0)) none)) (zH k 1443 (zE k 1442 (some (87, 0)) none) (zE k 1443 (some (88, 0)) none))) (zH k 1454 (zH k 1453 (zE k 1445 (some (89, 0)) none) (zE k 1453 (some (90, 0)) none)) (zH k 1455 (zE k 1454 (some (91, 0)) none) (zE k 1455 (some (92, 0)) none)))))) (zH k 1472 (zH k 1464 (zH k 1459 (zH k 1457 (zE k 1456 (some (93, 0)) none) (zH k 1458 (zE k 1457 (some (94, 0)) none) (zE k 1458 (some (95, 0)) none))) (zH k 1461 (zH k 1460 (zE k 1459 (some (96, 0)) none) (zE k 1460 (some (97, 0)) none)) (zH k 1463 (zE k 1461 (some (98, 0)) none) (zE k 1463 (some (99, 0)) none)))) (zH k 1468 (zH k 1466 (zH k 1465 (zE k 1464 (some (100, 0)) none) (zE k 1465 (some (101, 0)) none)) (zH k 1467 (zE k 1466 (some (102, 0)) none) (zE k 1467 (some (103, 0)) none))) (zH k 1470 (zH k 1469 (zE k 1468 (some (104, 0)) none) (zE k 1469 (some (105, 0)) none)) (zH k 1471 (zE k 1470 (some (106, 0)) none) (zE k 1471 (some (107, 0)) none))))) (zH k 1481 (zH k 1475 (zH k 1473 (zE k 1472 (some (108, 0)) none) (zH k 1474 (zE k 1473 (some (109, 0)) none) (zE k 1474 (some (110, 0)) none))) (zH k 1478 (zH k 1477 (zE k 1475 (some (111, 0)) none) (zE k 1477 (some (112, 0)) none)) (zH k 1479 (zE k 1478 (some (113, 0)) none) (zE k 1479 (some (114, 0)) none)))) (zH k 1486 (zH k 1484 (zH k 1482 (zE k 1481 (some (115, 0)) none) (zE k 1482 (some (116, 0)) none)) (zH k 1485 (zE k 1484 (some (117, 0)) none) (zE k 1485 (some (118, 0)) none))) (zH k 1488 (zH k 1487 (zE k 1486 (some (119, 0)) none) (zE k 1487 (some (120, 0)) none)) (zH k 1536 (zE k 1488 (some (121, 0)) none) (zE k 1536 (some (13, i)) none))))))))
def zfin (t k i : Nat) : Option (Nat × Nat) := zfink (t * 128 + k) i
def zldck (k : Nat) : Option (Int32 ⊕ Nat) := (zH k 11408 (zH k 7346 (zH k 7339 (zE k 6195 (some (.inr 13)) none) (zE k 7339 (some (.inl (999999 : Int32))) none)) (zH k 11342 (zE k 7346 (some (.inl (86400 : Int32))) none) (zH k 11343 (zE k 11342 (some (.inl (100000 : Int32))) none) (zE k 11343 (some (.inl (999999 : Int32))) none)))) (zH k 12511 (zH k 11537 (zE k 11408 (some (.inl (86400 : Int32))) none) (zH k 12507 (zE k 11537 (some (.inl (99999 : Int32))) none) (zE k 12507 (some (.inl (100000 : Int32))) none))) (zH k 12555 (zE k 12511 (some (.inl (999999 : Int32))) none) (zH k 12684 (zE k 12555 (some (.inl (86400 : Int32))) none) (zE k 12684 (some (.inl (99999 : Int32))) none)))))
def zcst (n : Int) : Int32 := (zH (n + 40000).toNat 40043 (zH (n + 40000).toNat 40019 (zH (n + 40000).toNat 40007 (zH (n + 40000).toNat 40001 (zH (n + 40000).toNat 39998 (zH (n + 40000).toNat 39997 (zE (n + 40000).toNat 39992 (-8 : Int32) (Int32.ofInt n)) (zE (n + 40000).toNat 39997 (-3 : Int32) (Int32.ofInt n))) (zH (n + 40000).toNat 39999 (zE (n + 40000).toNat 39998 (-2 : Int32) (Int32.ofInt n)) (zH (n + 40000).toNat 40000 (zE (n + 40000).toNat 39999 (-1 : Int32) (Int32.ofInt n)) (zE (n + 40000).toNat 40000 (0 : Int32) (Int32.ofInt n))))) (zH (n + 40000).toNat 40004 (zH (n + 40000).toNat 40002 (zE (n + 40000).toNat 40001 (1 : Int32) (Int32.ofInt n)) (zH (n + 40000).toNat 40003 (zE (n + 40000).toNat 40002 (2 : Int32) (Int32.ofInt n)) (zE (n + 40000).toNat 40003 (3 : Int32) (Int32.ofInt n)))) (zH (n + 40000).toNat 40005 (zE (n + 40000).toNat 40004 (4 : Int32) (Int32.ofInt n)) (zH (n + 40000).toNat 40006 (zE (n + 40000).toNat 40005 (5 : Int32) (Int32.ofInt n)) (zE (n + 40000).toNat 40006 (6 : Int32) (Int32.ofInt n)))))) (zH (n + 40000).toNat 40013 (zH (n + 40000).toNat 40010 (zH (n + 40000).toNat 40008 (zE (n + 40000).toNat 40007 (7 : Int32) (Int32.ofInt n)) (zH (n + 40000).toNat 40009 (zE (n + 40000).toNat 40008 (8 : Int32) (Int32.ofInt n)) (zE (n + 40000).toNat 40009 (9 : Int32) (Int32.ofInt n)))) (zH (n + 40000).toNat 40011 (zE (n + 40000).toNat 40010 (10 : Int32) (Int32.ofInt n)) (zH (n + 40000).toNat 40012 (zE (n + 40000).toNat 40011 (11 : Int32) (Int32.ofInt n)) (zE (n + 40000).toNat 40012 (12 : Int32) (Int32.ofInt n))))) (zH (n + 40000).toNat 40016 (zH (n + 40000).toNat 40014 (zE (n + 40000).toNat 40013 (13 : Int32) (Int32.ofInt n)) (zH (n + 40000).toNat 40015 (zE (n + 40000).toNat 40014 (14 : Int32) (Int32.ofInt n)) (zE (n + 40000).toNat 40015 (15 : Int32) (Int32.ofInt n)))) (zH (n + 40000).toNat 40017 (zE (n + 40000).toNat 40016 (16 : Int32) (Int32.ofInt n)) (zH (n + 40000).toNat 40018 (zE (n + 40000).toNat 40017 (17 : Int32) (Int32.ofInt n)) (zE (n + 40000).toNat 40018 (18 : Int32) (Int32.ofInt n))))))) (zH (n + 40000).toNat 40031 (zH (n + 40000).toNat 40025 (zH (n + 40000).toNat 40022 (zH (n + 40000).toNat 40020 (zE (n + 40000).toNat 40019 (19 : Int32) (Int32.ofInt n)) (zH (n + 40000).toNat 40021 (zE (n + 40000).toNat 40020 (20 : Int32) (Int32.ofInt n)) (zE (n + 40000).toNat 40021 (21 : Int32) (Int32.ofInt n)))) (zH (n + 40000).toNat 40023 (zE (n + 40000).toNat 40022 (22 : Int32) (Int32.ofInt n)) (zH (n + 40000).toNat 40024 (zE (n + 40000).toNat 40023 (23 : Int32) (Int32.ofInt n)) (zE (n + 40000).toNat 40024 (24 : Int32) (Int32.ofInt n))))) (zH (n + 40000).toNat 40028 (zH (n + 40000).toNat 40026 (zE (n + 40000).toNat 40025 (25 : Int32) (Int32.ofInt n)) (zH (n + 40000).toNat 40027 (zE (n + 40000).toNat 40026 (26 : Int32) (Int32.ofInt n)) (zE (n + 40000).toNat 40027 (27 : Int32) (Int32.ofInt n)))) (zH (n + 40000).toNat 40029 (zE (n + 40000).toNat 40028 (28 : Int32) (Int32.ofInt n)) (zH (n + 40000).toNat 40030 (zE (n + 40000).toNat 40029 (29 : Int32) (Int32.ofInt n)) (zE (n + 40000).toNat 40030 (30 : Int32) (Int32.ofInt n)))))) (zH (n + 40000).toNat 40037 (zH (n + 40000).toNat 40034 (zH (n + 40000).toNat 40032 (zE (n + 40000).toNat 40031 (31 : Int32) (Int32.ofInt n)) (zH (n + 40000).toNat 40033 (zE (n + 40000).toNat 40032 (32 : Int32) (Int32.ofInt n)) (zE (n + 40000).toNat 40033 (33 : Int32) (Int32.ofInt n)))) (zH (n + 40000).toNat 40035 (zE (n + 40000).toNat 40034 (34 : Int32) (Int32.ofInt n)) (zH (n + 40000).toNat 40036 (zE (n + 40000).toNat 40035 (35 : Int32) (Int32.ofInt n)) (zE (n + 40000).toNat 40036 (36 : Int32) (Int32.ofInt n))))) (zH (n + 40000).toNat 40040 (zH (n + 40000).toNat 40038 (zE (n + 40000).toNat 40037 (37 : Int32) (Int32.ofInt n)) (zH (n + 40000).toNat 40039 (zE (n + 40000).toNat 40038 (38 : Int32) (Int32.ofInt n)) (zE (n + 40000).toNat 40039 (39 : Int32) (Int32.ofInt n)))) (zH (n + 40000).toNat 40041 (zE (n + 40000).toNat 40040 (40 : Int32) (Int32.ofInt n)) (zH (n + 40000).toNat 40042 (zE (n + 40000).toNat 40041 (41 : Int32) (Int32.ofInt n)) (zE (n + 40000).toNat 40042 (42 : Int32) (Int32.ofInt n)))))))) (zH (n + 40000).toNat 40096 (zH (n + 40000).toNat 40054 (zH (n + 40000).toNat 40048 (zH (n + 40000).toNat 40045 (zH (n + 40000).toNat 40044 (zE (n + 40000).toNat 40043 (43 : Int32) (Int32.ofInt n)) (zE (n + 40000).toNat 40044 (44 : Int32) (Int32.ofInt n))) (zH (n + 40000).toNat 40046 (zE (n + 40000).toNat 40045 (45 : Int32) (Int32.ofInt n)) (zH (n + 40000).toNat 40047 (zE (n + 40000).toNat 40046 (46 : Int32) (Int32.ofInt n)) (zE (n + 40000).toNat 40047 (47 : Int32) (Int32.ofInt n))))) (zH (n + 40000).toNat 40051 (zH (n + 40000).toNat 40049 (zE (n + 40000).toNat 40048 (48 : Int32) (Int32.ofInt n)) (zH (n + 40000).toNat 40050 (zE (n + 40000).toNat 40049 (49 : Int32) (Int32.ofInt n)) (zE (n + 40000).toNat 40050 (50 : Int32) (Int32.ofInt n)))) (zH (n + 40000).toNat 40052 (zE (n + 40000).toNat 40051 (51 : Int32) (Int32.ofInt n)) (zH (n + 40000).toNat 40053 (zE (n + 40000).toNat 40052 (52 : Int32) (Int32.ofInt n)) (zE (n + 40000).toNat 40053 (53 : Int32) (Int32.ofInt n)))))) (zH (n + 40000).toNat 40060 (zH (n + 40000).toNat 40057 (zH (n + 40000).toNat 40055 (zE (n + 40000).toNat 40054 (54 : Int32) (Int32.ofInt n)) (zH (n + 40000).toNat 40056 (zE (n + 40000).toNat 40055 (55 : Int32) (Int32.ofInt n)) (zE (n + 40000).toNat 40056 (56 : Int32) (Int32.ofInt n)))) (zH (n + 40000).toNat 40058 (zE (n + 40000).toNat 40057 (57 : Int32) (Int32.ofInt n)) (zH (n + 40000).toNat 40059 (zE (n + 40000).toNat 40058 (58 : Int32) (Int32.ofInt n)) (zE (n + 40000).toNat 40059 (59 : Int32) (Int32.ofInt n))))) (zH (n + 40000).toNat 40063 (zH (n + 40000).toNat 40061 (zE (n + 40000).toNat 40060 (60 : Int32) (Int32.ofInt n)) (zH (n + 40000).toNat 40062 (zE (n + 40000).toNat 40061 (61 : Int32) (Int32.ofInt n)) (zE (n + 40000).toNat 40062 (62 : Int32) (Int32.ofInt n)))) (zH (n + 40000).toNat 40064 (zE (n + 40000).toNat 40063 (63 : Int32) (Int32.ofInt n)) (zH (n + 40000).toNat 40080 (zE (n + 40000).toNat 40064 (64 : Int32) (Int32.ofInt n)) (zE (n + 40000).toNat 40080 (80 : Int32) (Int32.ofInt n))))))) (zH (n + 40000).toNat 43600 (zH (n + 40000).toNat 40120 (zH (n + 40000).toNat 40100 (zH (n + 40000).toNat 40097 (zE (n + 40000).toNat 40096 (96 : Int32) (Int32.ofInt n)) (zH (n + 40000).toNat 40099 (zE (n + 40000).toNat 40097 (97 : Int32) (Int32.ofInt n)) (zE (n + 40000).toNat 40099 (99 : Int32) (Int32.ofInt n)))) (zH (n + 40000).toNat 40115 (zE (n + 40000).toNat 40100 (100 : Int32) (Int32.ofInt n)) (zH (n + 40000).toNat 40116 (zE (n + 40000).toNat 40115 (115 : Int32) (Int32.ofInt n)) (zE (n + 40000).toNat 40116 (116 : Int32) (Int32.ofInt n))))) (zH (n + 40000).toNat 40200 (zH (n + 40000).toNat 40122 (zE (n + 40000).toNat 40120 (120 : Int32) (Int32.ofInt n)) (zH (n + 40000).toNat 40126 (zE (n + 40000).toNat 40122 (122 : Int32) (Int32.ofInt n)) (zE (n + 40000).toNat 40126 (126 : Int32) (Int32.ofInt n)))) (zH (n + 40000).toNat 40232 (zE (n + 40000).toNat 40200 (200 : Int32) (Int32.ofInt n)) (zH (n + 40000).toNat 41000 (zE (n + 40000).toNat 40232 (232 : Int32) (Int32.ofInt n)) (zE (n + 40000).toNat 41000 (1000 : Int32) (Int32.ofInt n)))))) (zH (n + 40000).toNat 70002 (zH (n + 40000).toNat 60000 (zH (n + 40000).toNat 49999 (zE (n + 40000).toNat 43600 (3600 : Int32) (Int32.ofInt n)) (zH (n + 40000).toNat 50000 (zE (n + 40000).toNat 49999 (9999 : Int32) (Int32.ofInt n)) (zE (n + 40000).toNat 50000 (10000 : Int32) (Int32.ofInt n)))) (zH (n + 40000).toNat 70000 (zE (n + 40000).toNat 60000 (20000 : Int32) (Int32.ofInt n)) (zH (n + 40000).toNat 70001 (zE (n + 40000).toNat 70000 (30000 : Int32) (Int32.ofInt n)) (zE (n + 40000).toNat 70001 (30001 : Int32) (Int32.ofInt n))))) (zH (n + 40000).toNat 70005 (zH (n + 40000).toNat 70003 (zE (n + 40000).toNat 70002 (30002 : Int32) (Int32.ofInt n)) (zH (n + 40000).toNat 70004 (zE (n + 40000).toNat 70003 (30003 : Int32) (Int32.ofInt n)) (zE (n + 40000).toNat 70004 (30004 : Int32) (Int32.ofInt n)))) (zH (n + 40000).toNat 70006 (zE (n + 40000).toNat 70005 (30005 : Int32) (Int32.ofInt n)) (zH (n + 40000).toNat 70007 (zE (n + 40000).toNat 70006 (30006 : Int32) (Int32.ofInt n)) (zE (n + 40000).toNat 70007 (30007 : Int32) (Int32.ofInt n)))))))))
def zldc (oc n : Nat) : Option (Int32 ⊕ Nat) := zldck (oc * 1024 + n)
def zldlk (k : Nat) : Option Int64 := (zH k 12607 (zH k 12591 (zH k 12562 (zH k 6226 (zE k 6159 (some (255 : Int64)) none) (zE k 6226 (some (32 : Int64)) none)) (zH k 12589 (zE k 12562 (some (255 : Int64)) none) (zE k 12589 (some (27 : Int64)) none))) (zH k 12601 (zH k 12599 (zE k 12591 (some (96 : Int64)) none) (zE k 12599 (some (523076 : Int64)) none)) (zH k 12603 (zE k 12601 (some (168984 : Int64)) none) (zH k 12605 (zE k 12603 (some (2968 : Int64)) none) (zE k 12605 (some (173107021 : Int64)) none))))) (zH k 12617 (zH k 12611 (zH k 12609 (zE k 12607 (some (11442943 : Int64)) none) (zE k 12609 (some (243140 : Int64)) none)) (zH k 12613 (zE k 12611 (some (8903 : Int64)) none) (zH k 12615 (zE k 12613 (some (423812 : Int64)) none) (zE k 12615 (some (99233 : Int64)) none)))) (zH k 12621 (zH k 12619 (zE k 12617 (some (458690 : Int64)) none) (zE k 12619 (some (1111 : Int64)) none)) (zH k 12623 (zE k 12621 (some (423 : Int64)) none) (zH k 13381 (zE k 12623 (some (10631 : Int64)) none) (zE k 13381 (some (4294967295 : Int64)) none))))))
def zldl (oc n : Nat) : Option Int64 := zldlk (oc * 1024 + n)
def zstak (k : Nat) : Option (Nat × Nat) := (zH k 7324 (zH k 7286 (zH k 7231 (zE k 6208 (some (14, 0)) none) (zH k 7250 (zE k 7231 (some (12, 6)) none) (zE k 7250 (some (12, 7)) none))) (zH k 7315 (zH k 7292 (zE k 7286 (some (12, 8)) none) (zE k 7292 (some (12, 9)) none)) (zH k 7318 (zE k 7315 (some (12, 10)) none) (zE k 7318 (some (12, 11)) none)))) (zH k 7343 (zH k 7336 (zH k 7331 (zE k 7324 (some (12, 12)) none) (zE k 7331 (some (12, 0)) none)) (zH k 7340 (zE k 7336 (some (12, 5)) none) (zE k 7340 (some (12, 1)) none))) (zH k 7350 (zH k 7347 (zE k 7343 (some (12, 2)) none) (zE k 7347 (some (12, 3)) none)) (zH k 11538 (zE k 7350 (some (12, 4)) none) (zE k 11538 (some (15, 0)) none)))))
def zsta (oc n : Nat) : Option (Nat × Nat) := zstak (oc * 1024 + n)
def zmthk (k : Nat) : Option (Nat × Nat × Nat) := (zH k 11443 (zH k 6222 (zH k 3135 (zH k 117 (zH k 75 (zH k 57 (zH k 31 (zE k 25 (some (1002, 2, 0)) none) (zH k 47 (zE k 31 (some (33, 3, 1)) none) (zE k 47 (some (3, 2, 1)) none))) (zH k 67 (zH k 60 (zE k 57 (some (45, 2, 1)) none) (zE k 60 (some (10, 4, 0)) none)) (zH k 71 (zE k 67 (some (21, 2, 0)) none) (zE k 71 (some (19, 1, 1)) none)))) (zH k 94 (zH k 84 (zH k 81 (zE k 75 (some (37, 2, 1)) none) (zE k 81 (some (38, 2, 1)) none)) (zH k 88 (zE k 84 (some (8, 3, 0)) none) (zE k 88 (some (9, 4, 0)) none))) (zH k 104 (zH k 98 (zE k 94 (some (5, 3, 1)) none) (zE k 98 (some (2, 2, 1)) none)) (zH k 114 (zE k 104 (some (42, 4, 1)) none) (zE k 114 (some (22, 2, 0)) none))))) (zH k 2088 (zH k 131 (zH k 124 (zH k 120 (zE k 117 (some (44, 2, 1)) none) (zE k 120 (some (6, 2, 1)) none)) (zH k 127 (zE k 124 (some (132, 3, 1)) none) (zE k 127 (some (7, 3, 1)) none))) (zH k 137 (zH k 134 (zE k 131 (some (13, 3, 0)) none) (zE k 134 (some (1, 2, 1)) none)) (zH k 1064 (zE k 137 (some (23, 1, 0)) none) (zE k 1064 (some (17, 3, 1)) none)))) (zH k 3118 (zH k 3107 (zH k 3094 (zE k 2088 (some (19, 1, 1)) none) (zE k 3094 (some (34, 3, 1)) none)) (zH k 3114 (zE k 3107 (some (25, 5, 0)) none) (zE k 3114 (some (41, 5, 1)) none))) (zH k 3126 (zH k 3122 (zE k 3118 (some (43, 2, 1)) none) (zE k 3122 (some (26, 6, 1)) none)) (zH k 3132 (zE k 3126 (some (1000, 2, 1)) none) (zE k 3132 (some (29, 2, 1)) none)))))) (zH k 5216 (zH k 4164 (zH k 4151 (zH k 4143 (zH k 4133 (zE k 3135 (some (27, 3, 1)) none) (zE k 4133 (some (1002, 2, 0)) none)) (zH k 4147 (zE k 4143 (some (34, 3, 1)) none) (zE k 4147 (some (36, 2, 1)) none))) (zH k 4158 (zH k 4155 (zE k 4151 (some (40, 3, 1)) none) (zE k 4155 (some (33, 3, 1)) none)) (zH k 4161 (zE k 4158 (some (35, 2, 1)) none) (zE k 4161 (some (37, 2, 1)) none)))) (zH k 5178 (zH k 5167 (zH k 5159 (zE k 4164 (some (43, 2, 1)) none) (zE k 5159 (some (96, 4, 0)) none)) (zH k 5174 (zE k 5167 (some (51, 2, 1)) none) (zE k 5174 (some (49, 1, 1)) none))) (zH k 5196 (zH k 5192 (zE k 5178 (some (50, 2, 1)) none) (zE k 5192 (some (97, 2, 0)) none)) (zH k 5212 (zE k 5196 (some (13, 3, 0)) none) (zE k 5212 (some (52, 4, 1)) none))))) (zH k 5254 (zH k 5235 (zH k 5229 (zH k 5220 (zE k 5216 (some (45, 2, 1)) none) (zE k 5220 (some (44, 2, 1)) none)) (zH k 5232 (zE k 5229 (some (53, 4, 1)) none) (zE k 5232 (some (37, 2, 1)) none))) (zH k 5241 (zH k 5238 (zE k 5235 (some (98, 2, 1)) none) (zE k 5238 (some (54, 2, 1)) none)) (zH k 5244 (zE k 5241 (some (38, 2, 1)) none) (zE k 5244 (some (99, 4, 1)) none)))) (zH k 6184 (zH k 6174 (zH k 6171 (zE k 5254 (some (42, 4, 1)) none) (zE k 6171 (some (57, 1, 0)) none)) (zH k 6178 (zE k 6174 (some (58, 4, 1)) none) (zE k 6178 (some (1000, 2, 1)) none))) (zH k 6216 (zH k 6197 (zE k 6184 (some (65, 1, 3)) none) (zE k 6197 (some (1006, 2, 1)) none)) (zH k 6219 (zE k 6216 (some (1004, 1, 1)) none) (zE k 6219 (some (1001, 2, 1)) none))))))) (zH k 8263 (zH k 7282 (zH k 7253 (zH k 7237 (zH k 7224 (zE k 6222 (some (1005, 2, 1)) none) (zH k 7227 (zE k 7224 (some (56, 1, 0)) none) (zE k 7227 (some (59, 1, 1)) none))) (zH k 7244 (zH k 7241 (zE k 7237 (some (62, 2, 1)) none) (zE k 7241 (some (69, 1, 1)) none)) (zH k 7247 (zE k 7244 (some (70, 1, 1)) none) (zE k 7247 (some (71, 1, 1)) none)))) (zH k 7267 (zH k 7260 (zH k 7257 (zE k 7253 (some (72, 2, 1)) none) (zE k 7257 (some (57, 1, 0)) none)) (zH k 7263 (zE k 7260 (some (63, 1, 1)) none) (zE k 7263 (some (67, 1, 2)) none))) (zH k 7275 (zH k 7271 (zE k 7267 (some (76, 2, 1)) none) (zE k 7271 (some (73, 2, 1)) none)) (zH k 7279 (zE k 7275 (some (77, 3, 1)) none) (zE k 7279 (some (75, 3, 1)) none))))) (zH k 7327 (zH k 7304 (zH k 7298 (zH k 7289 (zE k 7282 (some (66, 1, 1)) none) (zE k 7289 (some (74, 2, 1)) none)) (zH k 7301 (zE k 7298 (some (61, 2, 1)) none) (zE k 7301 (some (60, 1, 1)) none))) (zH k 7311 (zH k 7307 (zE k 7304 (some (79, 2, 1)) none) (zE k 7307 (some (78, 2, 1)) none)) (zH k 7321 (zE k 7311 (some (81, 2, 0)) none) (zE k 7321 (some (64, 1, 1)) none)))) (zH k 7363 (zH k 7356 (zH k 7353 (zE k 7327 (some (80, 3, 1)) none) (zE k 7353 (some (83, 1, 1)) none)) (zH k 7360 (zE k 7356 (some (84, 3, 1)) none) (zE k 7360 (some (85, 2, 1)) none))) (zH k 8254 (zH k 8245 (zE k 7363 (some (86, 3, 1)) none) (zE k 8245 (some (35, 2, 1)) none)) (zH k 8260 (zE k 8254 (some (1002, 2, 0)) none) (zE k 8260 (some (90, 1, 0)) none)))))) (zH k 11370 (zH k 9267 (zH k 8279 (zH k 8271 (zH k 8267 (zE k 8263 (some (91, 3, 0)) none) (zE k 8267 (some (92, 2, 1)) none)) (zH k 8275 (zE k 8271 (some (94, 2, 0)) none) (zE k 8275 (some (93, 3, 1)) none))) (zH k 9247 (zH k 8282 (zE k 8279 (some (95, 2, 1)) none) (zE k 8282 (some (1003, 5, 0)) none)) (zH k 9256 (zE k 9247 (some (1001, 2, 1)) none) (zE k 9256 (some (132, 3, 1)) none)))) (zH k 11348 (zH k 9278 (zH k 9273 (zE k 9267 (some (1003, 5, 0)) none) (zE k 9273 (some (5, 3, 1)) none)) (zH k 11344 (zE k 9278 (some (2, 2, 1)) none) (zE k 11344 (some (30, 4, 1)) none))) (zH k 11356 (zH k 11352 (zE k 11348 (some (31, 6, 1)) none) (zE k 11352 (some (32, 3, 1)) none)) (zH k 11359 (zE k 11356 (some (0, 4, 1)) none) (zE k 11359 (some (35, 2, 1)) none))))) (zH k 11412 (zH k 11396 (zH k 11381 (zH k 11377 (zE k 11370 (some (2, 2, 1)) none) (zE k 11377 (some (6, 2, 1)) none)) (zH k 11384 (zE k 11381 (some (3, 2, 1)) none) (zE k 11384 (some (7, 3, 1)) none))) (zH k 11404 (zH k 11400 (zE k 11396 (some (19, 1, 1)) none) (zE k 11400 (some (39, 2, 1)) none)) (zH k 11409 (zE k 11404 (some (82, 5, 1)) none) (zE k 11409 (some (129, 1, 1)) none)))) (zH k 11430 (zH k 11420 (zH k 11416 (zE k 11412 (some (14, 5, 0)) none) (zE k 11416 (some (12, 2, 0)) none)) (zH k 11427 (zE k 11420 (some (55, 2, 0)) none) (zE k 11427 (some (68, 1, 1)) none))) (zH k 11437 (zH k 11434 (zE k 11430 (some (15, 4, 1)) none) (zE k 11434 (some (1, 2, 1)) none)) (zH k 11440 (zE k 11437 (some (16, 5, 1)) none) (zE k 11440 (some (130, 4, 1)) none)))))))) (zH k 12737 (zH k 12586 (zH k 11534 (zH k 11470 (zH k 11454 (zH k 11447 (zE k 11443 (some (11, 4, 1)) none) (zH k 11450 (zE k 11447 (some (115, 4, 1)) none) (zE k 11450 (some (131, 7, 1)) none))) (zH k 11463 (zH k 11460 (zE k 11454 (some (48, 4, 1)) none) (zE k 11460 (some (24, 4, 1)) none)) (zH k 11467 (zE k 11463 (some (27, 3, 1)) none) (zE k 11467 (some (28, 3, 1)) none)))) (zH k 11506 (zH k 11481 (zH k 11474 (zE k 11470 (some (87, 3, 0)) none) (zE k 11474 (some (88, 1, 1)) none)) (zH k 11497 (zE k 11481 (some (89, 2, 1)) none) (zE k 11497 (some (20, 2, 1)) none))) (zH k 11519 (zH k 11512 (zE k 11506 (some (36, 2, 1)) none) (zE k 11512 (some (18, 3, 1)) none)) (zH k 11522 (zE k 11519 (some (4, 1, 1)) none) (zE k 11522 (some (46, 3, 1)) none))))) (zH k 12529 (zH k 12515 (zH k 12500 (zH k 12496 (zE k 11534 (some (47, 1, 1)) none) (zE k 12496 (some (135, 2, 1)) none)) (zH k 12512 (zE k 12500 (some (134, 3, 1)) none) (zE k 12512 (some (138, 2, 1)) none))) (zH k 12522 (zH k 12518 (zE k 12515 (some (136, 2, 1)) none) (zE k 12518 (some (141, 4, 1)) none)) (zH k 12526 (zE k 12522 (some (144, 3, 1)) none) (zE k 12526 (some (148, 2, 1)) none)))) (zH k 12543 (zH k 12536 (zH k 12532 (zE k 12529 (some (137, 2, 1)) none) (zE k 12532 (some (150, 2, 1)) none)) (zH k 12540 (zE k 12536 (some (152, 3, 0)) none) (zE k 12540 (some (154, 2, 1)) none))) (zH k 12549 (zH k 12546 (zE k 12543 (some (155, 2, 1)) none) (zE k 12546 (some (151, 3, 1)) none)) (zH k 12559 (zE k 12549 (some (179, 2, 1)) none) (zE k 12559 (some (160, 3, 1)) none)))))) (zH k 12677 (zH k 12650 (zH k 12636 (zH k 12629 (zH k 12625 (zE k 12586 (some (163, 2, 1)) none) (zE k 12625 (some (169, 1, 1)) none)) (zH k 12633 (zE k 12629 (some (165, 2, 1)) none) (zE k 12633 (some (166, 2, 1)) none))) (zH k 12643 (zH k 12640 (zE k 12636 (some (170, 1, 1)) none) (zE k 12640 (some (167, 2, 1)) none)) (zH k 12646 (zE k 12643 (some (171, 1, 1)) none) (zE k 12646 (some (168, 2, 0)) none)))) (zH k 12662 (zH k 12656 (zH k 12653 (zE k 12650 (some (164, 1, 0)) none) (zE k 12653 (some (172, 2, 1)) none)) (zH k 12659 (zE k 12656 (some (173, 1, 1)) none) (zE k 12659 (some (176, 2, 0)) none))) (zH k 12668 (zH k 12665 (zE k 12662 (some (175, 2, 0)) none) (zE k 12665 (some (177, 2, 0)) none)) (zH k 12674 (zE k 12668 (some (178, 2, 1)) none) (zE k 12674 (some (149, 2, 1)) none))))) (zH k 12708 (zH k 12691 (zH k 12685 (zH k 12680 (zE k 12677 (some (182, 2, 0)) none) (zE k 12680 (some (181, 3, 1)) none)) (zH k 12688 (zE k 12685 (some (184, 4, 1)) none) (zE k 12688 (some (180, 1, 0)) none))) (zH k 12701 (zH k 12697 (zE k 12691 (some (183, 4, 1)) none) (zE k 12697 (some (187, 3, 1)) none)) (zH k 12704 (zE k 12701 (some (189, 2, 0)) none) (zE k 12704 (some (188, 7, 1)) none)))) (zH k 12721 (zH k 12714 (zH k 12711 (zE k 12708 (some (190, 1, 0)) none) (zE k 12711 (some (191, 4, 1)) none)) (zH k 12718 (zE k 12714 (some (192, 5, 1)) none) (zE k 12718 (some (193, 5, 1)) none))) (zH k 12729 (zH k 12726 (zE k 12721 (some (1000, 2, 1)) none) (zE k 12726 (some (195, 2, 1)) none)) (zH k 12732 (zE k 12729 (some (197, 4, 1)) none) (zE k 12732 (some (196, 5, 1)) none))))))) (zH k 13396 (zH k 13359 (zH k 13340 (zH k 13319 (zH k 12743 (zE k 12737 (some (201, 2, 1)) none) (zH k 12746 (zE k 12743 (some (202, 2, 0)) none) (zE k 12746 (some (203, 1, 1)) none))) (zH k 13335 (zH k 13331 (zE k 13319 (some (124, 3, 1)) none) (zE k 13331 (some (100, 2, 1)) none)) (zH k 13336 (zE k 13335 (some (139, 2, 1)) none) (zE k 13336 (some (101, 4, 1)) none)))) (zH k 13350 (zH k 13345 (zH k 13341 (zE k 13340 (some (140, 4, 1)) none) (zE k 13341 (some (102, 6, 1)) none)) (zH k 13346 (zE k 13345 (some (142, 6, 1)) none) (zE k 13346 (some (103, 3, 1)) none))) (zH k 13354 (zH k 13351 (zE k 13350 (some (143, 3, 1)) none) (zE k 13351 (some (104, 4, 1)) none)) (zH k 13355 (zE k 13354 (some (145, 4, 1)) none) (zE k 13355 (some (105, 3, 1)) none))))) (zH k 13376 (zH k 13367 (zH k 13363 (zH k 13360 (zE k 13359 (some (146, 3, 1)) none) (zE k 13360 (some (106, 3, 1)) none)) (zH k 13364 (zE k 13363 (some (147, 3, 1)) none) (zE k 13364 (some (107, 2, 1)) none))) (zH k 13371 (zH k 13368 (zE k 13367 (some (153, 2, 1)) none) (zE k 13368 (some (108, 3, 1)) none)) (zH k 13372 (zE k 13371 (some (156, 3, 1)) none) (zE k 13372 (some (109, 2, 1)) none)))) (zH k 13387 (zH k 13380 (zH k 13377 (zE k 13376 (some (157, 2, 1)) none) (zE k 13377 (some (110, 2, 1)) none)) (zH k 13383 (zE k 13380 (some (158, 2, 1)) none) (zE k 13383 (some (111, 4, 1)) none))) (zH k 13392 (zH k 13388 (zE k 13387 (some (162, 4, 1)) none) (zE k 13388 (some (112, 1, 1)) none)) (zH k 13393 (zE k 13392 (some (174, 1, 1)) none) (zE k 13393 (some (113, 3, 1)) none)))))) (zH k 13430 (zH k 13414 (zH k 13405 (zH k 13401 (zH k 13397 (zE k 13396 (some (159, 3, 1)) none) (zE k 13397 (some (114, 5, 1)) none)) (zH k 13402 (zE k 13401 (some (161, 5, 1)) none) (zE k 13402 (some (115, 4, 1)) none))) (zH k 13410 (zH k 13406 (zE k 13405 (some (185, 4, 1)) none) (zE k 13406 (some (116, 7, 1)) none)) (zH k 13411 (zE k 13410 (some (186, 7, 1)) none) (zE k 13411 (some (117, 5, 1)) none)))) (zH k 13422 (zH k 13418 (zH k 13415 (zE k 13414 (some (194, 5, 1)) none) (zE k 13415 (some (118, 4, 1)) none)) (zH k 13419 (zE k 13418 (some (198, 4, 1)) none) (zE k 13419 (some (119, 5, 1)) none))) (zH k 13426 (zH k 13423 (zE k 13422 (some (199, 5, 1)) none) (zE k 13423 (some (120, 4, 1)) none)) (zH k 13427 (zE k 13426 (some (200, 4, 1)) none) (zE k 13427 (some (121, 2, 1)) none))))) (zH k 13448 (zH k 13438 (zH k 13434 (zH k 13431 (zE k 13430 (some (204, 2, 1)) none) (zE k 13431 (some (122, 2, 1)) none)) (zH k 13435 (zE k 13434 (some (205, 2, 1)) none) (zE k 13435 (some (123, 1, 1)) none))) (zH k 13444 (zH k 13439 (zE k 13438 (some (206, 1, 1)) none) (zE k 13439 (some (1008, 4, 1)) none)) (zH k 13445 (zE k 13444 (some (207, 3, 1)) none) (zE k 13445 (some (133, 1, 1)) none)))) (zH k 13456 (zH k 13452 (zH k 13451 (zE k 13448 (some (125, 3, 1)) none) (zE k 13451 (some (208, 3, 1)) none)) (zH k 13455 (zE k 13452 (some (126, 2, 1)) none) (zE k 13455 (some (209, 2, 1)) none))) (zH k 13460 (zH k 13459 (zE k 13456 (some (127, 3, 1)) none) (zE k 13459 (some (210, 3, 1)) none)) (zH k 13463 (zE k 13460 (some (128, 2, 1)) none) (zE k 13463 (some (211, 2, 1)) none)))))))))
def zmth (oc n : Nat) : Option (Nat × Nat × Nat) := zmthk (oc * 1024 + n)
def zfldk (k : Nat) : Option (Nat × Nat × Nat) := (zH k 9263 (zH k 5153 (zH k 2073 (zH k 143 (zH k 64 (zH k 37 (zH k 17 (zE k 11 (some (0, 1, 2)) none) (zH k 21 (zE k 17 (some (0, 2, 2)) none) (zE k 21 (some (0, 0, 2)) none))) (zH k 51 (zH k 44 (zE k 37 (some (0, 3, 0)) none) (zE k 44 (some (2, 2, 0)) none)) (zH k 54 (zE k 51 (some (2, 1, 0)) none) (zE k 54 (some (4, 2, 2)) none)))) (zH k 101 (zH k 78 (zE k 64 (some (2, 3, 0)) none) (zH k 91 (zE k 78 (some (2, 8, 0)) none) (zE k 91 (some (2, 9, 0)) none))) (zH k 111 (zH k 108 (zE k 101 (some (2, 10, 0)) none) (zE k 108 (some (4, 7, 2)) none)) (zH k 140 (zE k 111 (some (2, 0, 0)) none) (zE k 140 (some (2, 5, 0)) none))))) (zH k 1054 (zH k 1042 (zH k 1035 (zE k 143 (some (2, 4, 2)) none) (zH k 1039 (zE k 1035 (some (1, 1, 2)) none) (zE k 1039 (some (1, 2, 2)) none))) (zH k 1048 (zH k 1045 (zE k 1042 (some (1, 3, 2)) none) (zE k 1045 (some (1, 4, 2)) none)) (zH k 1051 (zE k 1048 (some (1, 6, 2)) none) (zE k 1051 (some (1, 7, 2)) none)))) (zH k 2057 (zH k 1057 (zE k 1054 (some (1, 8, 2)) none) (zH k 1061 (zE k 1057 (some (1, 0, 0)) none) (zE k 1061 (some (1, 5, 0)) none))) (zH k 2067 (zH k 2063 (zE k 2057 (some (2, 2, 0)) none) (zE k 2063 (some (2, 4, 2)) none)) (zH k 2070 (zE k 2067 (some (2, 7, 2)) none) (zE k 2070 (some (2, 10, 0)) none)))))) (zH k 4105 (zH k 2098 (zH k 2082 (zH k 2076 (zE k 2073 (some (2, 11, 0)) none) (zH k 2079 (zE k 2076 (some (2, 0, 0)) none) (zE k 2079 (some (2, 1, 0)) none))) (zH k 2092 (zH k 2085 (zE k 2082 (some (2, 5, 0)) none) (zE k 2085 (some (2, 3, 0)) none)) (zH k 2095 (zE k 2092 (some (2, 6, 0)) none) (zE k 2095 (some (2, 8, 0)) none)))) (zH k 3090 (zH k 3081 (zE k 2098 (some (2, 9, 0)) none) (zH k 3087 (zE k 3081 (some (3, 1, 2)) none) (zE k 3087 (some (3, 2, 2)) none))) (zH k 3103 (zH k 3100 (zE k 3090 (some (3, 0, 2)) none) (zE k 3100 (some (4, 2, 2)) none)) (zH k 3111 (zE k 3103 (some (3, 3, 0)) none) (zE k 3111 (some (4, 3, 2)) none))))) (zH k 4130 (zH k 4117 (zH k 4111 (zE k 4105 (some (4, 1, 2)) none) (zH k 4114 (zE k 4111 (some (4, 2, 2)) none) (zE k 4114 (some (4, 3, 2)) none))) (zH k 4124 (zH k 4120 (zE k 4117 (some (4, 4, 2)) none) (zE k 4120 (some (4, 5, 2)) none)) (zH k 4127 (zE k 4124 (some (4, 6, 2)) none) (zE k 4127 (some (4, 7, 2)) none)))) (zH k 5138 (zH k 4139 (zE k 4130 (some (4, 8, 2)) none) (zH k 5132 (zE k 4139 (some (4, 0, 0)) none) (zE k 5132 (some (5, 2, 2)) none))) (zH k 5145 (zH k 5141 (zE k 5138 (some (5, 3, 2)) none) (zE k 5141 (some (5, 5, 0)) none)) (zH k 5149 (zE k 5145 (some (5, 0, 2)) none) (zE k 5149 (some (5, 1, 2)) none))))))) (zH k 7204 (zH k 6161 (zH k 5203 (zH k 5181 (zH k 5163 (zE k 5153 (some (0, 1, 2)) none) (zH k 5171 (zE k 5163 (some (5, 4, 4)) none) (zE k 5171 (some (0, 3, 0)) none))) (zH k 5189 (zH k 5186 (zE k 5181 (some (2, 3, 0)) none) (zE k 5186 (some (2, 2, 0)) none)) (zH k 5200 (zE k 5189 (some (2, 6, 0)) none) (zE k 5200 (some (2, 0, 0)) none)))) (zH k 5226 (zH k 5206 (zE k 5203 (some (9, 1, 0)) none) (zH k 5223 (zE k 5206 (some (4, 2, 2)) none) (zE k 5223 (some (4, 7, 2)) none))) (zH k 5251 (zH k 5248 (zE k 5226 (some (9, 0, 0)) none) (zE k 5248 (some (9, 3, 0)) none)) (zH k 6155 (zE k 5251 (some (9, 4, 2)) none) (zE k 6155 (some (6, 0, 2)) none))))) (zH k 7179 (zH k 6188 (zH k 6165 (zE k 6161 (some (6, 1, 0)) none) (zH k 6168 (zE k 6165 (some (6, 3, 0)) none) (zE k 6168 (some (6, 4, 0)) none))) (zH k 6203 (zH k 6192 (zE k 6188 (some (6, 5, 3)) none) (zE k 6192 (some (6, 2, 0)) none)) (zH k 6212 (zE k 6203 (some (12, 1, 5)) none) (zE k 6212 (some (12, 0, 2)) none)))) (zH k 7191 (zH k 7183 (zE k 7179 (some (7, 3, 2)) none) (zH k 7186 (zE k 7183 (some (7, 4, 2)) none) (zE k 7186 (some (7, 5, 2)) none))) (zH k 7198 (zH k 7194 (zE k 7191 (some (7, 6, 2)) none) (zE k 7194 (some (7, 9, 2)) none)) (zH k 7201 (zE k 7198 (some (7, 10, 2)) none) (zE k 7201 (some (7, 11, 2)) none)))))) (zH k 8223 (zH k 7334 (zH k 7215 (zH k 7207 (zE k 7204 (some (7, 12, 2)) none) (zH k 7211 (zE k 7207 (some (7, 0, 2)) none) (zE k 7211 (some (7, 1, 0)) none))) (zH k 7221 (zH k 7218 (zE k 7215 (some (7, 2, 0)) none) (zE k 7218 (some (7, 8, 0)) none)) (zH k 7295 (zE k 7221 (some (7, 7, 0)) none) (zE k 7295 (some (6, 3, 0)) none)))) (zH k 8210 (zH k 8203 (zE k 7334 (some (12, 1, 5)) none) (zH k 8207 (zE k 8203 (some (8, 2, 2)) none) (zE k 8207 (some (8, 3, 2)) none))) (zH k 8217 (zH k 8214 (zE k 8210 (some (8, 4, 2)) none) (zE k 8214 (some (8, 5, 2)) none)) (zH k 8220 (zE k 8217 (some (8, 6, 2)) none) (zE k 8220 (some (8, 7, 2)) none))))) (zH k 9225 (zH k 8233 (zH k 8226 (zE k 8223 (some (8, 8, 2)) none) (zH k 8229 (zE k 8226 (some (8, 10, 2)) none) (zE k 8229 (some (8, 0, 2)) none))) (zH k 8242 (zH k 8237 (zE k 8233 (some (8, 1, 0)) none) (zE k 8237 (some (2, 5, 0)) none)) (zH k 8251 (zE k 8242 (some (2, 4, 2)) none) (zE k 8251 (some (8, 9, 0)) none)))) (zH k 9243 (zH k 9237 (zH k 9231 (zE k 9225 (some (9, 4, 2)) none) (zE k 9231 (some (2, 0, 0)) none)) (zH k 9240 (zE k 9237 (some (9, 0, 0)) none) (zE k 9240 (some (2, 1, 0)) none))) (zH k 9253 (zH k 9244 (zE k 9243 (some (9, 1, 0)) none) (zE k 9244 (some (9, 2, 0)) none)) (zH k 9260 (zE k 9253 (some (9, 3, 0)) none) (zE k 9260 (some (2, 10, 0)) none)))))))) (zH k 12374 (zH k 11526 (zH k 11373 (zH k 11315 (zH k 11285 (zH k 9266 (zE k 9263 (some (2, 6, 0)) none) (zH k 11276 (zE k 9266 (some (2, 7, 2)) none) (zE k 11276 (some (10, 0, 2)) none))) (zH k 11301 (zH k 11294 (zE k 11285 (some (10, 1, 2)) none) (zE k 11294 (some (10, 2, 2)) none)) (zH k 11308 (zE k 11301 (some (10, 3, 2)) none) (zE k 11308 (some (10, 4, 2)) none)))) (zH k 11335 (zH k 11322 (zE k 11315 (some (10, 5, 2)) none) (zH k 11331 (zE k 11322 (some (10, 6, 2)) none) (zE k 11331 (some (10, 7, 3)) none))) (zH k 11363 (zH k 11338 (zE k 11335 (some (10, 8, 3)) none) (zE k 11338 (some (10, 9, 0)) none)) (zH k 11367 (zE k 11363 (some (4, 5, 2)) none) (zE k 11367 (some (4, 6, 2)) none))))) (zH k 11494 (zH k 11424 (zH k 11388 (zE k 11373 (some (0, 1, 2)) none) (zH k 11393 (zE k 11388 (some (2, 3, 0)) none) (zE k 11393 (some (2, 11, 0)) none))) (zH k 11477 (zH k 11457 (zE k 11424 (some (6, 1, 0)) none) (zE k 11457 (some (5, 5, 0)) none)) (zH k 11484 (zE k 11477 (some (8, 8, 2)) none) (zE k 11484 (some (8, 1, 0)) none)))) (zH k 11509 (zH k 11500 (zE k 11494 (some (2, 2, 0)) none) (zH k 11503 (zE k 11500 (some (2, 5, 0)) none) (zE k 11503 (some (2, 4, 2)) none))) (zH k 11518 (zH k 11515 (zE k 11509 (some (4, 7, 2)) none) (zE k 11515 (some (4, 0, 0)) none)) (zH k 11525 (zE k 11518 (some (0, 3, 0)) none) (zE k 11525 (some (1, 0, 0)) none)))))) (zH k 12332 (zH k 12310 (zH k 12295 (zH k 11529 (zE k 11526 (some (1, 5, 0)) none) (zH k 11531 (zE k 11529 (some (7, 2, 0)) none) (zE k 11531 (some (7, 8, 0)) none))) (zH k 12304 (zH k 12301 (zE k 12295 (some (11, 3, 2)) none) (zE k 12301 (some (11, 4, 2)) none)) (zH k 12307 (zE k 12304 (some (11, 5, 2)) none) (zE k 12307 (some (11, 6, 2)) none)))) (zH k 12320 (zH k 12313 (zE k 12310 (some (11, 7, 2)) none) (zH k 12316 (zE k 12313 (some (11, 8, 2)) none) (zE k 12316 (some (11, 9, 2)) none))) (zH k 12326 (zH k 12323 (zE k 12320 (some (11, 10, 2)) none) (zE k 12323 (some (11, 12, 2)) none)) (zH k 12329 (zE k 12326 (some (11, 13, 2)) none) (zE k 12329 (some (11, 14, 2)) none))))) (zH k 12353 (zH k 12341 (zH k 12335 (zE k 12332 (some (11, 15, 2)) none) (zH k 12338 (zE k 12335 (some (11, 16, 2)) none) (zE k 12338 (some (11, 17, 2)) none))) (zH k 12347 (zH k 12344 (zE k 12341 (some (11, 18, 2)) none) (zE k 12344 (some (11, 19, 2)) none)) (zH k 12350 (zE k 12347 (some (11, 20, 2)) none) (zE k 12350 (some (11, 21, 2)) none)))) (zH k 12362 (zH k 12356 (zE k 12353 (some (11, 22, 2)) none) (zH k 12359 (zE k 12356 (some (11, 23, 2)) none) (zE k 12359 (some (11, 24, 2)) none))) (zH k 12368 (zH k 12365 (zE k 12362 (some (11, 25, 2)) none) (zE k 12365 (some (11, 26, 2)) none)) (zH k 12371 (zE k 12368 (some (11, 28, 2)) none) (zE k 12371 (some (11, 29, 2)) none))))))) (zH k 12459 (zH k 12417 (zH k 12395 (zH k 12383 (zH k 12377 (zE k 12374 (some (11, 30, 2)) none) (zH k 12380 (zE k 12377 (some (11, 31, 2)) none) (zE k 12380 (some (11, 33, 2)) none))) (zH k 12389 (zH k 12386 (zE k 12383 (some (11, 34, 2)) none) (zE k 12386 (some (11, 35, 2)) none)) (zH k 12392 (zE k 12389 (some (11, 37, 2)) none) (zE k 12392 (some (11, 45, 2)) none)))) (zH k 12404 (zH k 12398 (zE k 12395 (some (11, 46, 2)) none) (zH k 12401 (zE k 12398 (some (11, 47, 2)) none) (zE k 12401 (some (11, 48, 2)) none))) (zH k 12410 (zH k 12407 (zE k 12404 (some (11, 49, 2)) none) (zE k 12407 (some (11, 50, 2)) none)) (zH k 12413 (zE k 12410 (some (11, 51, 2)) none) (zE k 12413 (some (11, 52, 2)) none))))) (zH k 12438 (zH k 12426 (zH k 12420 (zE k 12417 (some (11, 53, 2)) none) (zH k 12423 (zE k 12420 (some (11, 55, 2)) none) (zE k 12423 (some (11, 56, 2)) none))) (zH k 12432 (zH k 12429 (zE k 12426 (some (11, 57, 2)) none) (zE k 12429 (some (11, 58, 2)) none)) (zH k 12435 (zE k 12432 (some (11, 59, 2)) none) (zE k 12435 (some (11, 60, 2)) none)))) (zH k 12447 (zH k 12441 (zE k 12438 (some (11, 61, 2)) none) (zH k 12444 (zE k 12441 (some (11, 62, 2)) none) (zE k 12444 (some (11, 63, 2)) none))) (zH k 12453 (zH k 12450 (zE k 12447 (some (11, 64, 2)) none) (zE k 12450 (some (11, 65, 2)) none)) (zH k 12456 (zE k 12453 (some (11, 66, 2)) none) (zE k 12456 (some (11, 67, 2)) none)))))) (zH k 12552 (zH k 12480 (zH k 12468 (zH k 12462 (zE k 12459 (some (11, 69, 2)) none) (zH k 12465 (zE k 12462 (some (11, 70, 2)) none) (zE k 12465 (some (11, 71, 2)) none))) (zH k 12474 (zH k 12471 (zE k 12468 (some (11, 73, 2)) none) (zE k 12471 (some (11, 74, 2)) none)) (zH k 12477 (zE k 12474 (some (11, 76, 2)) none) (zE k 12477 (some (11, 77, 2)) none)))) (zH k 12489 (zH k 12483 (zE k 12480 (some (11, 78, 2)) none) (zH k 12486 (zE k 12483 (some (11, 79, 2)) none) (zE k 12486 (some (11, 80, 2)) none))) (zH k 12504 (zH k 12493 (zE k 12489 (some (11, 0, 0)) none) (zE k 12493 (some (11, 2, 0)) none)) (zH k 12508 (zE k 12504 (some (11, 11, 0)) none) (zE k 12508 (some (11, 1, 0)) none))))) (zH k 12580 (zH k 12567 (zH k 12556 (zE k 12552 (some (11, 27, 0)) none) (zH k 12564 (zE k 12556 (some (11, 32, 0)) none) (zE k 12564 (some (11, 36, 0)) none))) (zH k 12573 (zH k 12570 (zE k 12567 (some (11, 38, 0)) none) (zE k 12570 (some (11, 39, 0)) none)) (zH k 12576 (zE k 12573 (some (11, 40, 0)) none) (zE k 12576 (some (11, 42, 1)) none)))) (zH k 12671 (zH k 12593 (zH k 12583 (zE k 12580 (some (11, 43, 0)) none) (zE k 12583 (some (11, 41, 0)) none)) (zH k 12596 (zE k 12593 (some (11, 44, 0)) none) (zE k 12596 (some (11, 54, 0)) none))) (zH k 12735 (zH k 12694 (zE k 12671 (some (11, 68, 0)) none) (zE k 12694 (some (11, 72, 0)) none)) (zH k 12740 (zE k 12735 (some (11, 75, 0)) none) (zE k 12740 (some (11, 81, 0)) none)))))))))
def zfld (oc n : Nat) : Option (Nat × Nat × Nat) := zfldk (oc * 1024 + n)
def znewat (mi pc : Nat) : Bool := Nat.beq mi 0 && Nat.beq pc 70
def zsg (mi : Nat) : Option Nat := (zH mi 106 (zH mi 53 (zH mi 26 (zH mi 13 (zH mi 6 (zH mi 3 (zH mi 1 (zE mi 0 (some 0) none) (zH mi 2 (zE mi 1 (some 0) none) (zE mi 2 (some 0) none))) (zH mi 4 (zE mi 3 (some 0) none) (zH mi 5 (zE mi 4 (some 0) none) (zE mi 5 (some 0) none)))) (zH mi 9 (zH mi 7 (zE mi 6 (some 0) none) (zH mi 8 (zE mi 7 (some 0) none) (zE mi 8 (some 0) none))) (zH mi 11 (zH mi 10 (zE mi 9 (some 0) none) (zE mi 10 (some 0) none)) (zH mi 12 (zE mi 11 (some 0) none) (zE mi 12 (some 0) none))))) (zH mi 19 (zH mi 16 (zH mi 14 (zE mi 13 (some 0) none) (zH mi 15 (zE mi 14 (some 1) none) (zE mi 15 (some 1) none))) (zH mi 17 (zE mi 16 (some 1) none) (zH mi 18 (zE mi 17 (some 1) none) (zE mi 18 (some 1) none)))) (zH mi 22 (zH mi 20 (zE mi 19 (some 2) none) (zH mi 21 (zE mi 20 (some 2) none) (zE mi 21 (some 2) none))) (zH mi 24 (zH mi 23 (zE mi 22 (some 2) none) (zE mi 23 (some 2) none)) (zH mi 25 (zE mi 24 (some 3) none) (zE mi 25 (some 3) none)))))) (zH mi 39 (zH mi 32 (zH mi 29 (zH mi 27 (zE mi 26 (some 3) none) (zH mi 28 (zE mi 27 (some 3) none) (zE mi 28 (some 3) none))) (zH mi 30 (zE mi 29 none none) (zH mi 31 (zE mi 30 (some 4) none) (zE mi 31 (some 4) none)))) (zH mi 35 (zH mi 33 (zE mi 32 (some 4) none) (zH mi 34 (zE mi 33 (some 4) none) (zE mi 34 (some 4) none))) (zH mi 37 (zH mi 36 (zE mi 35 (some 4) none) (zE mi 36 (some 4) none)) (zH mi 38 (zE mi 37 (some 4) none) (zE mi 38 (some 4) none))))) (zH mi 46 (zH mi 42 (zH mi 40 (zE mi 39 (some 4) none) (zH mi 41 (zE mi 40 none none) (zE mi 41 (some 4) none))) (zH mi 44 (zH mi 43 (zE mi 42 (some 4) none) (zE mi 43 (some 4) none)) (zH mi 45 (zE mi 44 (some 4) none) (zE mi 45 (some 4) none)))) (zH mi 49 (zH mi 47 (zE mi 46 (some 4) none) (zH mi 48 (zE mi 47 (some 4) none) (zE mi 48 (some 5) none))) (zH mi 51 (zH mi 50 (zE mi 49 none none) (zE mi 50 (some 5) none)) (zH mi 52 (zE mi 51 (some 5) none) (zE mi 52 (some 5) none))))))) (zH mi 79 (zH mi 66 (zH mi 59 (zH mi 56 (zH mi 54 (zE mi 53 (some 5) none) (zH mi 55 (zE mi 54 (some 5) none) (zE mi 55 (some 6) none))) (zH mi 57 (zE mi 56 (some 6) none) (zH mi 58 (zE mi 57 (some 6) none) (zE mi 58 (some 6) none)))) (zH mi 62 (zH mi 60 (zE mi 59 (some 6) none) (zH mi 61 (zE mi 60 (some 6) none) (zE mi 61 (some 6) none))) (zH mi 64 (zH mi 63 (zE mi 62 (some 6) none) (zE mi 63 (some 6) none)) (zH mi 65 (zE mi 64 (some 6) none) (zE mi 65 (some 6) none))))) (zH mi 72 (zH mi 69 (zH mi 67 (zE mi 66 (some 6) none) (zH mi 68 (zE mi 67 (some 6) none) (zE mi 68 (some 7) none))) (zH mi 70 (zE mi 69 (some 7) none) (zH mi 71 (zE mi 70 (some 7) none) (zE mi 71 (some 7) none)))) (zH mi 75 (zH mi 73 (zE mi 72 (some 7) none) (zH mi 74 (zE mi 73 (some 7) none) (zE mi 74 (some 7) none))) (zH mi 77 (zH mi 76 (zE mi 75 (some 7) none) (zE mi 76 (some 7) none)) (zH mi 78 (zE mi 77 (some 7) none) (zE mi 78 (some 7) none)))))) (zH mi 92 (zH mi 85 (zH mi 82 (zH mi 80 (zE mi 79 (some 7) none) (zH mi 81 (zE mi 80 (some 7) none) (zE mi 81 (some 7) none))) (zH mi 83 (zE mi 82 (some 7) none) (zH mi 84 (zE mi 83 (some 7) none) (zE mi 84 (some 7) none)))) (zH mi 88 (zH mi 86 (zE mi 85 (some 7) none) (zH mi 87 (zE mi 86 none none) (zE mi 87 (some 8) none))) (zH mi 90 (zH mi 89 (zE mi 88 (some 8) none) (zE mi 89 (some 8) none)) (zH mi 91 (zE mi 90 (some 8) none) (zE mi 91 (some 8) none))))) (zH mi 99 (zH mi 95 (zH mi 93 (zE mi 92 (some 8) none) (zH mi 94 (zE mi 93 (some 8) none) (zE mi 94 (some 8) none))) (zH mi 97 (zH mi 96 (zE mi 95 (some 8) none) (zE mi 96 (some 9) none)) (zH mi 98 (zE mi 97 (some 9) none) (zE mi 98 (some 9) none)))) (zH mi 102 (zH mi 100 (zE mi 99 (some 9) none) (zH mi 101 (zE mi 100 (some 10) none) (zE mi 101 (some 10) none))) (zH mi 104 (zH mi 103 (zE mi 102 (some 10) none) (zE mi 103 (some 10) none)) (zH mi 105 (zE mi 104 (some 10) none) (zE mi 105 (some 10) none)))))))) (zH mi 159 (zH mi 132 (zH mi 119 (zH mi 112 (zH mi 109 (zH mi 107 (zE mi 106 (some 10) none) (zH mi 108 (zE mi 107 (some 10) none) (zE mi 108 (some 10) none))) (zH mi 110 (zE mi 109 (some 10) none) (zH mi 111 (zE mi 110 (some 10) none) (zE mi 111 (some 10) none)))) (zH mi 115 (zH mi 113 (zE mi 112 (some 10) none) (zH mi 114 (zE mi 113 (some 10) none) (zE mi 114 (some 10) none))) (zH mi 117 (zH mi 116 (zE mi 115 (some 10) none) (zE mi 116 (some 10) none)) (zH mi 118 (zE mi 117 (some 10) none) (zE mi 118 (some 10) none))))) (zH mi 125 (zH mi 122 (zH mi 120 (zE mi 119 (some 10) none) (zH mi 121 (zE mi 120 (some 10) none) (zE mi 121 (some 10) none))) (zH mi 123 (zE mi 122 (some 10) none) (zH mi 124 (zE mi 123 (some 10) none) (zE mi 124 (some 10) none)))) (zH mi 128 (zH mi 126 (zE mi 125 (some 10) none) (zH mi 127 (zE mi 126 (some 10) none) (zE mi 127 (some 10) none))) (zH mi 130 (zH mi 129 (zE mi 128 (some 10) none) (zE mi 129 (some 10) none)) (zH mi 131 (zE mi 130 (some 10) none) (zE mi 131 (some 10) none)))))) (zH mi 145 (zH mi 138 (zH mi 135 (zH mi 133 (zE mi 132 none none) (zH mi 134 (zE mi 133 (some 11) none) (zE mi 134 none none))) (zH mi 136 (zE mi 135 (some 11) none) (zH mi 137 (zE mi 136 (some 11) none) (zE mi 137 (some 11) none)))) (zH mi 141 (zH mi 139 (zE mi 138 (some 11) none) (zH mi 140 (zE mi 139 (some 11) none) (zE mi 140 (some 11) none))) (zH mi 143 (zH mi 142 (zE mi 141 none none) (zE mi 142 (some 11) none)) (zH mi 144 (zE mi 143 (some 11) none) (zE mi 144 (some 11) none))))) (zH mi 152 (zH mi 148 (zH mi 146 (zE mi 145 (some 11) none) (zH mi 147 (zE mi 146 (some 11) none) (zE mi 147 (some 11) none))) (zH mi 150 (zH mi 149 (zE mi 148 (some 11) none) (zE mi 149 (some 11) none)) (zH mi 151 (zE mi 150 (some 11) none) (zE mi 151 (some 11) none)))) (zH mi 155 (zH mi 153 (zE mi 152 (some 11) none) (zH mi 154 (zE mi 153 (some 11) none) (zE mi 154 (some 11) none))) (zH mi 157 (zH mi 156 (zE mi 155 (some 11) none) (zE mi 156 (some 11) none)) (zH mi 158 (zE mi 157 (some 11) none) (zE mi 158 (some 11) none))))))) (zH mi 186 (zH mi 172 (zH mi 165 (zH mi 162 (zH mi 160 (zE mi 159 (some 11) none) (zH mi 161 (zE mi 160 (some 11) none) (zE mi 161 (some 11) none))) (zH mi 163 (zE mi 162 (some 11) none) (zH mi 164 (zE mi 163 (some 11) none) (zE mi 164 (some 11) none)))) (zH mi 168 (zH mi 166 (zE mi 165 (some 11) none) (zH mi 167 (zE mi 166 (some 11) none) (zE mi 167 (some 11) none))) (zH mi 170 (zH mi 169 (zE mi 168 (some 11) none) (zE mi 169 (some 11) none)) (zH mi 171 (zE mi 170 (some 11) none) (zE mi 171 (some 11) none))))) (zH mi 179 (zH mi 175 (zH mi 173 (zE mi 172 (some 11) none) (zH mi 174 (zE mi 173 (some 11) none) (zE mi 174 (some 11) none))) (zH mi 177 (zH mi 176 (zE mi 175 (some 11) none) (zE mi 176 (some 11) none)) (zH mi 178 (zE mi 177 (some 11) none) (zE mi 178 (some 11) none)))) (zH mi 182 (zH mi 180 (zE mi 179 (some 11) none) (zH mi 181 (zE mi 180 (some 11) none) (zE mi 181 none none))) (zH mi 184 (zH mi 183 (zE mi 182 (some 11) none) (zE mi 183 (some 11) none)) (zH mi 185 (zE mi 184 (some 11) none) (zE mi 185 (some 11) none)))))) (zH mi 199 (zH mi 192 (zH mi 189 (zH mi 187 (zE mi 186 (some 11) none) (zH mi 188 (zE mi 187 (some 11) none) (zE mi 188 (some 11) none))) (zH mi 190 (zE mi 189 (some 11) none) (zH mi 191 (zE mi 190 (some 11) none) (zE mi 191 (some 11) none)))) (zH mi 195 (zH mi 193 (zE mi 192 (some 11) none) (zH mi 194 (zE mi 193 (some 11) none) (zE mi 194 (some 11) none))) (zH mi 197 (zH mi 196 (zE mi 195 none none) (zE mi 196 (some 11) none)) (zH mi 198 (zE mi 197 (some 11) none) (zE mi 198 (some 11) none))))) (zH mi 206 (zH mi 202 (zH mi 200 (zE mi 199 (some 11) none) (zH mi 201 (zE mi 200 (some 11) none) (zE mi 201 (some 11) none))) (zH mi 204 (zH mi 203 (zE mi 202 (some 11) none) (zE mi 203 (some 11) none)) (zH mi 205 (zE mi 204 (some 11) none) (zE mi 205 (some 11) none)))) (zH mi 209 (zH mi 207 (zE mi 206 (some 11) none) (zH mi 208 (zE mi 207 (some 11) none) (zE mi 208 (some 11) none))) (zH mi 211 (zH mi 210 (zE mi 209 (some 11) none) (zE mi 210 (some 11) none)) (zH mi 212 (zE mi 211 (some 11) none) (zE mi 212 none none)))))))))
def zrz (mi : Nat) : Bool := (zH mi 106 (zH mi 53 (zH mi 26 (zH mi 13 (zH mi 6 (zH mi 3 (zH mi 1 (zE mi 0 false false) (zH mi 2 (zE mi 1 true false) (zE mi 2 true false))) (zH mi 4 (zE mi 3 true false) (zH mi 5 (zE mi 4 false false) (zE mi 5 false false)))) (zH mi 9 (zH mi 7 (zE mi 6 false false) (zH mi 8 (zE mi 7 false false) (zE mi 8 false false))) (zH mi 11 (zH mi 10 (zE mi 9 false false) (zE mi 10 false false)) (zH mi 12 (zE mi 11 false false) (zE mi 12 false false))))) (zH mi 19 (zH mi 16 (zH mi 14 (zE mi 13 false false) (zH mi 15 (zE mi 14 false false) (zE mi 15 true false))) (zH mi 17 (zE mi 16 false false) (zH mi 18 (zE mi 17 false false) (zE mi 18 false false)))) (zH mi 22 (zH mi 20 (zE mi 19 false false) (zH mi 21 (zE mi 20 false false) (zE mi 21 false false))) (zH mi 24 (zH mi 23 (zE mi 22 false false) (zE mi 23 false false)) (zH mi 25 (zE mi 24 true false) (zE mi 25 false false)))))) (zH mi 39 (zH mi 32 (zH mi 29 (zH mi 27 (zE mi 26 true false) (zH mi 28 (zE mi 27 false false) (zE mi 28 false false))) (zH mi 30 (zE mi 29 false false) (zH mi 31 (zE mi 30 false false) (zE mi 31 true false)))) (zH mi 35 (zH mi 33 (zE mi 32 true false) (zH mi 34 (zE mi 33 true false) (zE mi 34 true false))) (zH mi 37 (zH mi 36 (zE mi 35 true false) (zE mi 36 true false)) (zH mi 38 (zE mi 37 true false) (zE mi 38 true false))))) (zH mi 46 (zH mi 42 (zH mi 40 (zE mi 39 false false) (zH mi 41 (zE mi 40 false false) (zE mi 41 false false))) (zH mi 44 (zH mi 43 (zE mi 42 false false) (zE mi 43 true false)) (zH mi 45 (zE mi 44 true false) (zE mi 45 true false)))) (zH mi 49 (zH mi 47 (zE mi 46 false false) (zH mi 48 (zE mi 47 false false) (zE mi 48 false false))) (zH mi 51 (zH mi 50 (zE mi 49 true false) (zE mi 50 true false)) (zH mi 52 (zE mi 51 true false) (zE mi 52 true false))))))) (zH mi 79 (zH mi 66 (zH mi 59 (zH mi 56 (zH mi 54 (zE mi 53 true false) (zH mi 55 (zE mi 54 true false) (zE mi 55 false false))) (zH mi 57 (zE mi 56 false false) (zH mi 58 (zE mi 57 false false) (zE mi 58 false false)))) (zH mi 62 (zH mi 60 (zE mi 59 true false) (zH mi 61 (zE mi 60 true false) (zE mi 61 true false))) (zH mi 64 (zH mi 63 (zE mi 62 true false) (zE mi 63 true false)) (zH mi 65 (zE mi 64 false false) (zE mi 65 false false))))) (zH mi 72 (zH mi 69 (zH mi 67 (zE mi 66 false false) (zH mi 68 (zE mi 67 false false) (zE mi 68 false false))) (zH mi 70 (zE mi 69 true false) (zH mi 71 (zE mi 70 true false) (zE mi 71 true false)))) (zH mi 75 (zH mi 73 (zE mi 72 true false) (zH mi 74 (zE mi 73 true false) (zE mi 74 true false))) (zH mi 77 (zH mi 76 (zE mi 75 true false) (zE mi 76 false false)) (zH mi 78 (zE mi 77 true false) (zE mi 78 false false)))))) (zH mi 92 (zH mi 85 (zH mi 82 (zH mi 80 (zE mi 79 true false) (zH mi 81 (zE mi 80 true false) (zE mi 81 false false))) (zH mi 83 (zE mi 82 false false) (zH mi 84 (zE mi 83 false false) (zE mi 84 false false)))) (zH mi 88 (zH mi 86 (zE mi 85 false false) (zH mi 87 (zE mi 86 false false) (zE mi 87 false false))) (zH mi 90 (zH mi 89 (zE mi 88 false false) (zE mi 89 true false)) (zH mi 91 (zE mi 90 false false) (zE mi 91 false false))))) (zH mi 99 (zH mi 95 (zH mi 93 (zE mi 92 false false) (zH mi 94 (zE mi 93 true false) (zE mi 94 false false))) (zH mi 97 (zH mi 96 (zE mi 95 true false) (zE mi 96 false false)) (zH mi 98 (zE mi 97 false false) (zE mi 98 true false)))) (zH mi 102 (zH mi 100 (zE mi 99 true false) (zH mi 101 (zE mi 100 false false) (zE mi 101 false false))) (zH mi 104 (zH mi 103 (zE mi 102 true false) (zE mi 103 true false)) (zH mi 105 (zE mi 104 false false) (zE mi 105 true false)))))))) (zH mi 159 (zH mi 132 (zH mi 119 (zH mi 112 (zH mi 109 (zH mi 107 (zE mi 106 true false) (zH mi 108 (zE mi 107 false false) (zE mi 108 false false))) (zH mi 110 (zE mi 109 true false) (zH mi 111 (zE mi 110 false false) (zE mi 111 false false)))) (zH mi 115 (zH mi 113 (zE mi 112 false false) (zH mi 114 (zE mi 113 true false) (zE mi 114 false false))) (zH mi 117 (zH mi 116 (zE mi 115 false false) (zE mi 116 false false)) (zH mi 118 (zE mi 117 false false) (zE mi 118 false false))))) (zH mi 125 (zH mi 122 (zH mi 120 (zE mi 119 false false) (zH mi 121 (zE mi 120 false false) (zE mi 121 false false))) (zH mi 123 (zE mi 122 false false) (zH mi 124 (zE mi 123 false false) (zE mi 124 false false)))) (zH mi 128 (zH mi 126 (zE mi 125 false false) (zH mi 127 (zE mi 126 false false) (zE mi 127 false false))) (zH mi 130 (zH mi 129 (zE mi 128 false false) (zE mi 129 false false)) (zH mi 131 (zE mi 130 true false) (zE mi 131 true false)))))) (zH mi 145 (zH mi 138 (zH mi 135 (zH mi 133 (zE mi 132 false false) (zH mi 134 (zE mi 133 false false) (zE mi 134 true false))) (zH mi 136 (zE mi 135 true false) (zH mi 137 (zE mi 136 true false) (zE mi 137 true false)))) (zH mi 141 (zH mi 139 (zE mi 138 true false) (zH mi 140 (zE mi 139 false false) (zE mi 140 false false))) (zH mi 143 (zH mi 142 (zE mi 141 false false) (zE mi 142 true false)) (zH mi 144 (zE mi 143 true false) (zE mi 144 false false))))) (zH mi 152 (zH mi 148 (zH mi 146 (zE mi 145 false false) (zH mi 147 (zE mi 146 true false) (zE mi 147 true false))) (zH mi 150 (zH mi 149 (zE mi 148 true false) (zE mi 149 true false)) (zH mi 151 (zE mi 150 false false) (zE mi 151 false false)))) (zH mi 155 (zH mi 153 (zE mi 152 false false) (zH mi 154 (zE mi 153 false false) (zE mi 154 false false))) (zH mi 157 (zH mi 156 (zE mi 155 true false) (zE mi 156 false false)) (zH mi 158 (zE mi 157 true false) (zE mi 158 false false))))))) (zH mi 186 (zH mi 172 (zH mi 165 (zH mi 162 (zH mi 160 (zE mi 159 true false) (zH mi 161 (zE mi 160 false false) (zE mi 161 false false))) (zH mi 163 (zE mi 162 false false) (zH mi 164 (zE mi 163 false false) (zE mi 164 false false)))) (zH mi 168 (zH mi 166 (zE mi 165 true false) (zH mi 167 (zE mi 166 true false) (zE mi 167 true false))) (zH mi 170 (zH mi 169 (zE mi 168 false false) (zE mi 169 false false)) (zH mi 171 (zE mi 170 true false) (zE mi 171 false false))))) (zH mi 179 (zH mi 175 (zH mi 173 (zE mi 172 true false) (zH mi 174 (zE mi 173 true false) (zE mi 174 false false))) (zH mi 177 (zH mi 176 (zE mi 175 false false) (zE mi 176 false false)) (zH mi 178 (zE mi 177 false false) (zE mi 178 false false)))) (zH mi 182 (zH mi 180 (zE mi 179 false false) (zH mi 181 (zE mi 180 false false) (zE mi 181 false false))) (zH mi 184 (zH mi 183 (zE mi 182 false false) (zE mi 183 false false)) (zH mi 185 (zE mi 184 true false) (zE mi 185 false false)))))) (zH mi 199 (zH mi 192 (zH mi 189 (zH mi 187 (zE mi 186 false false) (zH mi 188 (zE mi 187 true false) (zE mi 188 false false))) (zH mi 190 (zE mi 189 false false) (zH mi 191 (zE mi 190 false false) (zE mi 191 true false)))) (zH mi 195 (zH mi 193 (zE mi 192 true false) (zH mi 194 (zE mi 193 true false) (zE mi 194 false false))) (zH mi 197 (zH mi 196 (zE mi 195 false false) (zE mi 196 false false)) (zH mi 198 (zE mi 197 true false) (zE mi 198 false false))))) (zH mi 206 (zH mi 202 (zH mi 200 (zE mi 199 false false) (zH mi 201 (zE mi 200 false false) (zE mi 201 true false))) (zH mi 204 (zH mi 203 (zE mi 202 false false) (zE mi 203 false false)) (zH mi 205 (zE mi 204 false false) (zE mi 205 false false)))) (zH mi 209 (zH mi 207 (zE mi 206 false false) (zH mi 208 (zE mi 207 false false) (zE mi 208 false false))) (zH mi 211 (zH mi 210 (zE mi 209 false false) (zE mi 210 false false)) (zH mi 212 (zE mi 211 false false) (zE mi 212 true false)))))))))
def zoc (mi : Nat) : Nat := (zH mi 106 (zH mi 53 (zH mi 26 (zH mi 13 (zH mi 6 (zH mi 3 (zH mi 1 (zE mi 0 0 99) (zH mi 2 (zE mi 1 0 99) (zE mi 2 0 99))) (zH mi 4 (zE mi 3 0 99) (zH mi 5 (zE mi 4 0 99) (zE mi 5 0 99)))) (zH mi 9 (zH mi 7 (zE mi 6 0 99) (zH mi 8 (zE mi 7 0 99) (zE mi 8 0 99))) (zH mi 11 (zH mi 10 (zE mi 9 0 99) (zE mi 10 0 99)) (zH mi 12 (zE mi 11 0 99) (zE mi 12 0 99))))) (zH mi 19 (zH mi 16 (zH mi 14 (zE mi 13 0 99) (zH mi 15 (zE mi 14 1 99) (zE mi 15 1 99))) (zH mi 17 (zE mi 16 1 99) (zH mi 18 (zE mi 17 1 99) (zE mi 18 1 99)))) (zH mi 22 (zH mi 20 (zE mi 19 2 99) (zH mi 21 (zE mi 20 2 99) (zE mi 21 2 99))) (zH mi 24 (zH mi 23 (zE mi 22 2 99) (zE mi 23 2 99)) (zH mi 25 (zE mi 24 3 99) (zE mi 25 3 99)))))) (zH mi 39 (zH mi 32 (zH mi 29 (zH mi 27 (zE mi 26 3 99) (zH mi 28 (zE mi 27 3 99) (zE mi 28 3 99))) (zH mi 30 (zE mi 29 3 99) (zH mi 31 (zE mi 30 4 99) (zE mi 31 4 99)))) (zH mi 35 (zH mi 33 (zE mi 32 4 99) (zH mi 34 (zE mi 33 4 99) (zE mi 34 4 99))) (zH mi 37 (zH mi 36 (zE mi 35 4 99) (zE mi 36 4 99)) (zH mi 38 (zE mi 37 4 99) (zE mi 38 4 99))))) (zH mi 46 (zH mi 42 (zH mi 40 (zE mi 39 4 99) (zH mi 41 (zE mi 40 4 99) (zE mi 41 4 99))) (zH mi 44 (zH mi 43 (zE mi 42 4 99) (zE mi 43 4 99)) (zH mi 45 (zE mi 44 4 99) (zE mi 45 4 99)))) (zH mi 49 (zH mi 47 (zE mi 46 4 99) (zH mi 48 (zE mi 47 4 99) (zE mi 48 5 99))) (zH mi 51 (zH mi 50 (zE mi 49 5 99) (zE mi 50 5 99)) (zH mi 52 (zE mi 51 5 99) (zE mi 52 5 99))))))) (zH mi 79 (zH mi 66 (zH mi 59 (zH mi 56 (zH mi 54 (zE mi 53 5 99) (zH mi 55 (zE mi 54 5 99) (zE mi 55 6 99))) (zH mi 57 (zE mi 56 6 99) (zH mi 58 (zE mi 57 6 99) (zE mi 58 6 99)))) (zH mi 62 (zH mi 60 (zE mi 59 6 99) (zH mi 61 (zE mi 60 6 99) (zE mi 61 6 99))) (zH mi 64 (zH mi 63 (zE mi 62 6 99) (zE mi 63 6 99)) (zH mi 65 (zE mi 64 6 99) (zE mi 65 6 99))))) (zH mi 72 (zH mi 69 (zH mi 67 (zE mi 66 6 99) (zH mi 68 (zE mi 67 6 99) (zE mi 68 7 99))) (zH mi 70 (zE mi 69 7 99) (zH mi 71 (zE mi 70 7 99) (zE mi 71 7 99)))) (zH mi 75 (zH mi 73 (zE mi 72 7 99) (zH mi 74 (zE mi 73 7 99) (zE mi 74 7 99))) (zH mi 77 (zH mi 76 (zE mi 75 7 99) (zE mi 76 7 99)) (zH mi 78 (zE mi 77 7 99) (zE mi 78 7 99)))))) (zH mi 92 (zH mi 85 (zH mi 82 (zH mi 80 (zE mi 79 7 99) (zH mi 81 (zE mi 80 7 99) (zE mi 81 7 99))) (zH mi 83 (zE mi 82 7 99) (zH mi 84 (zE mi 83 7 99) (zE mi 84 7 99)))) (zH mi 88 (zH mi 86 (zE mi 85 7 99) (zH mi 87 (zE mi 86 7 99) (zE mi 87 8 99))) (zH mi 90 (zH mi 89 (zE mi 88 8 99) (zE mi 89 8 99)) (zH mi 91 (zE mi 90 8 99) (zE mi 91 8 99))))) (zH mi 99 (zH mi 95 (zH mi 93 (zE mi 92 8 99) (zH mi 94 (zE mi 93 8 99) (zE mi 94 8 99))) (zH mi 97 (zH mi 96 (zE mi 95 8 99) (zE mi 96 9 99)) (zH mi 98 (zE mi 97 9 99) (zE mi 98 9 99)))) (zH mi 102 (zH mi 100 (zE mi 99 9 99) (zH mi 101 (zE mi 100 11 99) (zE mi 101 11 99))) (zH mi 104 (zH mi 103 (zE mi 102 11 99) (zE mi 103 11 99)) (zH mi 105 (zE mi 104 11 99) (zE mi 105 11 99)))))))) (zH mi 159 (zH mi 132 (zH mi 119 (zH mi 112 (zH mi 109 (zH mi 107 (zE mi 106 11 99) (zH mi 108 (zE mi 107 11 99) (zE mi 108 11 99))) (zH mi 110 (zE mi 109 11 99) (zH mi 111 (zE mi 110 11 99) (zE mi 111 11 99)))) (zH mi 115 (zH mi 113 (zE mi 112 11 99) (zH mi 114 (zE mi 113 11 99) (zE mi 114 11 99))) (zH mi 117 (zH mi 116 (zE mi 115 11 99) (zE mi 116 11 99)) (zH mi 118 (zE mi 117 11 99) (zE mi 118 11 99))))) (zH mi 125 (zH mi 122 (zH mi 120 (zE mi 119 11 99) (zH mi 121 (zE mi 120 11 99) (zE mi 121 11 99))) (zH mi 123 (zE mi 122 11 99) (zH mi 124 (zE mi 123 11 99) (zE mi 124 11 99)))) (zH mi 128 (zH mi 126 (zE mi 125 11 99) (zH mi 127 (zE mi 126 11 99) (zE mi 127 11 99))) (zH mi 130 (zH mi 129 (zE mi 128 11 99) (zE mi 129 11 99)) (zH mi 131 (zE mi 130 11 99) (zE mi 131 11 99)))))) (zH mi 145 (zH mi 138 (zH mi 135 (zH mi 133 (zE mi 132 11 99) (zH mi 134 (zE mi 133 12 99) (zE mi 134 12 99))) (zH mi 136 (zE mi 135 12 99) (zH mi 137 (zE mi 136 12 99) (zE mi 137 12 99)))) (zH mi 141 (zH mi 139 (zE mi 138 12 99) (zH mi 140 (zE mi 139 12 99) (zE mi 140 12 99))) (zH mi 143 (zH mi 142 (zE mi 141 12 99) (zE mi 142 12 99)) (zH mi 144 (zE mi 143 12 99) (zE mi 144 12 99))))) (zH mi 152 (zH mi 148 (zH mi 146 (zE mi 145 12 99) (zH mi 147 (zE mi 146 12 99) (zE mi 147 12 99))) (zH mi 150 (zH mi 149 (zE mi 148 12 99) (zE mi 149 12 99)) (zH mi 151 (zE mi 150 12 99) (zE mi 151 12 99)))) (zH mi 155 (zH mi 153 (zE mi 152 12 99) (zH mi 154 (zE mi 153 12 99) (zE mi 154 12 99))) (zH mi 157 (zH mi 156 (zE mi 155 12 99) (zE mi 156 12 99)) (zH mi 158 (zE mi 157 12 99) (zE mi 158 12 99))))))) (zH mi 186 (zH mi 172 (zH mi 165 (zH mi 162 (zH mi 160 (zE mi 159 12 99) (zH mi 161 (zE mi 160 12 99) (zE mi 161 12 99))) (zH mi 163 (zE mi 162 12 99) (zH mi 164 (zE mi 163 12 99) (zE mi 164 12 99)))) (zH mi 168 (zH mi 166 (zE mi 165 12 99) (zH mi 167 (zE mi 166 12 99) (zE mi 167 12 99))) (zH mi 170 (zH mi 169 (zE mi 168 12 99) (zE mi 169 12 99)) (zH mi 171 (zE mi 170 12 99) (zE mi 171 12 99))))) (zH mi 179 (zH mi 175 (zH mi 173 (zE mi 172 12 99) (zH mi 174 (zE mi 173 12 99) (zE mi 174 12 99))) (zH mi 177 (zH mi 176 (zE mi 175 12 99) (zE mi 176 12 99)) (zH mi 178 (zE mi 177 12 99) (zE mi 178 12 99)))) (zH mi 182 (zH mi 180 (zE mi 179 12 99) (zH mi 181 (zE mi 180 12 99) (zE mi 181 12 99))) (zH mi 184 (zH mi 183 (zE mi 182 12 99) (zE mi 183 12 99)) (zH mi 185 (zE mi 184 12 99) (zE mi 185 12 99)))))) (zH mi 199 (zH mi 192 (zH mi 189 (zH mi 187 (zE mi 186 12 99) (zH mi 188 (zE mi 187 12 99) (zE mi 188 12 99))) (zH mi 190 (zE mi 189 12 99) (zH mi 191 (zE mi 190 12 99) (zE mi 191 12 99)))) (zH mi 195 (zH mi 193 (zE mi 192 12 99) (zH mi 194 (zE mi 193 12 99) (zE mi 194 12 99))) (zH mi 197 (zH mi 196 (zE mi 195 12 99) (zE mi 196 12 99)) (zH mi 198 (zE mi 197 12 99) (zE mi 198 12 99))))) (zH mi 206 (zH mi 202 (zH mi 200 (zE mi 199 12 99) (zH mi 201 (zE mi 200 12 99) (zE mi 201 12 99))) (zH mi 204 (zH mi 203 (zE mi 202 12 99) (zE mi 203 12 99)) (zH mi 205 (zE mi 204 12 99) (zE mi 205 12 99)))) (zH mi 209 (zH mi 207 (zE mi 206 12 99) (zH mi 208 (zE mi 207 12 99) (zE mi 208 12 99))) (zH mi 211 (zH mi 210 (zE mi 209 12 99) (zE mi 210 12 99)) (zH mi 212 (zE mi 211 12 99) (zE mi 212 13 99)))))))))
def zmx (mi : Nat) : Nat := (zH mi 106 (zH mi 53 (zH mi 26 (zH mi 13 (zH mi 6 (zH mi 3 (zH mi 1 (zE mi 0 4 0) (zH mi 2 (zE mi 1 2 0) (zE mi 2 2 0))) (zH mi 4 (zE mi 3 2 0) (zH mi 5 (zE mi 4 3 0) (zE mi 5 4 0)))) (zH mi 9 (zH mi 7 (zE mi 6 4 0) (zH mi 8 (zE mi 7 4 0) (zE mi 8 4 0))) (zH mi 11 (zH mi 10 (zE mi 9 7 0) (zE mi 10 4 0)) (zH mi 12 (zE mi 11 6 0) (zE mi 12 2 0))))) (zH mi 19 (zH mi 16 (zH mi 14 (zE mi 13 4 0) (zH mi 15 (zE mi 14 5 0) (zE mi 15 4 0))) (zH mi 17 (zE mi 16 7 0) (zH mi 18 (zE mi 17 4 0) (zE mi 18 3 0)))) (zH mi 22 (zH mi 20 (zE mi 19 1 0) (zH mi 21 (zE mi 20 2 0) (zE mi 21 2 0))) (zH mi 24 (zH mi 23 (zE mi 22 2 0) (zE mi 23 1 0)) (zH mi 25 (zE mi 24 6 0) (zE mi 25 6 0)))))) (zH mi 39 (zH mi 32 (zH mi 29 (zH mi 27 (zE mi 26 7 0) (zH mi 28 (zE mi 27 7 0) (zE mi 28 5 0))) (zH mi 30 (zE mi 29 4 0) (zH mi 31 (zE mi 30 5 0) (zE mi 31 7 0)))) (zH mi 35 (zH mi 33 (zE mi 32 3 0) (zH mi 34 (zE mi 33 3 0) (zE mi 34 3 0))) (zH mi 37 (zH mi 36 (zE mi 35 3 0) (zE mi 36 2 0)) (zH mi 38 (zE mi 37 2 0) (zE mi 38 2 0))))) (zH mi 46 (zH mi 42 (zH mi 40 (zE mi 39 2 0) (zH mi 41 (zE mi 40 3 0) (zE mi 41 5 0))) (zH mi 44 (zH mi 43 (zE mi 42 6 0) (zE mi 43 2 0)) (zH mi 45 (zE mi 44 2 0) (zE mi 45 2 0)))) (zH mi 49 (zH mi 47 (zE mi 46 5 0) (zH mi 48 (zE mi 47 3 0) (zE mi 48 5 0))) (zH mi 51 (zH mi 50 (zE mi 49 2 0) (zE mi 50 3 0)) (zH mi 52 (zE mi 51 4 0) (zE mi 52 5 0))))))) (zH mi 79 (zH mi 66 (zH mi 59 (zH mi 56 (zH mi 54 (zE mi 53 5 0) (zH mi 55 (zE mi 54 2 0) (zE mi 55 6 0))) (zH mi 57 (zE mi 56 1 0) (zH mi 58 (zE mi 57 3 0) (zE mi 58 5 0)))) (zH mi 62 (zH mi 60 (zE mi 59 1 0) (zH mi 61 (zE mi 60 1 0) (zE mi 61 2 0))) (zH mi 64 (zH mi 63 (zE mi 62 2 0) (zE mi 63 1 0)) (zH mi 65 (zE mi 64 1 0) (zE mi 65 7 0))))) (zH mi 72 (zH mi 69 (zH mi 67 (zE mi 66 3 0) (zH mi 68 (zE mi 67 4 0) (zE mi 68 4 0))) (zH mi 70 (zE mi 69 1 0) (zH mi 71 (zE mi 70 3 0) (zE mi 71 1 0)))) (zH mi 75 (zH mi 73 (zE mi 72 2 0) (zH mi 74 (zE mi 73 2 0) (zE mi 74 2 0))) (zH mi 77 (zH mi 76 (zE mi 75 3 0) (zE mi 76 4 0)) (zH mi 78 (zE mi 77 6 0) (zE mi 78 2 0)))))) (zH mi 92 (zH mi 85 (zH mi 82 (zH mi 80 (zE mi 79 7 0) (zH mi 81 (zE mi 80 3 0) (zE mi 81 2 0))) (zH mi 83 (zE mi 82 9 0) (zH mi 84 (zE mi 83 5 0) (zE mi 84 6 0)))) (zH mi 88 (zH mi 86 (zE mi 85 2 0) (zH mi 87 (zE mi 86 3 0) (zE mi 87 5 0))) (zH mi 90 (zH mi 89 (zE mi 88 2 0) (zE mi 89 2 0)) (zH mi 91 (zE mi 90 3 0) (zE mi 91 6 0))))) (zH mi 99 (zH mi 95 (zH mi 93 (zE mi 92 3 0) (zH mi 94 (zE mi 93 5 0) (zE mi 94 4 0))) (zH mi 97 (zH mi 96 (zE mi 95 3 0) (zE mi 96 5 0)) (zH mi 98 (zE mi 97 2 0) (zE mi 98 2 0)))) (zH mi 102 (zH mi 100 (zE mi 99 5 0) (zH mi 101 (zE mi 100 2 0) (zE mi 101 4 0))) (zH mi 104 (zH mi 103 (zE mi 102 6 0) (zE mi 103 3 0)) (zH mi 105 (zE mi 104 4 0) (zE mi 105 3 0)))))))) (zH mi 159 (zH mi 132 (zH mi 119 (zH mi 112 (zH mi 109 (zH mi 107 (zE mi 106 3 0) (zH mi 108 (zE mi 107 2 0) (zE mi 108 3 0))) (zH mi 110 (zE mi 109 2 0) (zH mi 111 (zE mi 110 4 0) (zE mi 111 7 0)))) (zH mi 115 (zH mi 113 (zE mi 112 3 0) (zH mi 114 (zE mi 113 3 0) (zE mi 114 6 0))) (zH mi 117 (zH mi 116 (zE mi 115 5 0) (zE mi 116 7 0)) (zH mi 118 (zE mi 117 6 0) (zE mi 118 4 0))))) (zH mi 125 (zH mi 122 (zH mi 120 (zE mi 119 5 0) (zH mi 121 (zE mi 120 6 0) (zE mi 121 3 0))) (zH mi 123 (zE mi 122 2 0) (zH mi 124 (zE mi 123 2 0) (zE mi 124 4 0)))) (zH mi 128 (zH mi 126 (zE mi 125 3 0) (zH mi 127 (zE mi 126 2 0) (zE mi 127 3 0))) (zH mi 130 (zH mi 129 (zE mi 128 2 0) (zE mi 129 1 0)) (zH mi 131 (zE mi 130 4 0) (zE mi 131 8 0)))))) (zH mi 145 (zH mi 138 (zH mi 135 (zH mi 133 (zE mi 132 4 0) (zH mi 134 (zE mi 133 1 0) (zE mi 134 3 0))) (zH mi 136 (zE mi 135 2 0) (zH mi 137 (zE mi 136 2 0) (zE mi 137 2 0)))) (zH mi 141 (zH mi 139 (zE mi 138 2 0) (zH mi 140 (zE mi 139 2 0) (zE mi 140 4 0))) (zH mi 143 (zH mi 142 (zE mi 141 4 0) (zE mi 142 6 0)) (zH mi 144 (zE mi 143 3 0) (zE mi 144 4 0))))) (zH mi 152 (zH mi 148 (zH mi 146 (zE mi 145 4 0) (zH mi 147 (zE mi 146 3 0) (zE mi 147 3 0))) (zH mi 150 (zH mi 149 (zE mi 148 2 0) (zE mi 149 2 0)) (zH mi 151 (zE mi 150 3 0) (zE mi 151 7 0)))) (zH mi 155 (zH mi 153 (zE mi 152 3 0) (zH mi 154 (zE mi 153 3 0) (zE mi 154 2 0))) (zH mi 157 (zH mi 156 (zE mi 155 2 0) (zE mi 156 5 0)) (zH mi 158 (zE mi 157 2 0) (zE mi 158 4 0))))))) (zH mi 186 (zH mi 172 (zH mi 165 (zH mi 162 (zH mi 160 (zE mi 159 3 0) (zH mi 161 (zE mi 160 5 0) (zE mi 161 7 0))) (zH mi 163 (zE mi 162 11 0) (zH mi 164 (zE mi 163 2 0) (zE mi 164 2 0)))) (zH mi 168 (zH mi 166 (zE mi 165 3 0) (zH mi 167 (zE mi 166 2 0) (zE mi 167 2 0))) (zH mi 170 (zH mi 169 (zE mi 168 2 0) (zE mi 169 1 0)) (zH mi 171 (zE mi 170 1 0) (zE mi 171 2 0))))) (zH mi 179 (zH mi 175 (zH mi 173 (zE mi 172 8 0) (zH mi 174 (zE mi 173 5 0) (zE mi 174 2 0))) (zH mi 177 (zH mi 176 (zE mi 175 2 0) (zE mi 176 2 0)) (zH mi 178 (zE mi 177 3 0) (zE mi 178 6 0)))) (zH mi 182 (zH mi 180 (zE mi 179 9 0) (zH mi 181 (zE mi 180 2 0) (zE mi 181 5 0))) (zH mi 184 (zH mi 183 (zE mi 182 2 0) (zE mi 183 12 0)) (zH mi 185 (zE mi 184 4 0) (zE mi 185 5 0)))))) (zH mi 199 (zH mi 192 (zH mi 189 (zH mi 187 (zE mi 186 10 0) (zH mi 188 (zE mi 187 3 0) (zE mi 188 15 0))) (zH mi 190 (zE mi 189 2 0) (zH mi 191 (zE mi 190 2 0) (zE mi 191 5 0)))) (zH mi 195 (zH mi 193 (zE mi 192 7 0) (zH mi 194 (zE mi 193 11 0) (zE mi 194 6 0))) (zH mi 197 (zH mi 196 (zE mi 195 4 0) (zE mi 196 14 0)) (zH mi 198 (zE mi 197 4 0) (zE mi 198 4 0))))) (zH mi 206 (zH mi 202 (zH mi 200 (zE mi 199 6 0) (zH mi 201 (zE mi 200 6 0) (zE mi 201 5 0))) (zH mi 204 (zH mi 203 (zE mi 202 3 0) (zE mi 203 4 0)) (zH mi 205 (zE mi 204 3 0) (zE mi 205 2 0)))) (zH mi 209 (zH mi 207 (zE mi 206 2 0) (zH mi 208 (zE mi 207 3 0) (zE mi 208 3 0))) (zH mi 211 (zH mi 210 (zE mi 209 2 0) (zE mi 210 3 0)) (zH mi 212 (zE mi 211 4 0) (zE mi 212 7 0)))))))))
def zlook : Nat := 124
def zwv (i : Nat) : Int32 := bif Nat.blt i 6 then Int32.ofNat i else -1
def zten (k : Nat) : Int32 := (zH k 2 (zH k 1 (zE k 0 (1 : Int32) 0) (zE k 1 (10 : Int32) 0)) (zH k 3 (zE k 2 (100 : Int32) 0) (zH k 4 (zE k 3 (1000 : Int32) 0) (zE k 4 (10000 : Int32) 0))))
def zsl (i : Nat) : Nat := (zH i 7 (zH i 3 (zH i 1 (zE i 0 4 0) (zH i 2 (zE i 1 4 0) (zE i 2 3 0))) (zH i 5 (zH i 4 (zE i 3 6 0) (zE i 4 5 0)) (zH i 6 (zE i 5 4 0) (zE i 6 3 0)))) (zH i 10 (zH i 8 (zE i 7 4 0) (zH i 9 (zE i 8 4 0) (zE i 9 4 0))) (zH i 12 (zH i 11 (zE i 10 3 0) (zE i 11 2 0)) (zH i 13 (zE i 12 3 0) (zE i 13 8 0)))))
def zscw (i k : Nat) : Int32 := (zH (i * 16 + k) 98 (zH (i * 16 + k) 51 (zH (i * 16 + k) 19 (zH (i * 16 + k) 3 (zH (i * 16 + k) 1 (zE (i * 16 + k) 0 (122 : Int32) 0) (zH (i * 16 + k) 2 (zE (i * 16 + k) 1 (111 : Int32) 0) (zE (i * 16 + k) 2 (110 : Int32) 0))) (zH (i * 16 + k) 17 (zH (i * 16 + k) 16 (zE (i * 16 + k) 3 (101 : Int32) 0) (zE (i * 16 + k) 16 (104 : Int32) 0)) (zH (i * 16 + k) 18 (zE (i * 16 + k) 17 (111 : Int32) 0) (zE (i * 16 + k) 18 (117 : Int32) 0)))) (zH (i * 16 + k) 34 (zH (i * 16 + k) 32 (zE (i * 16 + k) 19 (114 : Int32) 0) (zH (i * 16 + k) 33 (zE (i * 16 + k) 32 (100 : Int32) 0) (zE (i * 16 + k) 33 (97 : Int32) 0))) (zH (i * 16 + k) 49 (zH (i * 16 + k) 48 (zE (i * 16 + k) 34 (121 : Int32) 0) (zE (i * 16 + k) 48 (108 : Int32) 0)) (zH (i * 16 + k) 50 (zE (i * 16 + k) 49 (97 : Int32) 0) (zE (i * 16 + k) 50 (115 : Int32) 0))))) (zH (i * 16 + k) 68 (zH (i * 16 + k) 64 (zH (i * 16 + k) 52 (zE (i * 16 + k) 51 (116 : Int32) 0) (zH (i * 16 + k) 53 (zE (i * 16 + k) 52 (101 : Int32) 0) (zE (i * 16 + k) 53 (100 : Int32) 0))) (zH (i * 16 + k) 66 (zH (i * 16 + k) 65 (zE (i * 16 + k) 64 (117 : Int32) 0) (zE (i * 16 + k) 65 (110 : Int32) 0)) (zH (i * 16 + k) 67 (zE (i * 16 + k) 66 (105 : Int32) 0) (zE (i * 16 + k) 67 (116 : Int32) 0)))) (zH (i * 16 + k) 82 (zH (i * 16 + k) 80 (zE (i * 16 + k) 68 (115 : Int32) 0) (zH (i * 16 + k) 81 (zE (i * 16 + k) 80 (108 : Int32) 0) (zE (i * 16 + k) 81 (105 : Int32) 0))) (zH (i * 16 + k) 96 (zH (i * 16 + k) 83 (zE (i * 16 + k) 82 (110 : Int32) 0) (zE (i * 16 + k) 83 (101 : Int32) 0)) (zH (i * 16 + k) 97 (zE (i * 16 + k) 96 (108 : Int32) 0) (zE (i * 16 + k) 97 (101 : Int32) 0)))))) (zH (i * 16 + k) 161 (zH (i * 16 + k) 130 (zH (i * 16 + k) 114 (zH (i * 16 + k) 112 (zE (i * 16 + k) 98 (116 : Int32) 0) (zH (i * 16 + k) 113 (zE (i * 16 + k) 112 (117 : Int32) 0) (zE (i * 16 + k) 113 (110 : Int32) 0))) (zH (i * 16 + k) 128 (zH (i * 16 + k) 115 (zE (i * 16 + k) 114 (105 : Int32) 0) (zE (i * 16 + k) 115 (116 : Int32) 0)) (zH (i * 16 + k) 129 (zE (i * 16 + k) 128 (101 : Int32) 0) (zE (i * 16 + k) 129 (97 : Int32) 0)))) (zH (i * 16 + k) 145 (zH (i * 16 + k) 131 (zE (i * 16 + k) 130 (99 : Int32) 0) (zH (i * 16 + k) 144 (zE (i * 16 + k) 131 (104 : Int32) 0) (zE (i * 16 + k) 144 (119 : Int32) 0))) (zH (i * 16 + k) 147 (zH (i * 16 + k) 146 (zE (i * 16 + k) 145 (104 : Int32) 0) (zE (i * 16 + k) 146 (101 : Int32) 0)) (zH (i * 16 + k) 160 (zE (i * 16 + k) 147 (110 : Int32) 0) (zE (i * 16 + k) 160 (97 : Int32) 0))))) (zH (i * 16 + k) 208 (zH (i * 16 + k) 177 (zH (i * 16 + k) 162 (zE (i * 16 + k) 161 (110 : Int32) 0) (zH (i * 16 + k) 176 (zE (i * 16 + k) 162 (100 : Int32) 0) (zE (i * 16 + k) 176 (111 : Int32) 0))) (zH (i * 16 + k) 193 (zH (i * 16 + k) 192 (zE (i * 16 + k) 177 (114 : Int32) 0) (zE (i * 16 + k) 192 (110 : Int32) 0)) (zH (i * 16 + k) 194 (zE (i * 16 + k) 193 (111 : Int32) 0) (zE (i * 16 + k) 194 (116 : Int32) 0)))) (zH (i * 16 + k) 212 (zH (i * 16 + k) 210 (zH (i * 16 + k) 209 (zE (i * 16 + k) 208 (40 : Int32) 0) (zE (i * 16 + k) 209 (41 : Int32) 0)) (zH (i * 16 + k) 211 (zE (i * 16 + k) 210 (60 : Int32) 0) (zE (i * 16 + k) 211 (61 : Int32) 0))) (zH (i * 16 + k) 214 (zH (i * 16 + k) 213 (zE (i * 16 + k) 212 (43 : Int32) 0) (zE (i * 16 + k) 213 (45 : Int32) 0)) (zH (i * 16 + k) 215 (zE (i * 16 + k) 214 (42 : Int32) 0) (zE (i * 16 + k) 215 (59 : Int32) 0)))))))
end
section
/-! The abstract machine: ids of cells are (tag, instance); ints, longs and references by (tag, instance, slot) -/
abbrev ZR : Type := Nat × Nat
abbrev ZV : Type := Int32 ⊕ (Int64 ⊕ Option ZR)
abbrev ZMp (α : Type) : Type := Nat → Nat → Nat → α
/-- ints, longs, references that are no final field's, lines made, cells made, slots made -/
abbrev ZS : Type := ZMp Int32 × ZMp Int64 × ZMp (Option ZR) × Nat × Nat × Nat
abbrev ZL : Type := List (Option ZV)
abbrev ZX : Type := Option ZV × ZS
abbrev ZF : Type := Nat × ZL × List ZV × ZS
abbrev zi (x : Int32) : ZV := .inl x
abbrev zl (x : Int64) : ZV := .inr (.inl x)
abbrev zo (o : Option ZR) : ZV := .inr (.inr o)
abbrev zr (t i : Nat) : ZV := .inr (.inr (some (t, i)))
def zu {α : Type} (f : ZMp α) (t i k : Nat) (v : α) : ZMp α := fun t' i' k' => if t' = t ∧ i' = i ∧ k' = k then v else f t' i' k'
def zin (x : Int32) (n : Nat) : Bool := decide (¬ (x < 0 ∨ n ≤ x.toNatClampNeg))
def zbl (x : Int32) : Bool := decide (x = 0 ∨ x = 1)
abbrev zx (x : Int32) : Nat := x.toNatClampNeg
/-- the length of an array by its tag; the script's stands in the ints -/
def zlen (t : Nat) (S : ZS) : Nat := bif Nat.beq t 16 then (S.1 16 1 0).toNatClampNeg else zaln t
def zmask : List Bool → ZL → ZL
  | [], l => l
  | _ :: _, [] => []
  | b :: bs, x :: xs => (bif b then x else none) :: zmask bs xs
/-- a truth value is 0 or 1 -/
def zgb {α : Type} (x : Int32) (k : Option α) : Option α := bif zbl x then k else none
def zunl (o : Option ZV) : Option ZV := match o with
  | some (.inr (.inl _)) => none
  | o => o
def zset : Nat → ZV → ZL → ZL
  | 0, v, _ :: r => some v :: r
  | 1, v, a :: _ :: r => zunl a :: some v :: r
  | n + 2, v, a :: r => a :: zset (n + 1) v r
  | _, _, l => l
def zsetl (n : Nat) (v : ZV) (l : ZL) : ZL := (zset n v l).set (n + 1) none
def zget : Nat → ZL → Option ZV
  | 0, x :: _ => x
  | n + 1, _ :: r => zget n r
  | _, [] => none
/-- a reference that must be of this tag -/
def zder {α : Type} (o : Option ZR) (t : Nat) (k : Nat → Option α) : Option α := match o with
  | some (t', i) => bif Nat.beq t' t then k i else none
  | none => none
abbrev zt (pc : Nat) (o : Int) : Nat := ((pc : Int) + o).toNat
def zpi {α : Type} (st : List ZV) (k : Int32 → List ZV → Option α) : Option α := match st with
  | .inl x :: r => k x r
  | _ => none
def zpl {α : Type} (st : List ZV) (k : Int64 → List ZV → Option α) : Option α := match st with
  | .inr (.inl x) :: r => k x r
  | _ => none
def zpo {α : Type} (st : List ZV) (k : Option ZR → List ZV → Option α) : Option α := match st with
  | .inr (.inr x) :: r => k x r
  | _ => none
/-- a reference that isn't null -/
def zpr {α : Type} (st : List ZV) (k : Nat → Nat → List ZV → Option α) : Option α := match st with
  | .inr (.inr (some (t, i))) :: r => k t i r
  | _ => none
def zli {α : Type} (n : Nat) (ls : ZL) (k : Int32 → Option α) : Option α := match zget n ls with
  | some (.inl x) => k x
  | _ => none
def zll {α : Type} (n : Nat) (ls : ZL) (k : Int64 → Option α) : Option α := match zget n ls with
  | some (.inr (.inl x)) => k x
  | _ => none
def zlo {α : Type} (n : Nat) (ls : ZL) (k : Option ZR → Option α) : Option α := match zget n ls with
  | some (.inr (.inr x)) => k x
  | _ => none
def zob {α β : Type} (o : Option β) (k : β → Option α) : Option α := match o with
  | some x => k x
  | none => none
/-- a cut, or the code -/
def zel {α β : Type} (o : Option β) (k : β → Option α) (n : Option α) : Option α := match o with
  | some x => k x
  | none => n
/-- a branch whose test nobody evaluates -/
noncomputable def zif {α : Type} (c : Prop) (a b : Option α) : Option α := @ite (Option α) c (Classical.propDecidable c) a b
theorem zif_pos {α : Type} {c : Prop} {a b : Option α} (h : c) : zif c a b = a := by unfold zif; exact @if_pos c (Classical.propDecidable c) h (Option α) a b
theorem zif_neg {α : Type} {c : Prop} {a b : Option α} (h : ¬ c) : zif c a b = b := by unfold zif; exact @if_neg c (Classical.propDecidable c) h (Option α) a b
theorem zif_if {α : Type} (c : Prop) [Decidable c] (a b : Option α) : zif c a b = if c then a else b := by
  by_cases h : c
  · rw [zif_pos h, if_pos h]
  · rw [zif_neg h, if_neg h]
noncomputable def zg {α : Type} (b : Bool) (k : Option α) : Option α := zif (b = true) k none
theorem zg_t {α : Type} {b : Bool} {k : Option α} (h : b = true) : zg b k = k := zif_pos h
theorem zg_f {α : Type} {b : Bool} {k : Option α} (h : b = false) : zg b k = none := zif_neg (by rw [h]; exact Bool.false_ne_true)
/-- references that are compared: null, wishes, words -/
def zcmb (o : Option ZR) : Bool := match o with
  | none => true
  | some (t, _) => Nat.beq t 9 || Nat.beq t 12
def zcm {α : Type} (o : Option ZR) (k : Option α) : Option α := bif zcmb o then k else none
def zz (x : Int32) : Bool := decide (x = 0)
def zpop : Nat → List ZV → List ZV → Option (List ZV × List ZV)
  | 0, acc, r => some (acc, r)
  | n + 1, acc, x :: r => zpop n (x :: acc) r
  | _ + 1, _, [] => none
def zoi (r : ZX) : Option (Int32 × ZS) := match r with
  | (some (.inl x), S) => some (x, S)
  | _ => none
def zol (r : ZX) : Option (Int64 × ZS) := match r with
  | (some (.inr (.inl x)), S) => some (x, S)
  | _ => none
def zoo (r : ZX) : Option (Option ZR × ZS) := match r with
  | (some (.inr (.inr x)), S) => some (x, S)
  | _ => none
def zov (r : ZX) : Option ZS := match r with
  | (none, S) => some S
  | _ => none
/-- plain instructions -/
def zop (oc : Nat) (ins : Instr) (ls : ZL) (st : List ZV) (S : ZS) : Option (ZL × List ZV × ZS) := match ins with
  | .iload n => zli n ls (fun x => some (ls, .inl x :: st, S))
  | .iload_n n => zli n.val ls (fun x => some (ls, .inl x :: st, S))
  | .lload n => zll n ls (fun x => some (ls, .inr (.inl x) :: st, S))
  | .lload_n n => zll n.val ls (fun x => some (ls, .inr (.inl x) :: st, S))
  | .aload n => zlo n ls (fun x => some (ls, .inr (.inr x) :: st, S))
  | .aload_n n => zlo n.val ls (fun x => some (ls, .inr (.inr x) :: st, S))
  | .istore n => zpi st (fun x r => some (zset n (.inl x) ls, r, S))
  | .istore_n n => zpi st (fun x r => some (zset n.val (.inl x) ls, r, S))
  | .lstore n => zpl st (fun x r => some (zsetl n (.inr (.inl x)) ls, r, S))
  | .lstore_n n => zpl st (fun x r => some (zsetl n.val (.inr (.inl x)) ls, r, S))
  | .astore n => zpo st (fun x r => some (zset n (.inr (.inr x)) ls, r, S))
  | .astore_n n => zpo st (fun x r => some (zset n.val (.inr (.inr x)) ls, r, S))
  | .iinc n c => zli n ls (fun x => some (zset n (.inl (x + zcst c)) ls, st, S))
  | .iconst n => some (ls, .inl (zcst n) :: st, S)
  | .bipush n => some (ls, .inl (zcst n) :: st, S)
  | .sipush n => some (ls, .inl (zcst n) :: st, S)
  | .lconst n => some (ls, .inr (.inl (Int64.ofNat n.val)) :: st, S)
  | .aconst_null => some (ls, .inr (.inr none) :: st, S)
  | .ldc n => zob (zldc oc n) (fun v => match v with
    | .inl v => some (ls, .inl v :: st, S)
    | .inr i => some (ls, .inr (.inr (some (13, i))) :: st, S))
  | .ldc_w n => zob (zldc oc n) (fun v => match v with
    | .inl v => some (ls, .inl v :: st, S)
    | .inr _ => none)
  | .ldc2_w n => zob (zldl oc n) (fun v => some (ls, .inr (.inl v) :: st, S))
  | .dup => match st with
    | .inl x :: r => some (ls, .inl x :: .inl x :: r, S)
    | .inr (.inr x) :: r => some (ls, .inr (.inr x) :: .inr (.inr x) :: r, S)
    | _ => none
  | .dup2 => zpi st (fun x r => zpr r (fun t i r => some (ls, .inl x :: .inr (.inr (some (t, i))) :: .inl x :: .inr (.inr (some (t, i))) :: r, S)))
  | .pop => match st with
    | .inl _ :: r => some (ls, r, S)
    | .inr (.inr _) :: r => some (ls, r, S)
    | _ => none
  | .iadd => zpi st (fun y r => zpi r (fun x r => some (ls, .inl (x + y) :: r, S)))
  | .isub => zpi st (fun y r => zpi r (fun x r => some (ls, .inl (x - y) :: r, S)))
  | .imul => zpi st (fun y r => zpi r (fun x r => some (ls, .inl (x * y) :: r, S)))
  | .iand => zpi st (fun y r => zpi r (fun x r => some (ls, .inl (x &&& y) :: r, S)))
  | .ladd => zpl st (fun y r => zpl r (fun x r => some (ls, .inr (.inl (x + y)) :: r, S)))
  | .lsub => zpl st (fun y r => zpl r (fun x r => some (ls, .inr (.inl (x - y)) :: r, S)))
  | .lmul => zpl st (fun y r => zpl r (fun x r => some (ls, .inr (.inl (x * y)) :: r, S)))
  | .land => zpl st (fun y r => zpl r (fun x r => some (ls, .inr (.inl (x &&& y)) :: r, S)))
  | .lor => zpl st (fun y r => zpl r (fun x r => some (ls, .inr (.inl (x ||| y)) :: r, S)))
  | .lshl => zpi st (fun y r => zpl r (fun x r => some (ls, .inr (.inl (x <<< (y.toInt64 &&& 63))) :: r, S)))
  | .lushr => zpi st (fun y r => zpl r (fun x r => some (ls, .inr (.inl ((x.toUInt64 >>> (y.toInt64.toUInt64 &&& Int64.toUInt64 63)).toInt64)) :: r, S)))
  | .lcmp => zpl st (fun y r => zpl r (fun x r => some (ls, .inl (lg_cmp x y) :: r, S)))
  | .i2l => zpi st (fun x r => some (ls, .inr (.inl x.toInt64) :: r, S))
  | .l2i => zpl st (fun x r => some (ls, .inl x.toInt32 :: r, S))
  | .i2c => zpi st (fun x r => some (ls, .inl (x.toUInt32 % 65536).toInt32 :: r, S))
  | .getstatic n => zob (zsta oc n) (fun q => some (ls, .inr (.inr (some (q.1, q.2))) :: st, S))
  | .arraylength => zpr st (fun t _ r => bif Nat.beq (zaty t) 9 then none else some (ls, .inl (Int32.ofNat (zlen t S)) :: r, S))
  | _ => none
/-- a table switch's targets, one behind another -/
noncomputable def zsw {α : Type} (x : Int32) (k : Nat → Option α) (dflt : Nat) : List Nat → Int → Option α
  | [], _ => k dflt
  | t :: ts, lo => zif (x = zcst lo) (k t) (zsw x k dflt ts (lo + 1))
def zci (cl : Nat → List ZV → ZS → Option ZX) (mj : Nat) (args : List ZV) (S : ZS) : Option (Int32 × ZS) := (cl mj args S).bind zoi
def zcl (cl : Nat → List ZV → ZS → Option ZX) (mj : Nat) (args : List ZV) (S : ZS) : Option (Int64 × ZS) := (cl mj args S).bind zol
def zco (cl : Nat → List ZV → ZS → Option ZX) (mj : Nat) (args : List ZV) (S : ZS) : Option (Option ZR × ZS) := (cl mj args S).bind zoo
def zcv (cl : Nat → List ZV → ZS → Option ZX) (mj : Nat) (args : List ZV) (S : ZS) : Option ZS := (cl mj args S).bind zov
def zcal {α : Type} (cl : Nat → List ZV → ZS → Option ZX) (oc n : Nat) (st : List ZV) (S : ZS) (k : List ZV → ZS → Option α) : Option α :=
  zob (zmth oc n) (fun q => zob (zpop q.2.1 [] st) (fun w => bif Nat.ble w.2.length 4 then (match q.2.2 with
        | 0 => (zcv cl q.1 w.1 S).bind (fun S' => k w.2 S')
        | 1 => (zci cl q.1 w.1 S).bind (fun r => k (.inl r.1 :: w.2) r.2)
        | 2 => (zcl cl q.1 w.1 S).bind (fun r => k (.inr (.inl r.1) :: w.2) r.2)
        | _ => (zco cl q.1 w.1 S).bind (fun r => k (.inr (.inr r.1) :: w.2) r.2)) else none))
/-- a line that has just been made -/
def zline (f : ZMp Int32) (j : Nat) (ix home : Int32) : ZMp Int32 := fun t i k =>
  if t = 2 ∧ i = j then (if k = 0 then ix else if k = 1 then home else if k = 10 ∨ k = 11 then -1 else 0)
  else if (t = 29 ∨ t = 30) ∧ i = j then 0 else f t i k
noncomputable def zgo {α : Type} (cl : Nat → List ZV → ZS → Option ZX) (mi oc : Nat) (κ : Nat → ZL → List ZV → ZS → Option α) (ρ : Option ZV → ZS → Option α) : Nat → Bool → Nat → ZL → List ZV → ZS → Option α
  | 0, _, _, _, _, _ => none
  | j + 1, b, pc, ls, st, S =>
    zel (bif b then zcut mi pc else none) (fun ms => κ pc (zmask ms ls) st S) (zob (zcode mi pc) (fun c => match c with
      | (ins, len) => match ins with
        | .goto o => zgo cl mi oc κ ρ j true (zt pc o) ls st S
        | .ifCond c o => zpi st (fun x r => match c with
          | .eq => zif (x = 0) (zgo cl mi oc κ ρ j true (zt pc o) ls r S) (zgo cl mi oc κ ρ j true (pc + len) ls r S)
          | .ne => zif (x = 0) (zgo cl mi oc κ ρ j true (pc + len) ls r S) (zgo cl mi oc κ ρ j true (zt pc o) ls r S)
          | .lt => zif (x < 0) (zgo cl mi oc κ ρ j true (zt pc o) ls r S) (zgo cl mi oc κ ρ j true (pc + len) ls r S)
          | .ge => zif (0 ≤ x) (zgo cl mi oc κ ρ j true (zt pc o) ls r S) (zgo cl mi oc κ ρ j true (pc + len) ls r S)
          | .gt => zif (0 < x) (zgo cl mi oc κ ρ j true (zt pc o) ls r S) (zgo cl mi oc κ ρ j true (pc + len) ls r S)
          | .le => zif (x ≤ 0) (zgo cl mi oc κ ρ j true (zt pc o) ls r S) (zgo cl mi oc κ ρ j true (pc + len) ls r S))
        | .if_icmp c o => zpi st (fun y r => zpi r (fun x r => match c with
          | .eq => zif (x = y) (zgo cl mi oc κ ρ j true (zt pc o) ls r S) (zgo cl mi oc κ ρ j true (pc + len) ls r S)
          | .ne => zif (x = y) (zgo cl mi oc κ ρ j true (pc + len) ls r S) (zgo cl mi oc κ ρ j true (zt pc o) ls r S)
          | .lt => zif (x < y) (zgo cl mi oc κ ρ j true (zt pc o) ls r S) (zgo cl mi oc κ ρ j true (pc + len) ls r S)
          | .ge => zif (y ≤ x) (zgo cl mi oc κ ρ j true (zt pc o) ls r S) (zgo cl mi oc κ ρ j true (pc + len) ls r S)
          | .gt => zif (y < x) (zgo cl mi oc κ ρ j true (zt pc o) ls r S) (zgo cl mi oc κ ρ j true (pc + len) ls r S)
          | .le => zif (x ≤ y) (zgo cl mi oc κ ρ j true (zt pc o) ls r S) (zgo cl mi oc κ ρ j true (pc + len) ls r S)))
        | .if_acmp c o => zpo st (fun y r => zpo r (fun x r => zcm x (zcm y (match c with
          | .eq => zif (x = y) (zgo cl mi oc κ ρ j true (zt pc o) ls r S) (zgo cl mi oc κ ρ j true (pc + len) ls r S)
          | .ne => zif (x = y) (zgo cl mi oc κ ρ j true (pc + len) ls r S) (zgo cl mi oc κ ρ j true (zt pc o) ls r S)))))
        | .ifnonnull o => zpo st (fun x r => zif (x = none) (zgo cl mi oc κ ρ j true (pc + len) ls r S) (zgo cl mi oc κ ρ j true (zt pc o) ls r S))
        | .tableswitch dflt lo _ offs => zpi st (fun x r => zsw x (fun p => zgo cl mi oc κ ρ j true p ls r S) (zt pc dflt) (offs.toList.map (zt pc)) lo)
        | .invokevirtual n => zcal cl oc n st S (fun st' S' => zgo cl mi oc κ ρ j true (pc + len) ls st' S')
        | .invokestatic n => zcal cl oc n st S (fun st' S' => zgo cl mi oc κ ρ j true (pc + len) ls st' S')
        | .invokespecial n => zcal cl oc n st S (fun st' S' => zgo cl mi oc κ ρ j true (pc + len) ls st' S')
        | .ireturn => zpi st (fun x r => bif r.isEmpty then (bif zrz mi then zgb x (ρ (some (.inl x)) S) else ρ (some (.inl x)) S) else none)
        | .lreturn => zpl st (fun x r => bif r.isEmpty then ρ (some (.inr (.inl x))) S else none)
        | .areturn => zpo st (fun x r => bif r.isEmpty then ρ (some (.inr (.inr x))) S else none)
        | .return_ => bif st.isEmpty then ρ none S else none
        | .new _ => bif znewat mi pc then zli 1 ls (fun home => zlo 0 ls (fun o => zder o 0 (fun i0 => zgo cl mi oc κ ρ j true (pc + 12) ls (.inr (.inr (some (2, S.2.2.2.1))) :: st) (zline S.1 S.2.2.2.1 (S.1 0 i0 3) home, S.2.1, S.2.2.1, S.2.2.2.1 + 1, S.2.2.2.2.1 + 3, S.2.2.2.2.2 + 114)))) else none
        | .idiv => zpi st (fun y r => zpi r (fun x r => bif zz y then none else zgo cl mi oc κ ρ j true (pc + len) ls (.inl (x / y) :: r) S))
        | .irem => zpi st (fun y r => zpi r (fun x r => bif zz y then none else zgo cl mi oc κ ρ j true (pc + len) ls (.inl (x - x / y * y) :: r) S))
        | .getfield n => zob (zfld oc n) (fun q => zpo st (fun o r => zder o q.1 (fun i => match q.2.2 with
          | 0 => zgo cl mi oc κ ρ j true (pc + len) ls (.inl (S.1 q.1 i q.2.1) :: r) S
          | 1 => zgo cl mi oc κ ρ j true (pc + len) ls (.inr (.inl (S.2.1 q.1 i q.2.1)) :: r) S
          | 2 => zgo cl mi oc κ ρ j true (pc + len) ls (.inr (.inr (zfin q.1 q.2.1 i)) :: r) S
          | 3 => zgo cl mi oc κ ρ j true (pc + len) ls (.inr (.inr (S.2.2.1 q.1 i q.2.1)) :: r) S
          | 4 => zgo cl mi oc κ ρ j true (pc + len) ls (.inl (S.1 q.1 i q.2.1) :: r) S
          | _ => zgo cl mi oc κ ρ j true (pc + len) ls (.inl (zwv i) :: r) S)))
        | .putfield n => zob (zfld oc n) (fun q => match q.2.2 with
          | 0 => zpi st (fun x r => zpo r (fun o r => zder o q.1 (fun i => zgo cl mi oc κ ρ j true (pc + len) ls r (zu S.1 q.1 i q.2.1 x, S.2))))
          | 1 => zpl st (fun x r => zpo r (fun o r => zder o q.1 (fun i => zgo cl mi oc κ ρ j true (pc + len) ls r (S.1, zu S.2.1 q.1 i q.2.1 x, S.2.2))))
          | 3 => zpo st (fun x r => zpo r (fun o r => zder o q.1 (fun i => zgo cl mi oc κ ρ j true (pc + len) ls r (S.1, S.2.1, zu S.2.2.1 q.1 i q.2.1 x, S.2.2.2))))
          | 4 => zpi st (fun x r => zpo r (fun o r => zder o q.1 (fun i => zg (zbl x) (zgo cl mi oc κ ρ j true (pc + len) ls r (zu S.1 q.1 i q.2.1 x, S.2)))))
          | _ => none)
        | .iaload => zpi st (fun x r => zpr r (fun t i r => bif Nat.beq (zaty t) 0 || Nat.beq (zaty t) 7 then zg (zin x (zlen t S)) (zgo cl mi oc κ ρ j true (pc + len) ls (.inl (S.1 t i (zx x)) :: r) S) else
          bif Nat.beq (zaty t) 6 then zg (zin x (zlen t S)) (zgo cl mi oc κ ρ j true (pc + len) ls (.inl (zten (zx x)) :: r) S) else none))
        | .baload => zpi st (fun x r => zpr r (fun t i r => bif Nat.beq (zaty t) 1 then zg (zin x (zlen t S)) (zgo cl mi oc κ ρ j true (pc + len) ls (.inl (S.1 t i (zx x)) :: r) S) else none))
        | .caload => zpi st (fun x r => zpr r (fun t i r => bif Nat.beq (zaty t) 2 then zg (zin x (zlen t S)) (zgo cl mi oc κ ρ j true (pc + len) ls (.inl (S.1 t i (zx x)) :: r) S) else none))
        | .laload => zpi st (fun x r => zpr r (fun t i r => bif Nat.beq (zaty t) 3 then zg (zin x (zlen t S)) (zgo cl mi oc κ ρ j true (pc + len) ls (.inr (.inl (S.2.1 t i (zx x))) :: r) S) else none))
        | .aaload => zpi st (fun x r => zpr r (fun t i r => bif Nat.beq (zaty t) 4 then zg (zin x (zlen t S)) (zgo cl mi oc κ ρ j true (pc + len) ls (.inr (.inr (S.2.2.1 t i (zx x))) :: r) S) else
          bif Nat.beq (zaty t) 5 then zg (zin x (zlen t S)) (zgo cl mi oc κ ρ j true (pc + len) ls (.inr (.inr (some (12, zx x))) :: r) S) else none))
        | .iastore => zpi st (fun v r => zpi r (fun x r => zpr r (fun t i r => bif Nat.beq (zaty t) 0 then zg (zin x (zlen t S)) (zgo cl mi oc κ ρ j true (pc + len) ls r (zu S.1 t i (zx x) v, S.2)) else none)))
        | .bastore => zpi st (fun v r => zpi r (fun x r => zpr r (fun t i r => bif Nat.beq (zaty t) 1 then zg (zin x (zlen t S)) (zg (zbl v) (zgo cl mi oc κ ρ j true (pc + len) ls r (zu S.1 t i (zx x) v, S.2))) else none)))
        | .castore => zpi st (fun v r => zpi r (fun x r => zpr r (fun t i r => bif Nat.beq (zaty t) 2 then zg (zin x (zlen t S)) (zgo cl mi oc κ ρ j true (pc + len) ls r (zu S.1 t i (zx x) (v.toUInt32 % 65536).toInt32, S.2)) else none)))
        | .lastore => zpl st (fun v r => zpi r (fun x r => zpr r (fun t i r => bif Nat.beq (zaty t) 3 then zg (zin x (zlen t S)) (zgo cl mi oc κ ρ j true (pc + len) ls r (S.1, zu S.2.1 t i (zx x) v, S.2.2)) else none)))
        | .aastore => zpo st (fun v r => zpi r (fun x r => zpr r (fun t i r => bif Nat.beq (zaty t) 4 then zg (zin x (zlen t S)) (zder v 2 (fun _ => zgo cl mi oc κ ρ j true (pc + len) ls r (S.1, S.2.1, zu S.2.2.1 t i (zx x) v, S.2.2.2))) else none)))
        | ins => zob (zop oc ins ls st S) (fun q => zgo cl mi oc κ ρ j true (pc + len) q.1 q.2.1 q.2.2)))
def zarg : List ZV → ZL
  | [] => []
  | .inr (.inl x) :: r => some (.inr (.inl x)) :: none :: zarg r
  | .inl x :: r => some (.inl x) :: zarg r
  | .inr (.inr x) :: r => some (.inr (.inr x)) :: zarg r
def zpad (n : Nat) (l : ZL) : ZL := l ++ List.replicate (n - l.length) none
def zrcv (t : Option Nat) (args : List ZV) : Bool := match t with
  | none => true
  | some t => match args with
    | .inr (.inr (some (t', _))) :: _ => Nat.beq t' t
    | _ => false
def zfill (f : ZMp Int32) (t i n : Nat) (v : Int32) : ZMp Int32 := fun t' i' k' => if t' = t ∧ i' = i ∧ k' < n then v else f t' i' k'
def zcpy (f : ZMp Int32) (t i sp t2 i2 dp n : Nat) : ZMp Int32 := fun t' i' k' => if t' = t2 ∧ i' = i2 ∧ dp ≤ k' ∧ k' < dp + n then f t i (sp + (k' - dp)) else f t' i' k'
/-- the first place of a sign among the signs of text i, from k on, n of them left -/
def zidx (i : Nat) (ch : Int32) : Nat → Nat → Int32
  | 0, _ => -1
  | n + 1, k => if zscw i k = ch then Int32.ofNat k else zidx i ch n (k + 1)
/-- methods that are no code of the machine: the JDK's, a line's constructor, the law's own look -/
noncomputable def zprim (cl : Nat → List ZV → ZS → Option ZX) (mj : Nat) (args : List ZV) (S : ZS) : Option ZX :=
  bif Nat.beq mj 1000 then (match args with
    | [.inl x, .inl y] => some (some (.inl (if x < y then y else x)), S)
    | _ => none) else
  bif Nat.beq mj 1001 then (match args with
    | [.inl x, .inl y] => some (some (.inl (if y < x then y else x)), S)
    | _ => none) else
  bif Nat.beq mj 1002 then (match args with
    | [.inr (.inr (some (t, i))), .inl v] => bif Nat.beq (zaty t) 0 then some (none, (zfill S.1 t i (zaln t) v, S.2)) else none
    | _ => none) else
  bif Nat.beq mj 1003 then (match args with
    | [.inr (.inr (some (t, i))), .inl sp, .inr (.inr (some (t2, i2))), .inl dp, .inl n] =>
      bif Nat.beq (zaty t) 0 && Nat.beq (zaty t2) 0 then zg (decide (¬ (t = t2 ∧ i = i2) ∧ 0 ≤ sp ∧ 0 ≤ dp ∧ 0 ≤ n ∧ zx sp + zx n ≤ zaln t ∧ zx dp + zx n ≤ zaln t2)) (some (none, (zcpy S.1 t i (zx sp) t2 i2 (zx dp) (zx n), S.2))) else none
    | _ => none) else
  bif Nat.beq mj 1004 then (match args with
    | [.inr (.inr (some (13, i)))] => some (some (.inl (Int32.ofNat (zsl i))), S)
    | _ => none) else
  bif Nat.beq mj 1005 then (match args with
    | [.inr (.inr (some (13, i))), .inl k] => zg (zin k (zsl i)) (some (some (.inl (zscw i (zx k))), S))
    | _ => none) else
  bif Nat.beq mj 1006 then (match args with
    | [.inr (.inr (some (13, i))), .inl ch] => some (some (.inl (zidx i ch (zsl i) 0)), S)
    | _ => none) else
  bif Nat.beq mj 1008 then (match args with
    | [.inr (.inr (some (10, 0))), .inl a, .inl b, .inr (.inr (some (17, 0)))] =>
      if 0 ≤ a ∧ a < S.1 0 0 3 ∧ 0 ≤ b ∧ b ≤ 5 then (zci cl zlook [zr 10 0, zi a, zi b] S).bind (fun r => some (some (.inl 0), (r.2.1, zu r.2.2.1 17 0 0 r.1.toInt64, r.2.2.2)))
      else some (some (.inl 1), (S.1, S.2.1, S.2.2.1, S.2.2.2.1, S.2.2.2.2.1 + 1, S.2.2.2.2.2 + 8))
    | _ => none) else none
/-! a step again and again, as long as it comes to an end -/
def zlim {β γ : Type} (P : β → Option (β ⊕ γ)) : Nat → β → Option γ
  | 0, _ => none
  | n + 1, b => (P b).bind (fun r => match r with
    | .inl b' => zlim P n b'
    | .inr c => some c)
theorem zlim_succ {β γ : Type} (P : β → Option (β ⊕ γ)) : ∀ (n : Nat) (b : β) (c : γ), zlim P n b = some c → zlim P (n + 1) b = some c
  | 0, b, c, h => by simp [zlim] at h
  | n + 1, b, c, h => by
    rw [zlim] at h ⊢
    cases hP : P b with
    | none => rw [hP] at h; simp at h
    | some r =>
      rw [hP] at h
      cases r with
      | inl b' => exact zlim_succ P n b' c h
      | inr c' => exact h
theorem zlim_mono {β γ : Type} (P : β → Option (β ⊕ γ)) {n m : Nat} (hnm : n ≤ m) {b : β} {c : γ} (h : zlim P n b = some c) : zlim P m b = some c := by
  induction hnm with
  | refl => exact h
  | step _ ih => exact zlim_succ P _ b c ih
noncomputable def zfix {β γ : Type} (P : β → Option (β ⊕ γ)) (b : β) : Option γ :=
  Classical.epsilon (fun o : Option γ => (∀ c, o = some c ↔ ∃ n, zlim P n b = some c))
theorem zfix_spec {β γ : Type} (P : β → Option (β ⊕ γ)) (b : β) (c : γ) : zfix P b = some c ↔ ∃ n, zlim P n b = some c := by
  have hex : ∃ o : Option γ, ∀ c, o = some c ↔ ∃ n, zlim P n b = some c := by
    by_cases h : ∃ c n, zlim P n b = some c
    · obtain ⟨c0, n0, h0⟩ := h
      refine ⟨some c0, fun c => ⟨fun e => ?_, fun ⟨n, hn⟩ => ?_⟩⟩
      · cases e; exact ⟨n0, h0⟩
      · have h1 := zlim_mono P (Nat.le_max_left n n0) hn
        have h2 := zlim_mono P (Nat.le_max_right n n0) h0
        rw [h1] at h2; exact h2.symm
    · refine ⟨none, fun c => ⟨fun e => (by cases e), fun ⟨n, hn⟩ => absurd ⟨c, n, hn⟩ h⟩⟩
  exact Classical.epsilon_spec (p := fun o : Option γ => (∀ c, o = some c ↔ ∃ n, zlim P n b = some c)) hex c
theorem zfix_eq {β γ : Type} (P : β → Option (β ⊕ γ)) (b : β) : zfix P b = (P b).bind (fun r => match r with
    | .inl b' => zfix P b'
    | .inr c => some c) := by
  have key : ∀ c, zfix P b = some c ↔ (P b).bind (fun r => match r with
    | .inl b' => zfix P b'
    | .inr c => some c) = some c := by
    intro c
    rw [zfix_spec]
    constructor
    · rintro ⟨n, hn⟩
      cases n with
      | zero => simp [zlim] at hn
      | succ n =>
        rw [zlim] at hn
        cases hP : P b with
        | none => rw [hP] at hn; simp at hn
        | some r =>
          rw [hP] at hn
          cases r with
          | inl b' => exact (zfix_spec P b' c).mpr ⟨n, hn⟩
          | inr c' => exact hn
    · intro h
      cases hP : P b with
      | none => rw [hP] at h; simp at h
      | some r =>
        rw [hP] at h
        cases r with
        | inl b' =>
          obtain ⟨n, hn⟩ := (zfix_spec P b' c).mp h
          exact ⟨n + 1, by rw [zlim, hP]; exact hn⟩
        | inr c' => exact ⟨1, by rw [zlim, hP]; exact h⟩
  cases h1 : zfix P b with
  | some c => exact ((key c).mp h1).symm
  | none =>
    cases h2 : (P b).bind (fun r => match r with
    | .inl b' => zfix P b'
    | .inr c => some c) with
    | none => rfl
    | some c => rw [(key c).mpr h2] at h1; cases h1

/-! the run of a method: between cuts, again and again -/
noncomputable def zP (cl : Nat → List ZV → ZS → Option ZX) (mi oc : Nat) (f : ZF) : Option (ZF ⊕ ZX) := zgo cl mi oc (fun pc ls st S => some (.inl (pc, ls, st, S))) (fun v S => some (.inr (v, S))) 3000 false f.1 f.2.1 f.2.2.1 f.2.2.2
noncomputable def zrun (cl : Nat → List ZV → ZS → Option ZX) (mi oc pc : Nat) (ls : ZL) (st : List ZV) (S : ZS) : Option ZX := zfix (zP cl mi oc) (pc, ls, st, S)
noncomputable def zcall : Nat → Nat → List ZV → ZS → Option ZX
  | 0, _, _, _ => none
  | d + 1, mj, args, S => bif Nat.ble 1000 mj then zprim (zcall d) mj args S else bif zrcv (zsg mj) args then zrun (zcall d) mj (zoc mj) 0 (zpad (zmx mj) (zarg args)) [] S else none
noncomputable def zri (d mi oc pc : Nat) (ls : ZL) (st : List ZV) (S : ZS) : Option (Int32 × ZS) := (zrun (zcall d) mi oc pc ls st S).bind zoi
noncomputable def zrl (d mi oc pc : Nat) (ls : ZL) (st : List ZV) (S : ZS) : Option (Int64 × ZS) := (zrun (zcall d) mi oc pc ls st S).bind zol
noncomputable def zro (d mi oc pc : Nat) (ls : ZL) (st : List ZV) (S : ZS) : Option (Option ZR × ZS) := (zrun (zcall d) mi oc pc ls st S).bind zoo
noncomputable def zrv (d mi oc pc : Nat) (ls : ZL) (st : List ZV) (S : ZS) : Option ZS := (zrun (zcall d) mi oc pc ls st S).bind zov
section NAT
variable {α β : Type} (g : α → Option β)
theorem zpi_b (st : List ZV) (k : Int32 → List ZV → Option α) : (zpi st k).bind g = zpi st (fun x r => (k x r).bind g) := by unfold zpi; split <;> rfl
theorem zpl_b (st : List ZV) (k : Int64 → List ZV → Option α) : (zpl st k).bind g = zpl st (fun x r => (k x r).bind g) := by unfold zpl; split <;> rfl
theorem zpo_b (st : List ZV) (k : Option ZR → List ZV → Option α) : (zpo st k).bind g = zpo st (fun x r => (k x r).bind g) := by unfold zpo; split <;> rfl
theorem zpr_b (st : List ZV) (k : Nat → Nat → List ZV → Option α) : (zpr st k).bind g = zpr st (fun x i r => (k x i r).bind g) := by unfold zpr; split <;> rfl
theorem zli_b (n : Nat) (ls : ZL) (k : Int32 → Option α) : (zli n ls k).bind g = zli n ls (fun x => (k x).bind g) := by unfold zli; split <;> rfl
theorem zlo_b (n : Nat) (ls : ZL) (k : Option ZR → Option α) : (zlo n ls k).bind g = zlo n ls (fun x => (k x).bind g) := by unfold zlo; split <;> rfl
theorem zob_b {γ : Type} (o : Option γ) (k : γ → Option α) : (zob o k).bind g = zob o (fun x => (k x).bind g) := by unfold zob; split <;> rfl
theorem zel_b {γ : Type} (o : Option γ) (k : γ → Option α) (n : Option α) : (zel o k n).bind g = zel o (fun x => (k x).bind g) (n.bind g) := by unfold zel; split <;> rfl
theorem zder_b (o : Option ZR) (t : Nat) (k : Nat → Option α) : (zder o t k).bind g = zder o t (fun i => (k i).bind g) := by
  unfold zder
  split
  · rename_i t' i
    cases Nat.beq t' t <;> rfl
  · rfl
theorem zg_b (b : Bool) (k : Option α) : (zg b k).bind g = zg b (k.bind g) := by
  cases b
  · rw [zg_f rfl, zg_f rfl]; rfl
  · rw [zg_t rfl, zg_t rfl]
theorem zgb_b (x : Int32) (k : Option α) : (zgb x k).bind g = zgb x (k.bind g) := by
  unfold zgb
  cases zbl x <;> rfl
theorem zcm_b (o : Option ZR) (k : Option α) : (zcm o k).bind g = zcm o (k.bind g) := by
  unfold zcm
  cases zcmb o <;> rfl
theorem zif_b (c : Prop) [Decidable c] (a b : Option α) : (if c then a else b).bind g = if c then a.bind g else b.bind g := by split <;> rfl
theorem zif_c (c : Prop) (a b : Option α) : (zif c a b).bind g = zif c (a.bind g) (b.bind g) := by
  by_cases h : c
  · rw [zif_pos h, zif_pos h]
  · rw [zif_neg h, zif_neg h]
theorem zcd_b (c : Bool) (a b : Option α) : (bif c then a else b).bind g = bif c then a.bind g else b.bind g := by cases c <;> rfl
theorem zsw_b (x : Int32) (k : Nat → Option α) (df : Nat) : ∀ (ts : List Nat) (lo : Int), (zsw x k df ts lo).bind g = zsw x (fun p => (k p).bind g) df ts lo
  | [], _ => rfl
  | t :: ts, lo => by
    simp only [zsw]
    rw [zif_c, zsw_b x k df ts]
theorem zbb {γ : Type} (o : Option γ) (k : γ → Option α) : (o.bind k).bind g = o.bind (fun x => (k x).bind g) := by cases o <;> rfl
theorem zcal_b (cl : Nat → List ZV → ZS → Option ZX) (oc n : Nat) (st : List ZV) (S : ZS) (k : List ZV → ZS → Option α) : (zcal cl oc n st S k).bind g = zcal cl oc n st S (fun st' S' => (k st' S').bind g) := by
  unfold zcal
  rw [zob_b]
  congr 1; funext q
  rw [zob_b]
  congr 1; funext w
  rw [zcd_b]
  congr 1
  split <;> rw [zbb]
end NAT
set_option maxRecDepth 100000 in
set_option maxHeartbeats 4000000 in
theorem zgo_b {α β : Type} (g : α → Option β) (cl : Nat → List ZV → ZS → Option ZX) (mi oc : Nat) (κ : Nat → ZL → List ZV → ZS → Option α) (ρ : Option ZV → ZS → Option α) : ∀ (j : Nat) (b : Bool) (pc : Nat) (ls : ZL) (st : List ZV) (S : ZS),
    (zgo cl mi oc κ ρ j b pc ls st S).bind g = zgo cl mi oc (fun pc ls st S => (κ pc ls st S).bind g) (fun v S => (ρ v S).bind g) j b pc ls st S
  | 0, _, _, _, _, _ => rfl
  | j + 1, b, pc, ls, st, S => by
    have ih := zgo_b g cl mi oc κ ρ j
    unfold zgo
    rw [zel_b, zob_b]
    congr 2; funext c
    obtain ⟨ins, len⟩ := c
    cases ins
    case ifCond c o => cases c <;> simp only [zpi_b, zif_c, ih]
    case if_icmp c o => cases c <;> simp only [zpi_b, zif_c, ih]
    case if_acmp c o => cases c <;> simp only [zpo_b, zcm_b, zif_c, ih]
    case getfield n =>
      simp only [zob_b, zpo_b, zder_b]
      congr 1; funext q; congr 1; funext o r; congr 1; funext i
      split <;> exact ih _ _ _ _ _
    case putfield n =>
      simp only [zob_b]
      congr 1; funext q
      split <;> simp only [zpi_b, zpl_b, zpo_b, zder_b, zg_b, ih, Option.bind_none]
    case new n => simp only [zcd_b, zli_b, zlo_b, zder_b, ih, Option.bind_none]
    all_goals simp only [zgb_b, zpi_b, zpl_b, zpo_b, zpr_b, zob_b, zder_b, zg_b, zif_c, zcd_b, zsw_b, zcal_b, ih, Option.bind_none]
theorem zrun_eq (cl : Nat → List ZV → ZS → Option ZX) (mi oc pc : Nat) (ls : ZL) (st : List ZV) (S : ZS) : zrun cl mi oc pc ls st S = zgo cl mi oc (zrun cl mi oc) (fun v S => some (v, S)) 3000 false pc ls st S := by
  unfold zrun
  rw [zfix_eq]
  unfold zP
  rw [zgo_b]
  rfl
theorem zeqi (d mi oc pc : Nat) (ls : ZL) (st : List ZV) (S : ZS) : zri d mi oc pc ls st S = zgo (zcall d) mi oc (zri d mi oc) (fun v S => zoi (v, S)) 3000 false pc ls st S := by
  unfold zri
  rw [zrun_eq, zgo_b]
  rfl
theorem zeql (d mi oc pc : Nat) (ls : ZL) (st : List ZV) (S : ZS) : zrl d mi oc pc ls st S = zgo (zcall d) mi oc (zrl d mi oc) (fun v S => zol (v, S)) 3000 false pc ls st S := by
  unfold zrl
  rw [zrun_eq, zgo_b]
  rfl
theorem zeqo (d mi oc pc : Nat) (ls : ZL) (st : List ZV) (S : ZS) : zro d mi oc pc ls st S = zgo (zcall d) mi oc (zro d mi oc) (fun v S => zoo (v, S)) 3000 false pc ls st S := by
  unfold zro
  rw [zrun_eq, zgo_b]
  rfl
theorem zeqv (d mi oc pc : Nat) (ls : ZL) (st : List ZV) (S : ZS) : zrv d mi oc pc ls st S = zgo (zcall d) mi oc (zrv d mi oc) (fun v S => zov (v, S)) 3000 false pc ls st S := by
  unfold zrv
  rw [zrun_eq, zgo_b]
  rfl
end
section
/-! FACTS of the tables, written by a program (wip/whole/gen/facts.py) -/
theorem zsp {P : Nat → Prop} {a c : Nat} (b : Nat) (h1 : ∀ i, a ≤ i → i < b → P i) (h2 : ∀ i, b ≤ i → i < c → P i) : ∀ i, a ≤ i → i < c → P i := fun i ha hc => (Nat.lt_or_ge i b).elim (h1 i ha) (fun h => h2 i h hc)
theorem zon {P : Nat → Prop} {a : Nat} (h : P a) : ∀ i, a ≤ i → i < a + 1 → P i := fun i h1 h2 => by
  have e : i = a := Nat.le_antisymm (Nat.lt_succ_iff.mp h2) h1
  rw [e]; exact h
def zTW : u_T := fun k => match k with
  | 0 => ("TownExchange$Word", "text", "Ljava/lang/String;", true)
  | _ => ("TownExchange$Word", "value", "I", true)
def zTWt : Nat → FieldType := fun k => match k with
  | 0 => .object "java/lang/String"
  | _ => .int
def zcn (t : Nat) : String := (zH t 6 (zH t 3 (zH t 1 (zE t 0 RX0 "") (zH t 2 (zE t 1 RX1 "") (zE t 2 RX2 ""))) (zH t 4 (zE t 3 RX3 "") (zH t 5 (zE t 4 RX4 "") (zE t 5 RX5 "")))) (zH t 9 (zH t 7 (zE t 6 RX6 "") (zH t 8 (zE t 7 RX7 "") (zE t 8 RX8 ""))) (zH t 11 (zH t 10 (zE t 9 RX9 "") (zE t 10 RX11 "")) (zH t 12 (zE t 11 RX12 "") (zE t 12 RX10 "")))))
def zcT (t : Nat) : u_T := (zH t 6 (zH t 3 (zH t 1 (zE t 0 TX0 TX0) (zH t 2 (zE t 1 TX1 TX0) (zE t 2 TX2 TX0))) (zH t 4 (zE t 3 TX3 TX0) (zH t 5 (zE t 4 TX4 TX0) (zE t 5 TX5 TX0)))) (zH t 9 (zH t 7 (zE t 6 TX6 TX0) (zH t 8 (zE t 7 TX7 TX0) (zE t 8 TX8 TX0))) (zH t 11 (zH t 10 (zE t 9 TX9 TX0) (zE t 10 TX11 TX0)) (zH t 12 (zE t 11 TX12 TX0) (zE t 12 zTW TX0)))))
def zcN (t : Nat) : Nat := (zH t 6 (zH t 3 (zH t 1 (zE t 0 4 0) (zH t 2 (zE t 1 9 0) (zE t 2 12 0))) (zH t 4 (zE t 3 4 0) (zH t 5 (zE t 4 9 0) (zE t 5 6 0)))) (zH t 9 (zH t 7 (zE t 6 6 0) (zH t 8 (zE t 7 13 0) (zE t 8 11 0))) (zH t 11 (zH t 10 (zE t 9 5 0) (zE t 10 10 0)) (zH t 12 (zE t 11 82 0) (zE t 12 2 0)))))
def zcty (t : Nat) : Nat → FieldType := (zH t 6 (zH t 3 (zH t 1 (zE t 0 tyX0 tyX0) (zH t 2 (zE t 1 tyX1 tyX0) (zE t 2 tyX2 tyX0))) (zH t 4 (zE t 3 tyX3 tyX0) (zH t 5 (zE t 4 tyX4 tyX0) (zE t 5 tyX5 tyX0)))) (zH t 9 (zH t 7 (zE t 6 tyX6 tyX0) (zH t 8 (zE t 7 tyX7 tyX0) (zE t 8 tyX8 tyX0))) (zH t 11 (zH t 10 (zE t 9 tyX9 tyX0) (zE t 10 tyX11 tyX0)) (zH t 12 (zE t 11 tyX12 tyX0) (zE t 12 zTWt tyX0)))))
theorem zCl_at : ∀ t, 0 ≤ t → t < 12 → vwCl[t]? = some (zcn t, zcT t, zcN t) := (zsp 6 (zsp 3 (zsp 1 (zon (a := 0) rfl) (zsp 2 (zon (a := 1) rfl) (zon (a := 2) rfl))) (zsp 4 (zon (a := 3) rfl) (zsp 5 (zon (a := 4) rfl) (zon (a := 5) rfl)))) (zsp 9 (zsp 7 (zon (a := 6) rfl) (zsp 8 (zon (a := 7) rfl) (zon (a := 8) rfl))) (zsp 10 (zon (a := 9) rfl) (zsp 11 (zon (a := 10) rfl) (zon (a := 11) rfl)))))
theorem zTW_nm : ∀ a, a < 2 → ∀ b, b < 2 → a ≠ b → (zTW a).2.1 ≠ (zTW b).2.1 := by decide +kernel
theorem zTW_ok : ∀ k, k < 2 → parseFieldDescriptor (zTW k).2.2.1 = some (zTWt k) := by decide +kernel
theorem zcl_nm : ∀ t, 0 ≤ t → t < 12 → ∀ a, a < zcN t → ∀ b, b < zcN t → a ≠ b → (zcT t a).2.1 ≠ (zcT t b).2.1 := (zsp 6 (zsp 3 (zsp 1 (zon (a := 0) nmX0) (zsp 2 (zon (a := 1) nmX1) (zon (a := 2) nmX2))) (zsp 4 (zon (a := 3) nmX3) (zsp 5 (zon (a := 4) nmX4) (zon (a := 5) nmX5)))) (zsp 9 (zsp 7 (zon (a := 6) nmX6) (zsp 8 (zon (a := 7) nmX7) (zon (a := 8) nmX8))) (zsp 10 (zon (a := 9) nmX9) (zsp 11 (zon (a := 10) nmX11) (zon (a := 11) nmX12)))))
theorem zcl_ty : ∀ t, 0 ≤ t → t < 12 → ∀ k, k < zcN t → parseFieldDescriptor (zcT t k).2.2.1 = some (zcty t k) := (zsp 6 (zsp 3 (zsp 1 (zon (a := 0) tyX0_ok) (zsp 2 (zon (a := 1) tyX1_ok) (zon (a := 2) tyX2_ok))) (zsp 4 (zon (a := 3) tyX3_ok) (zsp 5 (zon (a := 4) tyX4_ok) (zon (a := 5) tyX5_ok)))) (zsp 9 (zsp 7 (zon (a := 6) tyX6_ok) (zsp 8 (zon (a := 7) tyX7_ok) (zon (a := 8) tyX8_ok))) (zsp 10 (zon (a := 9) tyX9_ok) (zsp 11 (zon (a := 10) tyX11_ok) (zon (a := 11) tyX12_ok)))))
def zgd : List Cond := lw_tbl.filter goodWord
def zisn (w : Cond) : Bool := match w with
  | .fieldLinkNest .. => true
  | .methodLinkNest .. => true
  | _ => false
def zns : List Cond := lw_tbl.filter zisn
theorem zns_of {w : Cond} {i : Nat} (h : lw_tbl[i]? = some w) (hg : zisn w = true) : w ∈ zns := List.mem_filter.mpr ⟨List.mem_of_getElem? h, hg⟩
theorem zgd_of {w : Cond} {i : Nat} (h : lw_tbl[i]? = some w) (hg : goodWord w = true) : w ∈ zgd := List.mem_filter.mpr ⟨List.mem_of_getElem? h, hg⟩
theorem zws_0 : ∀ w ∈ u_ws RX0 TX0 4, w ∈ zgd := by
  have h := goodIn_r (big := lw_tbl) (u_ws RX0 TX0 4) [185, 187, 189, 191] (by decide +kernel) (by decide +kernel)
  intro w hw
  have h2 : (u_ws RX0 TX0 4).all goodWord = true := by decide +kernel
  exact List.mem_filter.mpr ⟨(h w hw).1, List.all_eq_true.mp h2 w hw⟩
theorem zws_1 : ∀ w ∈ u_ws RX1 TX1 9, w ∈ zgd := by
  have h := goodIn_r (big := lw_tbl) (u_ws RX1 TX1 9) [324, 326, 328, 330, 332, 334, 336, 338, 340] (by decide +kernel) (by decide +kernel)
  intro w hw
  have h2 : (u_ws RX1 TX1 9).all goodWord = true := by decide +kernel
  exact List.mem_filter.mpr ⟨(h w hw).1, List.all_eq_true.mp h2 w hw⟩
theorem zws_2 : ∀ w ∈ u_ws RX2 TX2 12, w ∈ zgd := by
  have h := goodIn_r (big := lw_tbl) (u_ws RX2 TX2 12) [555, 557, 559, 561, 563, 565, 567, 569, 571, 573, 575, 577] (by decide +kernel) (by decide +kernel)
  intro w hw
  have h2 : (u_ws RX2 TX2 12).all goodWord = true := by decide +kernel
  exact List.mem_filter.mpr ⟨(h w hw).1, List.all_eq_true.mp h2 w hw⟩
theorem zws_3 : ∀ w ∈ u_ws RX3 TX3 4, w ∈ zgd := by
  have h := goodIn_r (big := lw_tbl) (u_ws RX3 TX3 4) [256, 258, 260, 262] (by decide +kernel) (by decide +kernel)
  intro w hw
  have h2 : (u_ws RX3 TX3 4).all goodWord = true := by decide +kernel
  exact List.mem_filter.mpr ⟨(h w hw).1, List.all_eq_true.mp h2 w hw⟩
theorem zws_4 : ∀ w ∈ u_ws RX4 TX4 9, w ∈ zgd := by
  have h := goodIn_r (big := lw_tbl) (u_ws RX4 TX4 9) [147, 149, 151, 153, 155, 157, 159, 161, 163] (by decide +kernel) (by decide +kernel)
  intro w hw
  have h2 : (u_ws RX4 TX4 9).all goodWord = true := by decide +kernel
  exact List.mem_filter.mpr ⟨(h w hw).1, List.all_eq_true.mp h2 w hw⟩
theorem zws_5 : ∀ w ∈ u_ws RX5 TX5 6, w ∈ zgd := by
  have h := goodIn_r (big := lw_tbl) (u_ws RX5 TX5 6) [233, 235, 237, 239, 241, 243] (by decide +kernel) (by decide +kernel)
  intro w hw
  have h2 : (u_ws RX5 TX5 6).all goodWord = true := by decide +kernel
  exact List.mem_filter.mpr ⟨(h w hw).1, List.all_eq_true.mp h2 w hw⟩
theorem zws_6 : ∀ w ∈ u_ws RX6 TX6 6, w ∈ zgd := by
  have h := goodIn_r (big := lw_tbl) (u_ws RX6 TX6 6) [357, 359, 361, 363, 365, 367] (by decide +kernel) (by decide +kernel)
  intro w hw
  have h2 : (u_ws RX6 TX6 6).all goodWord = true := by decide +kernel
  exact List.mem_filter.mpr ⟨(h w hw).1, List.all_eq_true.mp h2 w hw⟩
theorem zws_7 : ∀ w ∈ u_ws RX7 TX7 13, w ∈ zgd := by
  have h := goodIn_r (big := lw_tbl) (u_ws RX7 TX7 13) [392, 394, 396, 398, 400, 402, 404, 406, 408, 410, 412, 414, 416] (by decide +kernel) (by decide +kernel)
  intro w hw
  have h2 : (u_ws RX7 TX7 13).all goodWord = true := by decide +kernel
  exact List.mem_filter.mpr ⟨(h w hw).1, List.all_eq_true.mp h2 w hw⟩
theorem zws_8 : ∀ w ∈ u_ws RX8 TX8 11, w ∈ zgd := by
  have h := goodIn_r (big := lw_tbl) (u_ws RX8 TX8 11) [284, 286, 288, 290, 292, 294, 296, 298, 300, 302, 304] (by decide +kernel) (by decide +kernel)
  intro w hw
  have h2 : (u_ws RX8 TX8 11).all goodWord = true := by decide +kernel
  exact List.mem_filter.mpr ⟨(h w hw).1, List.all_eq_true.mp h2 w hw⟩
theorem zws_9 : ∀ w ∈ u_ws RX9 TX9 5, w ∈ zgd := by
  have h := goodIn_r (big := lw_tbl) (u_ws RX9 TX9 5) [215, 217, 219, 221, 223] (by decide +kernel) (by decide +kernel)
  intro w hw
  have h2 : (u_ws RX9 TX9 5).all goodWord = true := by decide +kernel
  exact List.mem_filter.mpr ⟨(h w hw).1, List.all_eq_true.mp h2 w hw⟩
theorem zws_10 : ∀ w ∈ u_ws RX11 TX11 10, w ∈ zgd := by
  have h := goodIn_r (big := lw_tbl) (u_ws RX11 TX11 10) [430, 432, 434, 436, 438, 440, 442, 444, 446, 448] (by decide +kernel) (by decide +kernel)
  intro w hw
  have h2 : (u_ws RX11 TX11 10).all goodWord = true := by decide +kernel
  exact List.mem_filter.mpr ⟨(h w hw).1, List.all_eq_true.mp h2 w hw⟩
theorem zws_11 : ∀ w ∈ u_ws RX12 TX12 82, w ∈ zgd := by
  have h := goodIn_r (big := lw_tbl) (u_ws RX12 TX12 82) [1384, 1386, 1388, 1390, 1392, 1394, 1396, 1398, 1400, 1402, 1404, 1406, 1408, 1410, 1412, 1414, 1416, 1418, 1420, 1422, 1424, 1426, 1428, 1430, 1432, 1434, 1436, 1438, 1440, 1442, 1444, 1446, 1448, 1450, 1452, 1454, 1456, 1458, 1460, 1462, 1464, 1466, 1468, 1470, 1472, 1474, 1476, 1478, 1480, 1482, 1484, 1486, 1488, 1490, 1492, 1494, 1496, 1498, 1500, 1502, 1504, 1506, 1508, 1510, 1512, 1514, 1516, 1518, 1520, 1522, 1524, 1526, 1528, 1530, 1532, 1534, 1536, 1538, 1540, 1542, 1544, 1546] (by decide +kernel) (by decide +kernel)
  intro w hw
  have h2 : (u_ws RX12 TX12 82).all goodWord = true := by decide +kernel
  exact List.mem_filter.mpr ⟨(h w hw).1, List.all_eq_true.mp h2 w hw⟩
theorem zcl_ws : ∀ t, 0 ≤ t → t < 12 → ∀ w ∈ u_ws (zcn t) (zcT t) (zcN t), w ∈ zgd := (zsp 6 (zsp 3 (zsp 1 (zon (a := 0) zws_0) (zsp 2 (zon (a := 1) zws_1) (zon (a := 2) zws_2))) (zsp 4 (zon (a := 3) zws_3) (zsp 5 (zon (a := 4) zws_4) (zon (a := 5) zws_5)))) (zsp 9 (zsp 7 (zon (a := 6) zws_6) (zsp 8 (zon (a := 7) zws_7) (zon (a := 8) zws_8))) (zsp 10 (zon (a := 9) zws_9) (zsp 11 (zon (a := 10) zws_10) (zon (a := 11) zws_11)))))
def zRn (oc : Nat) : String := (zH oc 7 (zH oc 3 (zH oc 1 (zE oc 0 RX0 "") (zH oc 2 (zE oc 1 RX1 "") (zE oc 2 RX2 ""))) (zH oc 5 (zH oc 4 (zE oc 3 RX3 "") (zE oc 4 RX4 "")) (zH oc 6 (zE oc 5 RX5 "") (zE oc 6 RX6 "")))) (zH oc 10 (zH oc 8 (zE oc 7 RX7 "") (zH oc 9 (zE oc 8 RX8 "") (zE oc 9 RX9 ""))) (zH oc 12 (zH oc 11 (zE oc 10 RX10 "") (zE oc 11 RX11 "")) (zH oc 13 (zE oc 12 RX12 "") (zE oc 13 RL "")))))
def zfkk (k : Nat) : Nat := (zH k 1287 (zH k 645 (zH k 264 (zH k 134 (zH k 129 (zH k 2 (zH k 1 (zE k 0 2 0) (zE k 1 2 0)) (zH k 3 (zE k 2 2 0) (zH k 128 (zE k 3 0 0) (zE k 128 0 0)))) (zH k 131 (zH k 130 (zE k 129 2 0) (zE k 130 2 0)) (zH k 132 (zE k 131 2 0) (zH k 133 (zE k 132 2 0) (zE k 133 0 0))))) (zH k 258 (zH k 136 (zH k 135 (zE k 134 2 0) (zE k 135 2 0)) (zH k 256 (zE k 136 2 0) (zH k 257 (zE k 256 0 0) (zE k 257 0 0)))) (zH k 261 (zH k 259 (zE k 258 0 0) (zH k 260 (zE k 259 0 0) (zE k 260 2 0))) (zH k 262 (zE k 261 0 0) (zH k 263 (zE k 262 0 0) (zE k 263 2 0)))))) (zH k 515 (zH k 385 (zH k 266 (zH k 265 (zE k 264 0 0) (zE k 265 0 0)) (zH k 267 (zE k 266 0 0) (zH k 384 (zE k 267 0 0) (zE k 384 2 0)))) (zH k 512 (zH k 386 (zE k 385 2 0) (zH k 387 (zE k 386 2 0) (zE k 387 0 0))) (zH k 513 (zE k 512 0 0) (zH k 514 (zE k 513 2 0) (zE k 514 2 0))))) (zH k 520 (zH k 517 (zH k 516 (zE k 515 2 0) (zE k 516 2 0)) (zH k 518 (zE k 517 2 0) (zH k 519 (zE k 518 2 0) (zE k 519 2 0)))) (zH k 642 (zH k 640 (zE k 520 2 0) (zH k 641 (zE k 640 2 0) (zE k 641 2 0))) (zH k 643 (zE k 642 2 0) (zH k 644 (zE k 643 2 0) (zE k 644 4 0))))))) (zH k 1025 (zH k 899 (zH k 772 (zH k 769 (zH k 768 (zE k 645 0 0) (zE k 768 2 0)) (zH k 770 (zE k 769 0 0) (zH k 771 (zE k 770 0 0) (zE k 771 0 0)))) (zH k 896 (zH k 773 (zE k 772 0 0) (zE k 773 3 0)) (zH k 897 (zE k 896 2 0) (zH k 898 (zE k 897 0 0) (zE k 898 0 0))))) (zH k 904 (zH k 901 (zH k 900 (zE k 899 2 0) (zE k 900 2 0)) (zH k 902 (zE k 901 2 0) (zH k 903 (zE k 902 2 0) (zE k 903 0 0)))) (zH k 907 (zH k 905 (zE k 904 0 0) (zH k 906 (zE k 905 2 0) (zE k 906 2 0))) (zH k 908 (zE k 907 2 0) (zH k 1024 (zE k 908 2 0) (zE k 1024 2 0)))))) (zH k 1153 (zH k 1030 (zH k 1027 (zH k 1026 (zE k 1025 0 0) (zE k 1026 2 0)) (zH k 1028 (zE k 1027 2 0) (zH k 1029 (zE k 1028 2 0) (zE k 1029 2 0)))) (zH k 1033 (zH k 1031 (zE k 1030 2 0) (zH k 1032 (zE k 1031 2 0) (zE k 1032 2 0))) (zH k 1034 (zE k 1033 0 0) (zH k 1152 (zE k 1034 2 0) (zE k 1152 0 0))))) (zH k 1281 (zH k 1155 (zH k 1154 (zE k 1153 0 0) (zE k 1154 0 0)) (zH k 1156 (zE k 1155 0 0) (zH k 1280 (zE k 1156 2 0) (zE k 1280 2 0)))) (zH k 1284 (zH k 1282 (zE k 1281 2 0) (zH k 1283 (zE k 1282 2 0) (zE k 1283 2 0))) (zH k 1285 (zE k 1284 2 0) (zH k 1286 (zE k 1285 2 0) (zE k 1286 2 0)))))))) (zH k 1448 (zH k 1426 (zH k 1415 (zH k 1410 (zH k 1289 (zH k 1288 (zE k 1287 3 0) (zE k 1288 3 0)) (zH k 1408 (zE k 1289 0 0) (zH k 1409 (zE k 1408 0 0) (zE k 1409 0 0)))) (zH k 1412 (zH k 1411 (zE k 1410 0 0) (zE k 1411 2 0)) (zH k 1413 (zE k 1412 2 0) (zH k 1414 (zE k 1413 2 0) (zE k 1414 2 0))))) (zH k 1420 (zH k 1417 (zH k 1416 (zE k 1415 2 0) (zE k 1416 2 0)) (zH k 1418 (zE k 1417 2 0) (zH k 1419 (zE k 1418 2 0) (zE k 1419 0 0)))) (zH k 1423 (zH k 1421 (zE k 1420 2 0) (zH k 1422 (zE k 1421 2 0) (zE k 1422 2 0))) (zH k 1424 (zE k 1423 2 0) (zH k 1425 (zE k 1424 2 0) (zE k 1425 2 0)))))) (zH k 1437 (zH k 1431 (zH k 1428 (zH k 1427 (zE k 1426 2 0) (zE k 1427 2 0)) (zH k 1429 (zE k 1428 2 0) (zH k 1430 (zE k 1429 2 0) (zE k 1430 2 0)))) (zH k 1434 (zH k 1432 (zE k 1431 2 0) (zH k 1433 (zE k 1432 2 0) (zE k 1433 2 0))) (zH k 1435 (zE k 1434 2 0) (zH k 1436 (zE k 1435 0 0) (zE k 1436 2 0))))) (zH k 1442 (zH k 1439 (zH k 1438 (zE k 1437 2 0) (zE k 1438 2 0)) (zH k 1440 (zE k 1439 2 0) (zH k 1441 (zE k 1440 0 0) (zE k 1441 2 0)))) (zH k 1445 (zH k 1443 (zE k 1442 2 0) (zH k 1444 (zE k 1443 2 0) (zE k 1444 0 0))) (zH k 1446 (zE k 1445 2 0) (zH k 1447 (zE k 1446 0 0) (zE k 1447 0 0))))))) (zH k 1470 (zH k 1459 (zH k 1453 (zH k 1450 (zH k 1449 (zE k 1448 0 0) (zE k 1449 0 0)) (zH k 1451 (zE k 1450 1 0) (zH k 1452 (zE k 1451 0 0) (zE k 1452 0 0)))) (zH k 1456 (zH k 1454 (zE k 1453 2 0) (zH k 1455 (zE k 1454 2 0) (zE k 1455 2 0))) (zH k 1457 (zE k 1456 2 0) (zH k 1458 (zE k 1457 2 0) (zE k 1458 2 0))))) (zH k 1464 (zH k 1461 (zH k 1460 (zE k 1459 2 0) (zE k 1460 2 0)) (zH k 1462 (zE k 1461 2 0) (zH k 1463 (zE k 1462 0 0) (zE k 1463 2 0)))) (zH k 1467 (zH k 1465 (zE k 1464 2 0) (zH k 1466 (zE k 1465 2 0) (zE k 1466 2 0))) (zH k 1468 (zE k 1467 2 0) (zH k 1469 (zE k 1468 2 0) (zE k 1469 2 0)))))) (zH k 1481 (zH k 1475 (zH k 1472 (zH k 1471 (zE k 1470 2 0) (zE k 1471 2 0)) (zH k 1473 (zE k 1472 2 0) (zH k 1474 (zE k 1473 2 0) (zE k 1474 2 0)))) (zH k 1478 (zH k 1476 (zE k 1475 2 0) (zH k 1477 (zE k 1476 0 0) (zE k 1477 2 0))) (zH k 1479 (zE k 1478 2 0) (zH k 1480 (zE k 1479 2 0) (zE k 1480 0 0))))) (zH k 1486 (zH k 1483 (zH k 1482 (zE k 1481 2 0) (zE k 1482 2 0)) (zH k 1484 (zE k 1483 0 0) (zH k 1485 (zE k 1484 2 0) (zE k 1485 2 0)))) (zH k 1489 (zH k 1487 (zE k 1486 2 0) (zH k 1488 (zE k 1487 2 0) (zE k 1488 2 0))) (zH k 1536 (zE k 1489 0 0) (zH k 1537 (zE k 1536 2 0) (zE k 1537 5 0)))))))))
def zfkd (t f : Nat) : Nat := zfkk (t * 128 + f)
def zftyk (k : Nat) (ty : FieldType) : Bool := match k with
  | 0 => decide (ty = .int)
  | 1 => decide (ty = .long)
  | 3 => match ty with | .object _ => true | _ => false
  | 4 => decide (ty = .boolean)
  | _ => true
/-- how many there are of a tag -/
def zct (n t : Nat) : Nat := (zH t 62 (zH t 32 (zH t 15 (zH t 7 (zH t 3 (zH t 1 (zE t 0 1 0) (zH t 2 (zE t 1 1 0) (zE t 2 n 0))) (zH t 5 (zH t 4 (zE t 3 1 0) (zE t 4 1 0)) (zH t 6 (zE t 5 1 0) (zE t 6 1 0)))) (zH t 11 (zH t 9 (zH t 8 (zE t 7 2 0) (zE t 8 1 0)) (zH t 10 (zE t 9 2 0) (zE t 10 1 0))) (zH t 13 (zH t 12 (zE t 11 1 0) (zE t 12 13 0)) (zH t 14 (zE t 13 14 0) (zE t 14 1 0))))) (zH t 24 (zH t 20 (zH t 16 (zE t 15 1 0) (zH t 17 (zE t 16 1 0) (zE t 17 1 0))) (zH t 22 (zH t 21 (zE t 20 1 0) (zE t 21 1 0)) (zH t 23 (zE t 22 1 0) (zE t 23 1 0)))) (zH t 28 (zH t 26 (zH t 25 (zE t 24 1 0) (zE t 25 1 0)) (zH t 27 (zE t 26 1 0) (zE t 27 1 0))) (zH t 30 (zH t 29 (zE t 28 1 0) (zE t 29 n 0)) (zH t 31 (zE t 30 n 0) (zE t 31 1 0)))))) (zH t 47 (zH t 39 (zH t 35 (zH t 33 (zE t 32 1 0) (zH t 34 (zE t 33 1 0) (zE t 34 1 0))) (zH t 37 (zH t 36 (zE t 35 1 0) (zE t 36 1 0)) (zH t 38 (zE t 37 1 0) (zE t 38 1 0)))) (zH t 43 (zH t 41 (zH t 40 (zE t 39 1 0) (zE t 40 1 0)) (zH t 42 (zE t 41 1 0) (zE t 42 2 0))) (zH t 45 (zH t 44 (zE t 43 2 0) (zE t 44 2 0)) (zH t 46 (zE t 45 2 0) (zE t 46 2 0))))) (zH t 54 (zH t 50 (zH t 48 (zE t 47 2 0) (zH t 49 (zE t 48 2 0) (zE t 49 2 0))) (zH t 52 (zH t 51 (zE t 50 1 0) (zE t 51 1 0)) (zH t 53 (zE t 52 1 0) (zE t 53 1 0)))) (zH t 58 (zH t 56 (zH t 55 (zE t 54 1 0) (zE t 55 1 0)) (zH t 57 (zE t 56 1 0) (zE t 57 1 0))) (zH t 60 (zH t 59 (zE t 58 2 0) (zE t 59 1 0)) (zH t 61 (zE t 60 1 0) (zE t 61 1 0))))))) (zH t 92 (zH t 77 (zH t 69 (zH t 65 (zH t 63 (zE t 62 1 0) (zH t 64 (zE t 63 1 0) (zE t 64 1 0))) (zH t 67 (zH t 66 (zE t 65 1 0) (zE t 66 1 0)) (zH t 68 (zE t 67 1 0) (zE t 68 1 0)))) (zH t 73 (zH t 71 (zH t 70 (zE t 69 1 0) (zE t 70 1 0)) (zH t 72 (zE t 71 1 0) (zE t 72 1 0))) (zH t 75 (zH t 74 (zE t 73 1 0) (zE t 74 1 0)) (zH t 76 (zE t 75 1 0) (zE t 76 1 0))))) (zH t 84 (zH t 80 (zH t 78 (zE t 77 1 0) (zH t 79 (zE t 78 1 0) (zE t 79 1 0))) (zH t 82 (zH t 81 (zE t 80 1 0) (zE t 81 1 0)) (zH t 83 (zE t 82 1 0) (zE t 83 1 0)))) (zH t 88 (zH t 86 (zH t 85 (zE t 84 1 0) (zE t 85 1 0)) (zH t 87 (zE t 86 1 0) (zE t 87 1 0))) (zH t 90 (zH t 89 (zE t 88 1 0) (zE t 89 1 0)) (zH t 91 (zE t 90 1 0) (zE t 91 1 0)))))) (zH t 107 (zH t 99 (zH t 95 (zH t 93 (zE t 92 1 0) (zH t 94 (zE t 93 1 0) (zE t 94 1 0))) (zH t 97 (zH t 96 (zE t 95 1 0) (zE t 96 1 0)) (zH t 98 (zE t 97 1 0) (zE t 98 1 0)))) (zH t 103 (zH t 101 (zH t 100 (zE t 99 1 0) (zE t 100 1 0)) (zH t 102 (zE t 101 1 0) (zE t 102 1 0))) (zH t 105 (zH t 104 (zE t 103 1 0) (zE t 104 1 0)) (zH t 106 (zE t 105 1 0) (zE t 106 1 0))))) (zH t 114 (zH t 110 (zH t 108 (zE t 107 1 0) (zH t 109 (zE t 108 1 0) (zE t 109 1 0))) (zH t 112 (zH t 111 (zE t 110 1 0) (zE t 111 1 0)) (zH t 113 (zE t 112 1 0) (zE t 113 1 0)))) (zH t 118 (zH t 116 (zH t 115 (zE t 114 1 0) (zE t 115 1 0)) (zH t 117 (zE t 116 1 0) (zE t 117 1 0))) (zH t 120 (zH t 119 (zE t 118 1 0) (zE t 119 1 0)) (zH t 121 (zE t 120 1 0) (zE t 121 1 0))))))))
def zbase : List (Nat × Nat) := [(0, 0), (1, 0), (3, 0), (4, 0), (5, 0), (6, 0), (7, 0), (7, 1), (8, 0), (9, 0), (9, 1), (10, 0), (11, 0), (17, 0), (20, 0), (21, 0), (22, 0), (23, 0), (24, 0), (25, 0), (26, 0), (27, 0), (28, 0), (31, 0), (32, 0), (33, 0), (34, 0), (35, 0), (36, 0), (37, 0), (38, 0), (39, 0), (40, 0), (41, 0), (42, 0), (42, 1), (43, 0), (43, 1), (44, 0), (44, 1), (45, 0), (45, 1), (46, 0), (46, 1), (47, 0), (47, 1), (48, 0), (48, 1), (49, 0), (49, 1), (50, 0), (51, 0), (52, 0), (53, 0), (54, 0), (55, 0), (56, 0), (57, 0), (58, 0), (58, 1), (59, 0), (60, 0), (61, 0), (62, 0), (63, 0), (64, 0), (65, 0), (66, 0), (67, 0), (68, 0), (69, 0), (70, 0), (71, 0), (72, 0), (73, 0), (74, 0), (75, 0), (76, 0), (77, 0), (78, 0), (79, 0), (80, 0), (81, 0), (82, 0), (83, 0), (84, 0), (85, 0), (86, 0), (87, 0), (88, 0), (89, 0), (90, 0), (91, 0), (92, 0), (93, 0), (94, 0), (95, 0), (96, 0), (97, 0), (98, 0), (99, 0), (100, 0), (101, 0), (102, 0), (103, 0), (104, 0), (105, 0), (106, 0), (107, 0), (108, 0), (109, 0), (110, 0), (111, 0), (112, 0), (113, 0), (114, 0), (115, 0), (116, 0), (117, 0), (118, 0), (119, 0), (120, 0), (121, 0)]
def zwt (t : Nat) : Bool := Nat.blt t 12 || Nat.ble 17 t
def zlids : Nat → List (Nat × Nat)
  | 0 => []
  | n + 1 => zlids n ++ [(2, n), (29, n), (30, n)]
def zids (n : Nat) : List (Nat × Nat) := zbase ++ zlids n
def zMT : Nat := 122
theorem zct_big : ∀ n t, 122 ≤ t → zct n t = 0 := by
  intro n t h
  have hb : ∀ k : Nat, k < 122 → Nat.blt t k = false := fun k hk => by
    cases hx : Nat.blt t k with
    | false => rfl
    | true => have := Nat.blt_eq.mp hx; omega
  have he : ∀ k : Nat, k < 122 → Nat.beq t k = false := fun k hk => by
    cases hx : Nat.beq t k with
    | false => rfl
    | true => have := Nat.eq_of_beq_eq_true hx; omega
  unfold zct zH zE
  simp only [hb, he, cond_false, Nat.reduceLT]
theorem zbase_all : ∀ t, t < 122 → t = 2 ∨ t = 29 ∨ t = 30 ∨ zwt t = false ∨ ∀ i, i < zct 0 t → (t, i) ∈ zbase := by decide +kernel
theorem zct_n0 (n : Nat) : ∀ t, 0 ≤ t → t < 122 → t = 2 ∨ t = 29 ∨ t = 30 ∨ zct n t = zct 0 t := (zsp 61 (zsp 30 (zsp 15 (zsp 7 (zsp 3 (zsp 1 (zon (a := 0) (Or.inr (Or.inr (Or.inr rfl)))) (zsp 2 (zon (a := 1) (Or.inr (Or.inr (Or.inr rfl)))) (zon (a := 2) (Or.inl rfl)))) (zsp 5 (zsp 4 (zon (a := 3) (Or.inr (Or.inr (Or.inr rfl)))) (zon (a := 4) (Or.inr (Or.inr (Or.inr rfl))))) (zsp 6 (zon (a := 5) (Or.inr (Or.inr (Or.inr rfl)))) (zon (a := 6) (Or.inr (Or.inr (Or.inr rfl))))))) (zsp 11 (zsp 9 (zsp 8 (zon (a := 7) (Or.inr (Or.inr (Or.inr rfl)))) (zon (a := 8) (Or.inr (Or.inr (Or.inr rfl))))) (zsp 10 (zon (a := 9) (Or.inr (Or.inr (Or.inr rfl)))) (zon (a := 10) (Or.inr (Or.inr (Or.inr rfl)))))) (zsp 13 (zsp 12 (zon (a := 11) (Or.inr (Or.inr (Or.inr rfl)))) (zon (a := 12) (Or.inr (Or.inr (Or.inr rfl))))) (zsp 14 (zon (a := 13) (Or.inr (Or.inr (Or.inr rfl)))) (zon (a := 14) (Or.inr (Or.inr (Or.inr rfl)))))))) (zsp 22 (zsp 18 (zsp 16 (zon (a := 15) (Or.inr (Or.inr (Or.inr rfl)))) (zsp 17 (zon (a := 16) (Or.inr (Or.inr (Or.inr rfl)))) (zon (a := 17) (Or.inr (Or.inr (Or.inr rfl)))))) (zsp 20 (zsp 19 (zon (a := 18) (Or.inr (Or.inr (Or.inr rfl)))) (zon (a := 19) (Or.inr (Or.inr (Or.inr rfl))))) (zsp 21 (zon (a := 20) (Or.inr (Or.inr (Or.inr rfl)))) (zon (a := 21) (Or.inr (Or.inr (Or.inr rfl))))))) (zsp 26 (zsp 24 (zsp 23 (zon (a := 22) (Or.inr (Or.inr (Or.inr rfl)))) (zon (a := 23) (Or.inr (Or.inr (Or.inr rfl))))) (zsp 25 (zon (a := 24) (Or.inr (Or.inr (Or.inr rfl)))) (zon (a := 25) (Or.inr (Or.inr (Or.inr rfl)))))) (zsp 28 (zsp 27 (zon (a := 26) (Or.inr (Or.inr (Or.inr rfl)))) (zon (a := 27) (Or.inr (Or.inr (Or.inr rfl))))) (zsp 29 (zon (a := 28) (Or.inr (Or.inr (Or.inr rfl)))) (zon (a := 29) (Or.inr (Or.inl rfl)))))))) (zsp 45 (zsp 37 (zsp 33 (zsp 31 (zon (a := 30) (Or.inr (Or.inr (Or.inl rfl)))) (zsp 32 (zon (a := 31) (Or.inr (Or.inr (Or.inr rfl)))) (zon (a := 32) (Or.inr (Or.inr (Or.inr rfl)))))) (zsp 35 (zsp 34 (zon (a := 33) (Or.inr (Or.inr (Or.inr rfl)))) (zon (a := 34) (Or.inr (Or.inr (Or.inr rfl))))) (zsp 36 (zon (a := 35) (Or.inr (Or.inr (Or.inr rfl)))) (zon (a := 36) (Or.inr (Or.inr (Or.inr rfl))))))) (zsp 41 (zsp 39 (zsp 38 (zon (a := 37) (Or.inr (Or.inr (Or.inr rfl)))) (zon (a := 38) (Or.inr (Or.inr (Or.inr rfl))))) (zsp 40 (zon (a := 39) (Or.inr (Or.inr (Or.inr rfl)))) (zon (a := 40) (Or.inr (Or.inr (Or.inr rfl)))))) (zsp 43 (zsp 42 (zon (a := 41) (Or.inr (Or.inr (Or.inr rfl)))) (zon (a := 42) (Or.inr (Or.inr (Or.inr rfl))))) (zsp 44 (zon (a := 43) (Or.inr (Or.inr (Or.inr rfl)))) (zon (a := 44) (Or.inr (Or.inr (Or.inr rfl)))))))) (zsp 53 (zsp 49 (zsp 47 (zsp 46 (zon (a := 45) (Or.inr (Or.inr (Or.inr rfl)))) (zon (a := 46) (Or.inr (Or.inr (Or.inr rfl))))) (zsp 48 (zon (a := 47) (Or.inr (Or.inr (Or.inr rfl)))) (zon (a := 48) (Or.inr (Or.inr (Or.inr rfl)))))) (zsp 51 (zsp 50 (zon (a := 49) (Or.inr (Or.inr (Or.inr rfl)))) (zon (a := 50) (Or.inr (Or.inr (Or.inr rfl))))) (zsp 52 (zon (a := 51) (Or.inr (Or.inr (Or.inr rfl)))) (zon (a := 52) (Or.inr (Or.inr (Or.inr rfl))))))) (zsp 57 (zsp 55 (zsp 54 (zon (a := 53) (Or.inr (Or.inr (Or.inr rfl)))) (zon (a := 54) (Or.inr (Or.inr (Or.inr rfl))))) (zsp 56 (zon (a := 55) (Or.inr (Or.inr (Or.inr rfl)))) (zon (a := 56) (Or.inr (Or.inr (Or.inr rfl)))))) (zsp 59 (zsp 58 (zon (a := 57) (Or.inr (Or.inr (Or.inr rfl)))) (zon (a := 58) (Or.inr (Or.inr (Or.inr rfl))))) (zsp 60 (zon (a := 59) (Or.inr (Or.inr (Or.inr rfl)))) (zon (a := 60) (Or.inr (Or.inr (Or.inr rfl)))))))))) (zsp 91 (zsp 76 (zsp 68 (zsp 64 (zsp 62 (zon (a := 61) (Or.inr (Or.inr (Or.inr rfl)))) (zsp 63 (zon (a := 62) (Or.inr (Or.inr (Or.inr rfl)))) (zon (a := 63) (Or.inr (Or.inr (Or.inr rfl)))))) (zsp 66 (zsp 65 (zon (a := 64) (Or.inr (Or.inr (Or.inr rfl)))) (zon (a := 65) (Or.inr (Or.inr (Or.inr rfl))))) (zsp 67 (zon (a := 66) (Or.inr (Or.inr (Or.inr rfl)))) (zon (a := 67) (Or.inr (Or.inr (Or.inr rfl))))))) (zsp 72 (zsp 70 (zsp 69 (zon (a := 68) (Or.inr (Or.inr (Or.inr rfl)))) (zon (a := 69) (Or.inr (Or.inr (Or.inr rfl))))) (zsp 71 (zon (a := 70) (Or.inr (Or.inr (Or.inr rfl)))) (zon (a := 71) (Or.inr (Or.inr (Or.inr rfl)))))) (zsp 74 (zsp 73 (zon (a := 72) (Or.inr (Or.inr (Or.inr rfl)))) (zon (a := 73) (Or.inr (Or.inr (Or.inr rfl))))) (zsp 75 (zon (a := 74) (Or.inr (Or.inr (Or.inr rfl)))) (zon (a := 75) (Or.inr (Or.inr (Or.inr rfl)))))))) (zsp 83 (zsp 79 (zsp 77 (zon (a := 76) (Or.inr (Or.inr (Or.inr rfl)))) (zsp 78 (zon (a := 77) (Or.inr (Or.inr (Or.inr rfl)))) (zon (a := 78) (Or.inr (Or.inr (Or.inr rfl)))))) (zsp 81 (zsp 80 (zon (a := 79) (Or.inr (Or.inr (Or.inr rfl)))) (zon (a := 80) (Or.inr (Or.inr (Or.inr rfl))))) (zsp 82 (zon (a := 81) (Or.inr (Or.inr (Or.inr rfl)))) (zon (a := 82) (Or.inr (Or.inr (Or.inr rfl))))))) (zsp 87 (zsp 85 (zsp 84 (zon (a := 83) (Or.inr (Or.inr (Or.inr rfl)))) (zon (a := 84) (Or.inr (Or.inr (Or.inr rfl))))) (zsp 86 (zon (a := 85) (Or.inr (Or.inr (Or.inr rfl)))) (zon (a := 86) (Or.inr (Or.inr (Or.inr rfl)))))) (zsp 89 (zsp 88 (zon (a := 87) (Or.inr (Or.inr (Or.inr rfl)))) (zon (a := 88) (Or.inr (Or.inr (Or.inr rfl))))) (zsp 90 (zon (a := 89) (Or.inr (Or.inr (Or.inr rfl)))) (zon (a := 90) (Or.inr (Or.inr (Or.inr rfl))))))))) (zsp 106 (zsp 98 (zsp 94 (zsp 92 (zon (a := 91) (Or.inr (Or.inr (Or.inr rfl)))) (zsp 93 (zon (a := 92) (Or.inr (Or.inr (Or.inr rfl)))) (zon (a := 93) (Or.inr (Or.inr (Or.inr rfl)))))) (zsp 96 (zsp 95 (zon (a := 94) (Or.inr (Or.inr (Or.inr rfl)))) (zon (a := 95) (Or.inr (Or.inr (Or.inr rfl))))) (zsp 97 (zon (a := 96) (Or.inr (Or.inr (Or.inr rfl)))) (zon (a := 97) (Or.inr (Or.inr (Or.inr rfl))))))) (zsp 102 (zsp 100 (zsp 99 (zon (a := 98) (Or.inr (Or.inr (Or.inr rfl)))) (zon (a := 99) (Or.inr (Or.inr (Or.inr rfl))))) (zsp 101 (zon (a := 100) (Or.inr (Or.inr (Or.inr rfl)))) (zon (a := 101) (Or.inr (Or.inr (Or.inr rfl)))))) (zsp 104 (zsp 103 (zon (a := 102) (Or.inr (Or.inr (Or.inr rfl)))) (zon (a := 103) (Or.inr (Or.inr (Or.inr rfl))))) (zsp 105 (zon (a := 104) (Or.inr (Or.inr (Or.inr rfl)))) (zon (a := 105) (Or.inr (Or.inr (Or.inr rfl)))))))) (zsp 114 (zsp 110 (zsp 108 (zsp 107 (zon (a := 106) (Or.inr (Or.inr (Or.inr rfl)))) (zon (a := 107) (Or.inr (Or.inr (Or.inr rfl))))) (zsp 109 (zon (a := 108) (Or.inr (Or.inr (Or.inr rfl)))) (zon (a := 109) (Or.inr (Or.inr (Or.inr rfl)))))) (zsp 112 (zsp 111 (zon (a := 110) (Or.inr (Or.inr (Or.inr rfl)))) (zon (a := 111) (Or.inr (Or.inr (Or.inr rfl))))) (zsp 113 (zon (a := 112) (Or.inr (Or.inr (Or.inr rfl)))) (zon (a := 113) (Or.inr (Or.inr (Or.inr rfl))))))) (zsp 118 (zsp 116 (zsp 115 (zon (a := 114) (Or.inr (Or.inr (Or.inr rfl)))) (zon (a := 115) (Or.inr (Or.inr (Or.inr rfl))))) (zsp 117 (zon (a := 116) (Or.inr (Or.inr (Or.inr rfl)))) (zon (a := 117) (Or.inr (Or.inr (Or.inr rfl)))))) (zsp 120 (zsp 119 (zon (a := 118) (Or.inr (Or.inr (Or.inr rfl)))) (zon (a := 119) (Or.inr (Or.inr (Or.inr rfl))))) (zsp 121 (zon (a := 120) (Or.inr (Or.inr (Or.inr rfl)))) (zon (a := 121) (Or.inr (Or.inr (Or.inr rfl)))))))))))
theorem zct_n : ∀ n t, t < 122 → t = 2 ∨ t = 29 ∨ t = 30 ∨ zct n t = zct 0 t := fun n t h => zct_n0 n t (Nat.zero_le _) h
theorem zbase_in : ∀ q ∈ zbase, q.2 < zct 0 q.1 ∧ zwt q.1 = true ∧ q.1 ≠ 2 ∧ q.1 ≠ 29 ∧ q.1 ≠ 30 := by decide +kernel
theorem zbase_nodup : zbase.Nodup := by decide +kernel
theorem zfin_0 : ∀ f, 0 ≤ f → f < 4 → ∀ n i, zfkd 0 f = 2 → i < zct n 0 → ∃ r : Nat × Nat, zfin 0 f i = some r ∧ r.2 < zct n r.1 := (zsp 2 (zsp 1 (zon (a := 0) (fun n i _ _ => ⟨(4, 0), rfl, Nat.zero_lt_succ _⟩)) (zon (a := 1) (fun n i _ _ => ⟨(20, 0), rfl, Nat.zero_lt_succ _⟩))) (zsp 3 (zon (a := 2) (fun n i _ _ => ⟨(21, 0), rfl, Nat.zero_lt_succ _⟩)) (zon (a := 3) (fun n i h2 _ => absurd h2 (by decide)))))
theorem zfin_1 : ∀ f, 0 ≤ f → f < 9 → ∀ n i, zfkd 1 f = 2 → i < zct n 1 → ∃ r : Nat × Nat, zfin 1 f i = some r ∧ r.2 < zct n r.1 := (zsp 4 (zsp 2 (zsp 1 (zon (a := 0) (fun n i h2 _ => absurd h2 (by decide))) (zon (a := 1) (fun n i _ _ => ⟨(22, 0), rfl, Nat.zero_lt_succ _⟩))) (zsp 3 (zon (a := 2) (fun n i _ _ => ⟨(23, 0), rfl, Nat.zero_lt_succ _⟩)) (zon (a := 3) (fun n i _ _ => ⟨(24, 0), rfl, Nat.zero_lt_succ _⟩)))) (zsp 6 (zsp 5 (zon (a := 4) (fun n i _ _ => ⟨(25, 0), rfl, Nat.zero_lt_succ _⟩)) (zon (a := 5) (fun n i h2 _ => absurd h2 (by decide)))) (zsp 7 (zon (a := 6) (fun n i _ _ => ⟨(26, 0), rfl, Nat.zero_lt_succ _⟩)) (zsp 8 (zon (a := 7) (fun n i _ _ => ⟨(27, 0), rfl, Nat.zero_lt_succ _⟩)) (zon (a := 8) (fun n i _ _ => ⟨(28, 0), rfl, Nat.zero_lt_succ _⟩))))))
theorem zfin_2 : ∀ f, 0 ≤ f → f < 12 → ∀ n i, zfkd 2 f = 2 → i < zct n 2 → ∃ r : Nat × Nat, zfin 2 f i = some r ∧ r.2 < zct n r.1 := (zsp 6 (zsp 3 (zsp 1 (zon (a := 0) (fun n i h2 _ => absurd h2 (by decide))) (zsp 2 (zon (a := 1) (fun n i h2 _ => absurd h2 (by decide))) (zon (a := 2) (fun n i h2 _ => absurd h2 (by decide))))) (zsp 4 (zon (a := 3) (fun n i h2 _ => absurd h2 (by decide))) (zsp 5 (zon (a := 4) (fun n i _ h => ⟨(29, i), rfl, h⟩)) (zon (a := 5) (fun n i h2 _ => absurd h2 (by decide)))))) (zsp 9 (zsp 7 (zon (a := 6) (fun n i h2 _ => absurd h2 (by decide))) (zsp 8 (zon (a := 7) (fun n i _ h => ⟨(30, i), rfl, h⟩)) (zon (a := 8) (fun n i h2 _ => absurd h2 (by decide))))) (zsp 10 (zon (a := 9) (fun n i h2 _ => absurd h2 (by decide))) (zsp 11 (zon (a := 10) (fun n i h2 _ => absurd h2 (by decide))) (zon (a := 11) (fun n i h2 _ => absurd h2 (by decide)))))))
theorem zfin_3 : ∀ f, 0 ≤ f → f < 4 → ∀ n i, zfkd 3 f = 2 → i < zct n 3 → ∃ r : Nat × Nat, zfin 3 f i = some r ∧ r.2 < zct n r.1 := (zsp 2 (zsp 1 (zon (a := 0) (fun n i _ _ => ⟨(4, 0), rfl, Nat.zero_lt_succ _⟩)) (zon (a := 1) (fun n i _ _ => ⟨(31, 0), rfl, Nat.zero_lt_succ _⟩))) (zsp 3 (zon (a := 2) (fun n i _ _ => ⟨(32, 0), rfl, Nat.zero_lt_succ _⟩)) (zon (a := 3) (fun n i h2 _ => absurd h2 (by decide)))))
theorem zfin_4 : ∀ f, 0 ≤ f → f < 9 → ∀ n i, zfkd 4 f = 2 → i < zct n 4 → ∃ r : Nat × Nat, zfin 4 f i = some r ∧ r.2 < zct n r.1 := (zsp 4 (zsp 2 (zsp 1 (zon (a := 0) (fun n i h2 _ => absurd h2 (by decide))) (zon (a := 1) (fun n i _ _ => ⟨(33, 0), rfl, Nat.zero_lt_succ _⟩))) (zsp 3 (zon (a := 2) (fun n i _ _ => ⟨(34, 0), rfl, Nat.zero_lt_succ _⟩)) (zon (a := 3) (fun n i _ _ => ⟨(35, 0), rfl, Nat.zero_lt_succ _⟩)))) (zsp 6 (zsp 5 (zon (a := 4) (fun n i _ _ => ⟨(36, 0), rfl, Nat.zero_lt_succ _⟩)) (zon (a := 5) (fun n i _ _ => ⟨(37, 0), rfl, Nat.zero_lt_succ _⟩))) (zsp 7 (zon (a := 6) (fun n i _ _ => ⟨(38, 0), rfl, Nat.zero_lt_succ _⟩)) (zsp 8 (zon (a := 7) (fun n i _ _ => ⟨(39, 0), rfl, Nat.zero_lt_succ _⟩)) (zon (a := 8) (fun n i _ _ => ⟨(40, 0), rfl, Nat.zero_lt_succ _⟩))))))
theorem zfin_5 : ∀ f, 0 ≤ f → f < 6 → ∀ n i, zfkd 5 f = 2 → i < zct n 5 → ∃ r : Nat × Nat, zfin 5 f i = some r ∧ r.2 < zct n r.1 := (zsp 3 (zsp 1 (zon (a := 0) (fun n i _ _ => ⟨(4, 0), rfl, Nat.zero_lt_succ _⟩)) (zsp 2 (zon (a := 1) (fun n i _ _ => ⟨(0, 0), rfl, Nat.zero_lt_succ _⟩)) (zon (a := 2) (fun n i _ _ => ⟨(9, 0), rfl, Nat.zero_lt_succ _⟩)))) (zsp 4 (zon (a := 3) (fun n i _ _ => ⟨(9, 1), rfl, Nat.lt_succ_self 1⟩)) (zsp 5 (zon (a := 4) (fun n i h2 _ => absurd h2 (by decide))) (zon (a := 5) (fun n i h2 _ => absurd h2 (by decide))))))
theorem zfin_6 : ∀ f, 0 ≤ f → f < 6 → ∀ n i, zfkd 6 f = 2 → i < zct n 6 → ∃ r : Nat × Nat, zfin 6 f i = some r ∧ r.2 < zct n r.1 := (zsp 3 (zsp 1 (zon (a := 0) (fun n i _ _ => ⟨(41, 0), rfl, Nat.zero_lt_succ _⟩)) (zsp 2 (zon (a := 1) (fun n i h2 _ => absurd h2 (by decide))) (zon (a := 2) (fun n i h2 _ => absurd h2 (by decide))))) (zsp 4 (zon (a := 3) (fun n i h2 _ => absurd h2 (by decide))) (zsp 5 (zon (a := 4) (fun n i h2 _ => absurd h2 (by decide))) (zon (a := 5) (fun n i h2 _ => absurd h2 (by decide))))))
theorem zfin_7 : ∀ f, 0 ≤ f → f < 13 → ∀ n i, zfkd 7 f = 2 → i < zct n 7 → ∃ r : Nat × Nat, zfin 7 f i = some r ∧ r.2 < zct n r.1 := (zsp 6 (zsp 3 (zsp 1 (zon (a := 0) (fun n i _ _ => ⟨(6, 0), rfl, Nat.zero_lt_succ _⟩)) (zsp 2 (zon (a := 1) (fun n i h2 _ => absurd h2 (by decide))) (zon (a := 2) (fun n i h2 _ => absurd h2 (by decide))))) (zsp 4 (zon (a := 3) (fun n i _ h => ⟨(42, i), rfl, h⟩)) (zsp 5 (zon (a := 4) (fun n i _ h => ⟨(43, i), rfl, h⟩)) (zon (a := 5) (fun n i _ h => ⟨(44, i), rfl, h⟩))))) (zsp 9 (zsp 7 (zon (a := 6) (fun n i _ h => ⟨(45, i), rfl, h⟩)) (zsp 8 (zon (a := 7) (fun n i h2 _ => absurd h2 (by decide))) (zon (a := 8) (fun n i h2 _ => absurd h2 (by decide))))) (zsp 11 (zsp 10 (zon (a := 9) (fun n i _ h => ⟨(46, i), rfl, h⟩)) (zon (a := 10) (fun n i _ h => ⟨(47, i), rfl, h⟩))) (zsp 12 (zon (a := 11) (fun n i _ h => ⟨(48, i), rfl, h⟩)) (zon (a := 12) (fun n i _ h => ⟨(49, i), rfl, h⟩))))))
theorem zfin_8 : ∀ f, 0 ≤ f → f < 11 → ∀ n i, zfkd 8 f = 2 → i < zct n 8 → ∃ r : Nat × Nat, zfin 8 f i = some r ∧ r.2 < zct n r.1 := (zsp 5 (zsp 2 (zsp 1 (zon (a := 0) (fun n i _ _ => ⟨(4, 0), rfl, Nat.zero_lt_succ _⟩)) (zon (a := 1) (fun n i h2 _ => absurd h2 (by decide)))) (zsp 3 (zon (a := 2) (fun n i _ _ => ⟨(50, 0), rfl, Nat.zero_lt_succ _⟩)) (zsp 4 (zon (a := 3) (fun n i _ _ => ⟨(51, 0), rfl, Nat.zero_lt_succ _⟩)) (zon (a := 4) (fun n i _ _ => ⟨(52, 0), rfl, Nat.zero_lt_succ _⟩))))) (zsp 8 (zsp 6 (zon (a := 5) (fun n i _ _ => ⟨(53, 0), rfl, Nat.zero_lt_succ _⟩)) (zsp 7 (zon (a := 6) (fun n i _ _ => ⟨(54, 0), rfl, Nat.zero_lt_succ _⟩)) (zon (a := 7) (fun n i _ _ => ⟨(55, 0), rfl, Nat.zero_lt_succ _⟩)))) (zsp 9 (zon (a := 8) (fun n i _ _ => ⟨(56, 0), rfl, Nat.zero_lt_succ _⟩)) (zsp 10 (zon (a := 9) (fun n i h2 _ => absurd h2 (by decide))) (zon (a := 10) (fun n i _ _ => ⟨(57, 0), rfl, Nat.zero_lt_succ _⟩))))))
theorem zfin_9 : ∀ f, 0 ≤ f → f < 5 → ∀ n i, zfkd 9 f = 2 → i < zct n 9 → ∃ r : Nat × Nat, zfin 9 f i = some r ∧ r.2 < zct n r.1 := (zsp 2 (zsp 1 (zon (a := 0) (fun n i h2 _ => absurd h2 (by decide))) (zon (a := 1) (fun n i h2 _ => absurd h2 (by decide)))) (zsp 3 (zon (a := 2) (fun n i h2 _ => absurd h2 (by decide))) (zsp 4 (zon (a := 3) (fun n i h2 _ => absurd h2 (by decide))) (zon (a := 4) (fun n i _ h => ⟨(58, i), rfl, h⟩)))))
theorem zfin_10 : ∀ f, 0 ≤ f → f < 10 → ∀ n i, zfkd 10 f = 2 → i < zct n 10 → ∃ r : Nat × Nat, zfin 10 f i = some r ∧ r.2 < zct n r.1 := (zsp 5 (zsp 2 (zsp 1 (zon (a := 0) (fun n i _ _ => ⟨(4, 0), rfl, Nat.zero_lt_succ _⟩)) (zon (a := 1) (fun n i _ _ => ⟨(0, 0), rfl, Nat.zero_lt_succ _⟩))) (zsp 3 (zon (a := 2) (fun n i _ _ => ⟨(5, 0), rfl, Nat.zero_lt_succ _⟩)) (zsp 4 (zon (a := 3) (fun n i _ _ => ⟨(3, 0), rfl, Nat.zero_lt_succ _⟩)) (zon (a := 4) (fun n i _ _ => ⟨(8, 0), rfl, Nat.zero_lt_succ _⟩))))) (zsp 7 (zsp 6 (zon (a := 5) (fun n i _ _ => ⟨(1, 0), rfl, Nat.zero_lt_succ _⟩)) (zon (a := 6) (fun n i _ _ => ⟨(6, 0), rfl, Nat.zero_lt_succ _⟩))) (zsp 8 (zon (a := 7) (fun n i h2 _ => absurd h2 (by decide))) (zsp 9 (zon (a := 8) (fun n i h2 _ => absurd h2 (by decide))) (zon (a := 9) (fun n i h2 _ => absurd h2 (by decide)))))))
theorem zfin_11 : ∀ f, 0 ≤ f → f < 82 → ∀ n i, zfkd 11 f = 2 → i < zct n 11 → ∃ r : Nat × Nat, zfin 11 f i = some r ∧ r.2 < zct n r.1 := (zsp 41 (zsp 20 (zsp 10 (zsp 5 (zsp 2 (zsp 1 (zon (a := 0) (fun n i h2 _ => absurd h2 (by decide))) (zon (a := 1) (fun n i h2 _ => absurd h2 (by decide)))) (zsp 3 (zon (a := 2) (fun n i h2 _ => absurd h2 (by decide))) (zsp 4 (zon (a := 3) (fun n i _ _ => ⟨(59, 0), rfl, Nat.zero_lt_succ _⟩)) (zon (a := 4) (fun n i _ _ => ⟨(60, 0), rfl, Nat.zero_lt_succ _⟩))))) (zsp 7 (zsp 6 (zon (a := 5) (fun n i _ _ => ⟨(61, 0), rfl, Nat.zero_lt_succ _⟩)) (zon (a := 6) (fun n i _ _ => ⟨(62, 0), rfl, Nat.zero_lt_succ _⟩))) (zsp 8 (zon (a := 7) (fun n i _ _ => ⟨(63, 0), rfl, Nat.zero_lt_succ _⟩)) (zsp 9 (zon (a := 8) (fun n i _ _ => ⟨(64, 0), rfl, Nat.zero_lt_succ _⟩)) (zon (a := 9) (fun n i _ _ => ⟨(65, 0), rfl, Nat.zero_lt_succ _⟩)))))) (zsp 15 (zsp 12 (zsp 11 (zon (a := 10) (fun n i _ _ => ⟨(66, 0), rfl, Nat.zero_lt_succ _⟩)) (zon (a := 11) (fun n i h2 _ => absurd h2 (by decide)))) (zsp 13 (zon (a := 12) (fun n i _ _ => ⟨(67, 0), rfl, Nat.zero_lt_succ _⟩)) (zsp 14 (zon (a := 13) (fun n i _ _ => ⟨(68, 0), rfl, Nat.zero_lt_succ _⟩)) (zon (a := 14) (fun n i _ _ => ⟨(69, 0), rfl, Nat.zero_lt_succ _⟩))))) (zsp 17 (zsp 16 (zon (a := 15) (fun n i _ _ => ⟨(70, 0), rfl, Nat.zero_lt_succ _⟩)) (zon (a := 16) (fun n i _ _ => ⟨(71, 0), rfl, Nat.zero_lt_succ _⟩))) (zsp 18 (zon (a := 17) (fun n i _ _ => ⟨(72, 0), rfl, Nat.zero_lt_succ _⟩)) (zsp 19 (zon (a := 18) (fun n i _ _ => ⟨(73, 0), rfl, Nat.zero_lt_succ _⟩)) (zon (a := 19) (fun n i _ _ => ⟨(74, 0), rfl, Nat.zero_lt_succ _⟩))))))) (zsp 30 (zsp 25 (zsp 22 (zsp 21 (zon (a := 20) (fun n i _ _ => ⟨(75, 0), rfl, Nat.zero_lt_succ _⟩)) (zon (a := 21) (fun n i _ _ => ⟨(76, 0), rfl, Nat.zero_lt_succ _⟩))) (zsp 23 (zon (a := 22) (fun n i _ _ => ⟨(77, 0), rfl, Nat.zero_lt_succ _⟩)) (zsp 24 (zon (a := 23) (fun n i _ _ => ⟨(78, 0), rfl, Nat.zero_lt_succ _⟩)) (zon (a := 24) (fun n i _ _ => ⟨(79, 0), rfl, Nat.zero_lt_succ _⟩))))) (zsp 27 (zsp 26 (zon (a := 25) (fun n i _ _ => ⟨(80, 0), rfl, Nat.zero_lt_succ _⟩)) (zon (a := 26) (fun n i _ _ => ⟨(81, 0), rfl, Nat.zero_lt_succ _⟩))) (zsp 28 (zon (a := 27) (fun n i h2 _ => absurd h2 (by decide))) (zsp 29 (zon (a := 28) (fun n i _ _ => ⟨(82, 0), rfl, Nat.zero_lt_succ _⟩)) (zon (a := 29) (fun n i _ _ => ⟨(83, 0), rfl, Nat.zero_lt_succ _⟩)))))) (zsp 35 (zsp 32 (zsp 31 (zon (a := 30) (fun n i _ _ => ⟨(84, 0), rfl, Nat.zero_lt_succ _⟩)) (zon (a := 31) (fun n i _ _ => ⟨(85, 0), rfl, Nat.zero_lt_succ _⟩))) (zsp 33 (zon (a := 32) (fun n i h2 _ => absurd h2 (by decide))) (zsp 34 (zon (a := 33) (fun n i _ _ => ⟨(86, 0), rfl, Nat.zero_lt_succ _⟩)) (zon (a := 34) (fun n i _ _ => ⟨(87, 0), rfl, Nat.zero_lt_succ _⟩))))) (zsp 38 (zsp 36 (zon (a := 35) (fun n i _ _ => ⟨(88, 0), rfl, Nat.zero_lt_succ _⟩)) (zsp 37 (zon (a := 36) (fun n i h2 _ => absurd h2 (by decide))) (zon (a := 37) (fun n i _ _ => ⟨(89, 0), rfl, Nat.zero_lt_succ _⟩)))) (zsp 39 (zon (a := 38) (fun n i h2 _ => absurd h2 (by decide))) (zsp 40 (zon (a := 39) (fun n i h2 _ => absurd h2 (by decide))) (zon (a := 40) (fun n i h2 _ => absurd h2 (by decide))))))))) (zsp 61 (zsp 51 (zsp 46 (zsp 43 (zsp 42 (zon (a := 41) (fun n i h2 _ => absurd h2 (by decide))) (zon (a := 42) (fun n i h2 _ => absurd h2 (by decide)))) (zsp 44 (zon (a := 43) (fun n i h2 _ => absurd h2 (by decide))) (zsp 45 (zon (a := 44) (fun n i h2 _ => absurd h2 (by decide))) (zon (a := 45) (fun n i _ _ => ⟨(90, 0), rfl, Nat.zero_lt_succ _⟩))))) (zsp 48 (zsp 47 (zon (a := 46) (fun n i _ _ => ⟨(91, 0), rfl, Nat.zero_lt_succ _⟩)) (zon (a := 47) (fun n i _ _ => ⟨(92, 0), rfl, Nat.zero_lt_succ _⟩))) (zsp 49 (zon (a := 48) (fun n i _ _ => ⟨(93, 0), rfl, Nat.zero_lt_succ _⟩)) (zsp 50 (zon (a := 49) (fun n i _ _ => ⟨(94, 0), rfl, Nat.zero_lt_succ _⟩)) (zon (a := 50) (fun n i _ _ => ⟨(95, 0), rfl, Nat.zero_lt_succ _⟩)))))) (zsp 56 (zsp 53 (zsp 52 (zon (a := 51) (fun n i _ _ => ⟨(96, 0), rfl, Nat.zero_lt_succ _⟩)) (zon (a := 52) (fun n i _ _ => ⟨(97, 0), rfl, Nat.zero_lt_succ _⟩))) (zsp 54 (zon (a := 53) (fun n i _ _ => ⟨(98, 0), rfl, Nat.zero_lt_succ _⟩)) (zsp 55 (zon (a := 54) (fun n i h2 _ => absurd h2 (by decide))) (zon (a := 55) (fun n i _ _ => ⟨(99, 0), rfl, Nat.zero_lt_succ _⟩))))) (zsp 58 (zsp 57 (zon (a := 56) (fun n i _ _ => ⟨(100, 0), rfl, Nat.zero_lt_succ _⟩)) (zon (a := 57) (fun n i _ _ => ⟨(101, 0), rfl, Nat.zero_lt_succ _⟩))) (zsp 59 (zon (a := 58) (fun n i _ _ => ⟨(102, 0), rfl, Nat.zero_lt_succ _⟩)) (zsp 60 (zon (a := 59) (fun n i _ _ => ⟨(103, 0), rfl, Nat.zero_lt_succ _⟩)) (zon (a := 60) (fun n i _ _ => ⟨(104, 0), rfl, Nat.zero_lt_succ _⟩))))))) (zsp 71 (zsp 66 (zsp 63 (zsp 62 (zon (a := 61) (fun n i _ _ => ⟨(105, 0), rfl, Nat.zero_lt_succ _⟩)) (zon (a := 62) (fun n i _ _ => ⟨(106, 0), rfl, Nat.zero_lt_succ _⟩))) (zsp 64 (zon (a := 63) (fun n i _ _ => ⟨(107, 0), rfl, Nat.zero_lt_succ _⟩)) (zsp 65 (zon (a := 64) (fun n i _ _ => ⟨(108, 0), rfl, Nat.zero_lt_succ _⟩)) (zon (a := 65) (fun n i _ _ => ⟨(109, 0), rfl, Nat.zero_lt_succ _⟩))))) (zsp 68 (zsp 67 (zon (a := 66) (fun n i _ _ => ⟨(110, 0), rfl, Nat.zero_lt_succ _⟩)) (zon (a := 67) (fun n i _ _ => ⟨(111, 0), rfl, Nat.zero_lt_succ _⟩))) (zsp 69 (zon (a := 68) (fun n i h2 _ => absurd h2 (by decide))) (zsp 70 (zon (a := 69) (fun n i _ _ => ⟨(112, 0), rfl, Nat.zero_lt_succ _⟩)) (zon (a := 70) (fun n i _ _ => ⟨(113, 0), rfl, Nat.zero_lt_succ _⟩)))))) (zsp 76 (zsp 73 (zsp 72 (zon (a := 71) (fun n i _ _ => ⟨(114, 0), rfl, Nat.zero_lt_succ _⟩)) (zon (a := 72) (fun n i h2 _ => absurd h2 (by decide)))) (zsp 74 (zon (a := 73) (fun n i _ _ => ⟨(115, 0), rfl, Nat.zero_lt_succ _⟩)) (zsp 75 (zon (a := 74) (fun n i _ _ => ⟨(116, 0), rfl, Nat.zero_lt_succ _⟩)) (zon (a := 75) (fun n i h2 _ => absurd h2 (by decide)))))) (zsp 79 (zsp 77 (zon (a := 76) (fun n i _ _ => ⟨(117, 0), rfl, Nat.zero_lt_succ _⟩)) (zsp 78 (zon (a := 77) (fun n i _ _ => ⟨(118, 0), rfl, Nat.zero_lt_succ _⟩)) (zon (a := 78) (fun n i _ _ => ⟨(119, 0), rfl, Nat.zero_lt_succ _⟩)))) (zsp 80 (zon (a := 79) (fun n i _ _ => ⟨(120, 0), rfl, Nat.zero_lt_succ _⟩)) (zsp 81 (zon (a := 80) (fun n i _ _ => ⟨(121, 0), rfl, Nat.zero_lt_succ _⟩)) (zon (a := 81) (fun n i h2 _ => absurd h2 (by decide))))))))))
theorem zfin_12 : ∀ f, 0 ≤ f → f < 2 → ∀ n i, zfkd 12 f = 2 → i < zct n 12 → ∃ r : Nat × Nat, zfin 12 f i = some r ∧ r.2 < zct n r.1 := (zsp 1 (zon (a := 0) (fun n i _ h => ⟨(13, i), rfl, Nat.lt_succ_of_lt h⟩)) (zon (a := 1) (fun n i h2 _ => absurd h2 (by decide))))
theorem zfin_all : ∀ t, 0 ≤ t → t < 13 → ∀ f, 0 ≤ f → f < zcN t → ∀ n i, zfkd t f = 2 → i < zct n t → ∃ r : Nat × Nat, zfin t f i = some r ∧ r.2 < zct n r.1 := (zsp 6 (zsp 3 (zsp 1 (zon (a := 0) zfin_0) (zsp 2 (zon (a := 1) zfin_1) (zon (a := 2) zfin_2))) (zsp 4 (zon (a := 3) zfin_3) (zsp 5 (zon (a := 4) zfin_4) (zon (a := 5) zfin_5)))) (zsp 9 (zsp 7 (zon (a := 6) zfin_6) (zsp 8 (zon (a := 7) zfin_7) (zon (a := 8) zfin_8))) (zsp 11 (zsp 10 (zon (a := 9) zfin_9) (zon (a := 10) zfin_10)) (zsp 12 (zon (a := 11) zfin_11) (zon (a := 12) zfin_12)))))
def zfpk (k : Nat) : Nat := (zH k 9231 (zH k 5186 (zH k 2079 (zH k 1035 (zH k 64 (zH k 37 (zH k 17 (zE k 11 178 0) (zH k 21 (zE k 17 181 0) (zE k 21 177 0))) (zH k 51 (zH k 44 (zE k 37 182 0) (zE k 44 527 0)) (zH k 54 (zE k 51 524 0) (zE k 54 134 0)))) (zH k 108 (zH k 91 (zH k 78 (zE k 64 531 0) (zE k 78 547 0)) (zH k 101 (zE k 91 549 0) (zE k 101 552 0))) (zH k 140 (zH k 111 (zE k 108 144 0) (zE k 111 521 0)) (zH k 143 (zE k 140 539 0) (zE k 143 535 0))))) (zH k 1057 (zH k 1045 (zH k 1039 (zE k 1035 315 0) (zH k 1042 (zE k 1039 316 0) (zE k 1042 317 0))) (zH k 1051 (zH k 1048 (zE k 1045 318 0) (zE k 1048 321 0)) (zH k 1054 (zE k 1051 322 0) (zE k 1054 323 0)))) (zH k 2067 (zH k 2057 (zH k 1061 (zE k 1057 313 0) (zE k 1061 319 0)) (zH k 2063 (zE k 2057 525 0) (zE k 2063 533 0))) (zH k 2073 (zH k 2070 (zE k 2067 544 0) (zE k 2070 550 0)) (zH k 2076 (zE k 2073 553 0) (zE k 2076 518 0)))))) (zH k 4117 (zH k 3087 (zH k 2092 (zH k 2082 (zE k 2079 522 0) (zH k 2085 (zE k 2082 537 0) (zE k 2085 530 0))) (zH k 2098 (zH k 2095 (zE k 2092 543 0) (zE k 2095 546 0)) (zH k 3081 (zE k 2098 548 0) (zE k 3081 253 0)))) (zH k 3111 (zH k 3100 (zH k 3090 (zE k 3087 254 0) (zE k 3090 252 0)) (zH k 3103 (zE k 3100 132 0) (zE k 3103 255 0))) (zH k 4111 (zH k 4105 (zE k 3111 136 0) (zE k 4105 130 0)) (zH k 4114 (zE k 4111 131 0) (zE k 4114 135 0))))) (zH k 5138 (zH k 4127 (zH k 4120 (zE k 4117 137 0) (zH k 4124 (zE k 4120 138 0) (zE k 4124 140 0))) (zH k 4139 (zH k 4130 (zE k 4127 142 0) (zE k 4130 146 0)) (zH k 5132 (zE k 4139 128 0) (zE k 5132 228 0)))) (zH k 5153 (zH k 5145 (zH k 5141 (zE k 5138 229 0) (zE k 5141 231 0)) (zH k 5149 (zE k 5145 226 0) (zE k 5149 227 0))) (zH k 5171 (zH k 5163 (zE k 5153 179 0) (zE k 5163 230 0)) (zH k 5181 (zE k 5171 183 0) (zE k 5181 529 0))))))) (zH k 7221 (zH k 6203 (zH k 5248 (zH k 5203 (zH k 5189 (zE k 5186 526 0) (zH k 5200 (zE k 5189 541 0) (zE k 5200 520 0))) (zH k 5223 (zH k 5206 (zE k 5203 209 0) (zE k 5206 133 0)) (zH k 5226 (zE k 5223 143 0) (zE k 5226 207 0)))) (zH k 6165 (zH k 6155 (zH k 5251 (zE k 5248 212 0) (zE k 5251 214 0)) (zH k 6161 (zE k 6155 349 0) (zE k 6161 350 0))) (zH k 6188 (zH k 6168 (zE k 6165 353 0) (zE k 6168 355 0)) (zH k 6192 (zE k 6188 356 0) (zE k 6192 352 0))))) (zH k 7194 (zH k 7179 (zH k 6208 (zE k 6203 1904 0) (zH k 6212 (zE k 6208 770 0) (zE k 6212 1901 0))) (zH k 7186 (zH k 7183 (zE k 7179 381 0) (zE k 7183 382 0)) (zH k 7191 (zE k 7186 383 0) (zE k 7191 384 0)))) (zH k 7207 (zH k 7201 (zH k 7198 (zE k 7194 388 0) (zE k 7198 389 0)) (zH k 7204 (zE k 7201 390 0) (zE k 7204 391 0))) (zH k 7215 (zH k 7211 (zE k 7207 377 0) (zE k 7211 378 0)) (zH k 7218 (zE k 7215 379 0) (zE k 7218 386 0)))))) (zH k 7350 (zH k 7318 (zH k 7286 (zH k 7231 (zE k 7221 385 0) (zH k 7250 (zE k 7231 883 0) (zE k 7250 893 0))) (zH k 7295 (zH k 7292 (zE k 7286 971 0) (zE k 7292 977 0)) (zH k 7315 (zE k 7295 354 0) (zE k 7315 959 0)))) (zH k 7336 (zH k 7331 (zH k 7324 (zE k 7318 961 0) (zE k 7324 937 0)) (zH k 7334 (zE k 7331 680 0) (zE k 7334 1900 0))) (zH k 7343 (zH k 7340 (zE k 7336 682 0) (zE k 7340 685 0)) (zH k 7347 (zE k 7343 687 0) (zE k 7347 690 0))))) (zH k 8223 (zH k 8210 (zH k 8203 (zE k 7350 692 0) (zH k 8207 (zE k 8203 274 0) (zE k 8207 275 0))) (zH k 8217 (zH k 8214 (zE k 8210 276 0) (zE k 8214 277 0)) (zH k 8220 (zE k 8217 278 0) (zE k 8220 279 0)))) (zH k 8237 (zH k 8229 (zH k 8226 (zE k 8223 280 0) (zE k 8226 283 0)) (zH k 8233 (zE k 8229 271 0) (zE k 8233 272 0))) (zH k 8251 (zH k 8242 (zE k 8237 538 0) (zE k 8242 534 0)) (zH k 9225 (zE k 8251 282 0) (zE k 9225 213 0)))))))) (zH k 12362 (zH k 11503 (zH k 11322 (zH k 9263 (zH k 9243 (zH k 9237 (zE k 9231 519 0) (zH k 9240 (zE k 9237 206 0) (zE k 9240 523 0))) (zH k 9253 (zH k 9244 (zE k 9243 208 0) (zE k 9244 210 0)) (zH k 9260 (zE k 9253 211 0) (zE k 9260 551 0)))) (zH k 11294 (zH k 11276 (zH k 9266 (zE k 9263 542 0) (zE k 9266 545 0)) (zH k 11285 (zE k 11276 420 0) (zE k 11285 421 0))) (zH k 11308 (zH k 11301 (zE k 11294 422 0) (zE k 11301 423 0)) (zH k 11315 (zE k 11308 424 0) (zE k 11315 425 0))))) (zH k 11388 (zH k 11338 (zH k 11331 (zE k 11322 426 0) (zH k 11335 (zE k 11331 427 0) (zE k 11335 428 0))) (zH k 11367 (zH k 11363 (zE k 11338 429 0) (zE k 11363 139 0)) (zH k 11373 (zE k 11367 141 0) (zE k 11373 180 0)))) (zH k 11477 (zH k 11424 (zH k 11393 (zE k 11388 532 0) (zE k 11393 554 0)) (zH k 11457 (zE k 11424 351 0) (zE k 11457 232 0))) (zH k 11494 (zH k 11484 (zE k 11477 281 0) (zE k 11484 273 0)) (zH k 11500 (zE k 11494 528 0) (zE k 11500 540 0)))))) (zH k 12316 (zH k 11531 (zH k 11518 (zH k 11509 (zE k 11503 536 0) (zH k 11515 (zE k 11509 145 0) (zE k 11515 129 0))) (zH k 11526 (zH k 11525 (zE k 11518 184 0) (zE k 11525 314 0)) (zH k 11529 (zE k 11526 320 0) (zE k 11529 380 0)))) (zH k 12304 (zH k 12295 (zH k 11538 (zE k 11531 387 0) (zE k 11538 1018 0)) (zH k 12301 (zE k 12295 1305 0) (zE k 12301 1306 0))) (zH k 12310 (zH k 12307 (zE k 12304 1307 0) (zE k 12307 1308 0)) (zH k 12313 (zE k 12310 1309 0) (zE k 12313 1310 0))))) (zH k 12338 (zH k 12326 (zH k 12320 (zE k 12316 1311 0) (zH k 12323 (zE k 12320 1312 0) (zE k 12323 1314 0))) (zH k 12332 (zH k 12329 (zE k 12326 1315 0) (zE k 12329 1316 0)) (zH k 12335 (zE k 12332 1317 0) (zE k 12335 1318 0)))) (zH k 12350 (zH k 12344 (zH k 12341 (zE k 12338 1319 0) (zE k 12341 1320 0)) (zH k 12347 (zE k 12344 1321 0) (zE k 12347 1322 0))) (zH k 12356 (zH k 12353 (zE k 12350 1323 0) (zE k 12353 1324 0)) (zH k 12359 (zE k 12356 1325 0) (zE k 12359 1326 0))))))) (zH k 12453 (zH k 12407 (zH k 12383 (zH k 12371 (zH k 12365 (zE k 12362 1327 0) (zH k 12368 (zE k 12365 1328 0) (zE k 12368 1330 0))) (zH k 12377 (zH k 12374 (zE k 12371 1331 0) (zE k 12374 1332 0)) (zH k 12380 (zE k 12377 1333 0) (zE k 12380 1335 0)))) (zH k 12395 (zH k 12389 (zH k 12386 (zE k 12383 1336 0) (zE k 12386 1337 0)) (zH k 12392 (zE k 12389 1339 0) (zE k 12392 1347 0))) (zH k 12401 (zH k 12398 (zE k 12395 1348 0) (zE k 12398 1349 0)) (zH k 12404 (zE k 12401 1350 0) (zE k 12404 1351 0))))) (zH k 12429 (zH k 12417 (zH k 12410 (zE k 12407 1352 0) (zH k 12413 (zE k 12410 1353 0) (zE k 12413 1354 0))) (zH k 12423 (zH k 12420 (zE k 12417 1355 0) (zE k 12420 1357 0)) (zH k 12426 (zE k 12423 1358 0) (zE k 12426 1359 0)))) (zH k 12441 (zH k 12435 (zH k 12432 (zE k 12429 1360 0) (zE k 12432 1361 0)) (zH k 12438 (zE k 12435 1362 0) (zE k 12438 1363 0))) (zH k 12447 (zH k 12444 (zE k 12441 1364 0) (zE k 12444 1365 0)) (zH k 12450 (zE k 12447 1366 0) (zE k 12450 1367 0)))))) (zH k 12508 (zH k 12474 (zH k 12462 (zH k 12456 (zE k 12453 1368 0) (zH k 12459 (zE k 12456 1369 0) (zE k 12459 1371 0))) (zH k 12468 (zH k 12465 (zE k 12462 1372 0) (zE k 12465 1373 0)) (zH k 12471 (zE k 12468 1375 0) (zE k 12471 1376 0)))) (zH k 12486 (zH k 12480 (zH k 12477 (zE k 12474 1378 0) (zE k 12477 1379 0)) (zH k 12483 (zE k 12480 1380 0) (zE k 12483 1381 0))) (zH k 12493 (zH k 12489 (zE k 12486 1382 0) (zE k 12489 1302 0)) (zH k 12504 (zE k 12493 1304 0) (zE k 12504 1313 0))))) (zH k 12580 (zH k 12567 (zH k 12556 (zH k 12552 (zE k 12508 1303 0) (zE k 12552 1329 0)) (zH k 12564 (zE k 12556 1334 0) (zE k 12564 1338 0))) (zH k 12573 (zH k 12570 (zE k 12567 1340 0) (zE k 12570 1341 0)) (zH k 12576 (zE k 12573 1342 0) (zE k 12576 1344 0)))) (zH k 12671 (zH k 12593 (zH k 12583 (zE k 12580 1345 0) (zE k 12583 1343 0)) (zH k 12596 (zE k 12593 1346 0) (zE k 12596 1356 0))) (zH k 12735 (zH k 12694 (zE k 12671 1370 0) (zE k 12694 1374 0)) (zH k 12740 (zE k 12735 1377 0) (zE k 12740 1383 0)))))))))
def zfnk (k : Nat) : Bool := (zH k 7295 (zH k 5171 (zH k 108 (zH k 64 (zH k 51 (zE k 44 true false) (zH k 54 (zE k 51 true false) (zE k 54 true false))) (zH k 91 (zH k 78 (zE k 64 true false) (zE k 78 true false)) (zH k 101 (zE k 91 true false) (zE k 101 true false)))) (zH k 143 (zH k 111 (zE k 108 true false) (zH k 140 (zE k 111 true false) (zE k 140 true false))) (zH k 3111 (zH k 3100 (zE k 143 true false) (zE k 3100 true false)) (zH k 5153 (zE k 3111 true false) (zE k 5153 true false))))) (zH k 5223 (zH k 5189 (zH k 5181 (zE k 5171 true false) (zH k 5186 (zE k 5181 true false) (zE k 5186 true false))) (zH k 5203 (zH k 5200 (zE k 5189 true false) (zE k 5200 true false)) (zH k 5206 (zE k 5203 true false) (zE k 5206 true false)))) (zH k 5251 (zH k 5226 (zE k 5223 true false) (zH k 5248 (zE k 5226 true false) (zE k 5248 true false))) (zH k 6208 (zH k 6203 (zE k 5251 true false) (zE k 6203 true false)) (zH k 6212 (zE k 6208 true false) (zE k 6212 true false)))))) (zH k 11424 (zH k 9263 (zH k 8242 (zH k 7334 (zE k 7295 true false) (zH k 8237 (zE k 7334 true false) (zE k 8237 true false))) (zH k 9240 (zH k 9231 (zE k 8242 true false) (zE k 9231 true false)) (zH k 9260 (zE k 9240 true false) (zE k 9260 true false)))) (zH k 11367 (zH k 9266 (zE k 9263 true false) (zH k 11363 (zE k 9266 true false) (zE k 11363 true false))) (zH k 11388 (zH k 11373 (zE k 11367 true false) (zE k 11373 true false)) (zH k 11393 (zE k 11388 true false) (zE k 11393 true false))))) (zH k 11509 (zH k 11484 (zH k 11457 (zE k 11424 true false) (zH k 11477 (zE k 11457 true false) (zE k 11477 true false))) (zH k 11500 (zH k 11494 (zE k 11484 true false) (zE k 11494 true false)) (zH k 11503 (zE k 11500 true false) (zE k 11503 true false)))) (zH k 11525 (zH k 11515 (zE k 11509 true false) (zH k 11518 (zE k 11515 true false) (zE k 11518 true false))) (zH k 11529 (zH k 11526 (zE k 11525 true false) (zE k 11526 true false)) (zH k 11531 (zE k 11529 true false) (zE k 11531 true false)))))))
def zfw (k t f : Nat) : Cond := bif zfnk k then .fieldLinkNest (zRn (k / 1024)) (k % 1024) (zcn t) (zcT t f).2.1 (zcT t f).2.2.1 "TownExchange" else .fieldLink (zRn (k / 1024)) (k % 1024) (zcn t) (zcT t f).2.1 (zcT t f).2.2.1
def zfcb (k : Nat) : Bool := match zfldk k with
  | none => true
  | some (t, f, ty) => decide (lw_tbl[zfpk k]? = some (zfw k t f)) && (bif zfnk k then zisn (zfw k t f) else goodWord (zfw k t f)) && Nat.blt f (zcN t) && Nat.blt t 13 && Nat.beq (zfkd t f) ty && decide ((zcT t f).1 = zcn t) && zftyk ty (zcty t f)
def zfks : List Nat := [11, 17, 21, 37, 44, 51, 54, 64, 78, 91, 101, 108, 111, 140, 143, 1035, 1039, 1042, 1045, 1048, 1051, 1054, 1057, 1061, 2057, 2063, 2067, 2070, 2073, 2076, 2079, 2082, 2085, 2092, 2095, 2098, 3081, 3087, 3090, 3100, 3103, 3111, 4105, 4111, 4114, 4117, 4120, 4124, 4127, 4130, 4139, 5132, 5138, 5141, 5145, 5149, 5153, 5163, 5171, 5181, 5186, 5189, 5200, 5203, 5206, 5223, 5226, 5248, 5251, 6155, 6161, 6165, 6168, 6188, 6192, 6203, 6212, 7179, 7183, 7186, 7191, 7194, 7198, 7201, 7204, 7207, 7211, 7215, 7218, 7221, 7295, 7334, 8203, 8207, 8210, 8214, 8217, 8220, 8223, 8226, 8229, 8233, 8237, 8242, 8251, 9225, 9231, 9237, 9240, 9243, 9244, 9253, 9260, 9263, 9266, 11276, 11285, 11294, 11301, 11308, 11315, 11322, 11331, 11335, 11338, 11363, 11367, 11373, 11388, 11393, 11424, 11457, 11477, 11484, 11494, 11500, 11503, 11509, 11515, 11518, 11525, 11526, 11529, 11531, 12295, 12301, 12304, 12307, 12310, 12313, 12316, 12320, 12323, 12326, 12329, 12332, 12335, 12338, 12341, 12344, 12347, 12350, 12353, 12356, 12359, 12362, 12365, 12368, 12371, 12374, 12377, 12380, 12383, 12386, 12389, 12392, 12395, 12398, 12401, 12404, 12407, 12410, 12413, 12417, 12420, 12423, 12426, 12429, 12432, 12435, 12438, 12441, 12444, 12447, 12450, 12453, 12456, 12459, 12462, 12465, 12468, 12471, 12474, 12477, 12480, 12483, 12486, 12489, 12493, 12504, 12508, 12552, 12556, 12564, 12567, 12570, 12573, 12576, 12580, 12583, 12593, 12596, 12671, 12694, 12735, 12740]
theorem zfc0 : zfks.all zfcb = true := by decide +kernel
theorem zfk_in_0 : ∀ n, n < 1024 → zfldk (0 * 1024 + n) = none ∨ (0 * 1024 + n) ∈ zfks := by decide +kernel
theorem zfk_in_1 : ∀ n, n < 1024 → zfldk (1 * 1024 + n) = none ∨ (1 * 1024 + n) ∈ zfks := by decide +kernel
theorem zfk_in_2 : ∀ n, n < 1024 → zfldk (2 * 1024 + n) = none ∨ (2 * 1024 + n) ∈ zfks := by decide +kernel
theorem zfk_in_3 : ∀ n, n < 1024 → zfldk (3 * 1024 + n) = none ∨ (3 * 1024 + n) ∈ zfks := by decide +kernel
theorem zfk_in_4 : ∀ n, n < 1024 → zfldk (4 * 1024 + n) = none ∨ (4 * 1024 + n) ∈ zfks := by decide +kernel
theorem zfk_in_5 : ∀ n, n < 1024 → zfldk (5 * 1024 + n) = none ∨ (5 * 1024 + n) ∈ zfks := by decide +kernel
theorem zfk_in_6 : ∀ n, n < 1024 → zfldk (6 * 1024 + n) = none ∨ (6 * 1024 + n) ∈ zfks := by decide +kernel
theorem zfk_in_7 : ∀ n, n < 1024 → zfldk (7 * 1024 + n) = none ∨ (7 * 1024 + n) ∈ zfks := by decide +kernel
theorem zfk_in_8 : ∀ n, n < 1024 → zfldk (8 * 1024 + n) = none ∨ (8 * 1024 + n) ∈ zfks := by decide +kernel
theorem zfk_in_9 : ∀ n, n < 1024 → zfldk (9 * 1024 + n) = none ∨ (9 * 1024 + n) ∈ zfks := by decide +kernel
theorem zfk_in_10 : ∀ n, n < 1024 → zfldk (10 * 1024 + n) = none ∨ (10 * 1024 + n) ∈ zfks := by decide +kernel
theorem zfk_in_11 : ∀ n, n < 1024 → zfldk (11 * 1024 + n) = none ∨ (11 * 1024 + n) ∈ zfks := by decide +kernel
theorem zfk_in_12 : ∀ n, n < 1024 → zfldk (12 * 1024 + n) = none ∨ (12 * 1024 + n) ∈ zfks := by decide +kernel
theorem zfk_in_13 : ∀ n, n < 1024 → zfldk (13 * 1024 + n) = none ∨ (13 * 1024 + n) ∈ zfks := by decide +kernel
theorem zfk_in : ∀ oc, 0 ≤ oc → oc < 14 → ∀ n, n < 1024 → zfldk (oc * 1024 + n) = none ∨ (oc * 1024 + n) ∈ zfks := (zsp 7 (zsp 3 (zsp 1 (zon (a := 0) zfk_in_0) (zsp 2 (zon (a := 1) zfk_in_1) (zon (a := 2) zfk_in_2))) (zsp 5 (zsp 4 (zon (a := 3) zfk_in_3) (zon (a := 4) zfk_in_4)) (zsp 6 (zon (a := 5) zfk_in_5) (zon (a := 6) zfk_in_6)))) (zsp 10 (zsp 8 (zon (a := 7) zfk_in_7) (zsp 9 (zon (a := 8) zfk_in_8) (zon (a := 9) zfk_in_9))) (zsp 12 (zsp 11 (zon (a := 10) zfk_in_10) (zon (a := 11) zfk_in_11)) (zsp 13 (zon (a := 12) zfk_in_12) (zon (a := 13) zfk_in_13)))))
theorem zfc {oc n : Nat} {q : Nat × Nat × Nat} (hoc : oc < 14) (hn : n < 1024) (h : zfld oc n = some q) : zfcb (oc * 1024 + n) = true := by
  rcases zfk_in oc (Nat.zero_le _) hoc n hn with h1 | h1
  · unfold zfld at h; rw [h1] at h; cases h
  · exact List.all_eq_true.mp zfc0 _ h1
def zmpk (k : Nat) : Nat := (zH k 11409 (zH k 6197 (zH k 3126 (zH k 117 (zH k 71 (zH k 47 (zH k 31 (zH k 25 (zE k 3 173 0) (zE k 25 176 0)) (zH k 41 (zE k 31 512 0) (zE k 41 514 0))) (zH k 60 (zH k 57 (zE k 47 1209 0) (zE k 57 601 0)) (zH k 67 (zE k 60 609 0) (zE k 67 633 0)))) (zH k 88 (zH k 81 (zH k 75 (zE k 71 637 0) (zE k 75 641 0)) (zH k 84 (zE k 81 642 0) (zE k 84 646 0))) (zH k 98 (zH k 94 (zE k 88 655 0) (zE k 94 650 0)) (zH k 104 (zE k 98 654 0) (zH k 114 (zE k 104 659 0) (zE k 114 613 0)))))) (zH k 1064 (zH k 131 (zH k 124 (zH k 120 (zE k 117 617 0) (zE k 120 1014 0)) (zH k 127 (zE k 124 1015 0) (zE k 127 1020 0))) (zH k 137 (zH k 134 (zE k 131 722 0) (zE k 134 726 0)) (zH k 1027 (zE k 137 730 0) (zE k 1027 312 0)))) (zH k 3094 (zH k 2088 (zH k 2051 (zE k 1064 997 0) (zE k 2051 517 0)) (zH k 3075 (zE k 2088 1295 0) (zE k 3075 251 0))) (zH k 3114 (zH k 3107 (zE k 3094 1098 0) (zE k 3107 1099 0)) (zH k 3118 (zE k 3114 1103 0) (zH k 3122 (zE k 3118 1107 0) (zE k 3122 1108 0))))))) (zH k 5178 (zH k 4155 (zH k 4133 (zH k 3135 (zH k 3132 (zE k 3126 1116 0) (zE k 3132 1117 0)) (zH k 4099 (zE k 3135 1128 0) (zE k 4099 124 0))) (zH k 4147 (zH k 4143 (zE k 4133 125 0) (zE k 4143 473 0)) (zH k 4151 (zE k 4147 481 0) (zE k 4151 493 0)))) (zH k 5123 (zH k 4161 (zH k 4158 (zE k 4155 477 0) (zE k 4158 485 0)) (zH k 4164 (zE k 4161 489 0) (zE k 4164 605 0))) (zH k 5159 (zH k 5131 (zE k 5123 199 0) (zE k 5131 202 0)) (zH k 5167 (zE k 5159 1038 0) (zH k 5174 (zE k 5167 1044 0) (zE k 5174 1075 0)))))) (zH k 5238 (zH k 5216 (zH k 5196 (zH k 5192 (zE k 5178 1078 0) (zE k 5192 1082 0)) (zH k 5212 (zE k 5196 1089 0) (zE k 5212 1048 0))) (zH k 5229 (zH k 5220 (zE k 5216 1052 0) (zE k 5220 1053 0)) (zH k 5232 (zE k 5229 1054 0) (zH k 5235 (zE k 5232 1058 0) (zE k 5235 1059 0))))) (zH k 6147 (zH k 5244 (zH k 5241 (zE k 5238 1063 0) (zE k 5241 1067 0)) (zH k 5254 (zE k 5244 1068 0) (zE k 5254 1074 0))) (zH k 6174 (zH k 6171 (zE k 6147 348 0) (zE k 6171 755 0)) (zH k 6178 (zE k 6174 759 0) (zH k 6184 (zE k 6178 763 0) (zE k 6184 766 0)))))))) (zH k 8254 (zH k 7275 (zH k 7241 (zH k 7171 (zH k 6219 (zH k 6216 (zE k 6197 824 0) (zE k 6216 772 0)) (zH k 6222 (zE k 6219 782 0) (zE k 6222 785 0))) (zH k 7227 (zH k 7224 (zE k 7171 376 0) (zE k 7224 751 0)) (zH k 7237 (zE k 7227 879 0) (zE k 7237 885 0)))) (zH k 7257 (zH k 7247 (zH k 7244 (zE k 7241 889 0) (zE k 7244 900 0)) (zH k 7253 (zE k 7247 963 0) (zE k 7253 895 0))) (zH k 7263 (zH k 7260 (zE k 7257 899 0) (zE k 7260 904 0)) (zH k 7267 (zE k 7263 908 0) (zH k 7271 (zE k 7267 913 0) (zE k 7271 917 0)))))) (zH k 7311 (zH k 7298 (zH k 7282 (zH k 7279 (zE k 7275 925 0) (zE k 7279 967 0)) (zH k 7289 (zE k 7282 951 0) (zE k 7289 973 0))) (zH k 7304 (zH k 7301 (zE k 7298 921 0) (zE k 7301 939 0)) (zH k 7307 (zE k 7304 929 0) (zE k 7307 955 0)))) (zH k 7356 (zH k 7327 (zH k 7321 (zE k 7311 947 0) (zE k 7321 933 0)) (zH k 7353 (zE k 7327 943 0) (zE k 7353 694 0))) (zH k 7363 (zH k 7360 (zE k 7356 698 0) (zE k 7360 702 0)) (zH k 8195 (zE k 7363 706 0) (zH k 8245 (zE k 8195 270 0) (zE k 8245 1137 0))))))) (zH k 11291 (zH k 9219 (zH k 8271 (zH k 8263 (zH k 8260 (zE k 8254 1146 0) (zE k 8260 1147 0)) (zH k 8267 (zE k 8263 1151 0) (zE k 8267 1155 0))) (zH k 8279 (zH k 8275 (zE k 8271 1163 0) (zE k 8275 1159 0)) (zH k 8282 (zE k 8279 1167 0) (zE k 8282 1171 0)))) (zH k 9273 (zH k 9256 (zH k 9247 (zE k 9219 205 0) (zE k 9247 1042 0)) (zH k 9267 (zE k 9256 1043 0) (zE k 9267 1086 0))) (zH k 11267 (zH k 9278 (zE k 9273 1072 0) (zE k 9278 1073 0)) (zH k 11275 (zE k 11267 116 0) (zH k 11282 (zE k 11275 121 0) (zE k 11282 170 0)))))) (zH k 11356 (zH k 11321 (zH k 11307 (zH k 11300 (zE k 11291 196 0) (zE k 11300 248 0)) (zH k 11314 (zE k 11307 267 0) (zE k 11314 309 0))) (zH k 11344 (zH k 11328 (zE k 11321 345 0) (zE k 11328 373 0)) (zH k 11348 (zE k 11344 461 0) (zH k 11352 (zE k 11348 469 0) (zE k 11352 500 0))))) (zH k 11381 (zH k 11370 (zH k 11359 (zE k 11356 508 0) (zE k 11359 584 0)) (zH k 11377 (zE k 11370 593 0) (zE k 11377 597 0))) (zH k 11396 (zH k 11384 (zE k 11381 625 0) (zE k 11384 629 0)) (zH k 11400 (zE k 11396 671 0) (zH k 11404 (zE k 11400 672 0) (zE k 11404 676 0))))))))) (zH k 12718 (zH k 12529 (zH k 11474 (zH k 11440 (zH k 11427 (zH k 11416 (zH k 11412 (zE k 11409 710 0) (zE k 11412 714 0)) (zH k 11420 (zE k 11416 718 0) (zE k 11420 738 0))) (zH k 11434 (zH k 11430 (zE k 11427 747 0) (zE k 11430 984 0)) (zH k 11437 (zE k 11434 992 0) (zE k 11437 993 0)))) (zH k 11454 (zH k 11447 (zH k 11443 (zE k 11440 1005 0) (zE k 11443 1010 0)) (zH k 11450 (zE k 11447 1025 0) (zE k 11450 1026 0))) (zH k 11463 (zH k 11460 (zE k 11454 1034 0) (zE k 11460 1094 0)) (zH k 11467 (zE k 11463 1112 0) (zH k 11470 (zE k 11467 1124 0) (zE k 11470 1133 0)))))) (zH k 11534 (zH k 11506 (zH k 11491 (zH k 11481 (zE k 11474 1142 0) (zE k 11481 1176 0)) (zH k 11497 (zE k 11491 1266 0) (zE k 11497 1291 0))) (zH k 11519 (zH k 11512 (zE k 11506 1192 0) (zE k 11512 1197 0)) (zH k 11522 (zE k 11519 1205 0) (zE k 11522 1210 0)))) (zH k 12512 (zH k 12496 (zH k 12289 (zE k 11534 1214 0) (zE k 12289 1301 0)) (zH k 12500 (zE k 12496 1578 0) (zE k 12500 1558 0))) (zH k 12518 (zH k 12515 (zE k 12512 1570 0) (zE k 12515 1574 0)) (zH k 12522 (zE k 12518 1582 0) (zH k 12526 (zE k 12522 1593 0) (zE k 12526 1617 0))))))) (zH k 12653 (zH k 12586 (zH k 12543 (zH k 12536 (zH k 12532 (zE k 12529 1609 0) (zE k 12532 1613 0)) (zH k 12540 (zE k 12536 1621 0) (zE k 12540 1629 0))) (zH k 12549 (zH k 12546 (zE k 12543 1633 0) (zE k 12546 1637 0)) (zH k 12559 (zE k 12549 1649 0) (zE k 12559 1678 0)))) (zH k 12636 (zH k 12629 (zH k 12625 (zE k 12586 1695 0) (zE k 12625 1724 0)) (zH k 12633 (zE k 12629 1706 0) (zE k 12633 1738 0))) (zH k 12643 (zH k 12640 (zE k 12636 1715 0) (zE k 12640 1711 0)) (zH k 12646 (zE k 12643 1734 0) (zH k 12650 (zE k 12646 1746 0) (zE k 12650 1691 0)))))) (zH k 12685 (zH k 12665 (zH k 12659 (zH k 12656 (zE k 12653 1742 0) (zE k 12656 1701 0)) (zH k 12662 (zE k 12659 1662 0) (zE k 12662 1658 0))) (zH k 12674 (zH k 12668 (zE k 12665 1666 0) (zE k 12668 1654 0)) (zH k 12677 (zE k 12674 1767 0) (zH k 12680 (zE k 12677 1771 0) (zE k 12680 1775 0))))) (zH k 12701 (zH k 12691 (zH k 12688 (zE k 12685 1754 0) (zE k 12688 1759 0)) (zH k 12697 (zE k 12691 1763 0) (zE k 12697 1794 0))) (zH k 12708 (zH k 12704 (zE k 12701 1798 0) (zE k 12704 1790 0)) (zH k 12711 (zE k 12708 1802 0) (zH k 12714 (zE k 12711 1806 0) (zE k 12714 1786 0)))))))) (zH k 13388 (zH k 13346 (zH k 13319 (zH k 12732 (zH k 12726 (zH k 12721 (zE k 12718 1810 0) (zE k 12721 1826 0)) (zH k 12729 (zE k 12726 1827 0) (zE k 12729 1818 0))) (zH k 12743 (zH k 12737 (zE k 12732 1822 0) (zE k 12737 1850 0)) (zH k 12746 (zE k 12743 1846 0) (zE k 12746 1842 0)))) (zH k 13335 (zH k 13330 (zH k 13327 (zE k 13319 1222 0) (zE k 13327 113 0)) (zH k 13331 (zE k 13330 1298 0) (zE k 13331 451 0))) (zH k 13340 (zH k 13336 (zE k 13335 1553 0) (zE k 13336 457 0)) (zH k 13341 (zE k 13340 1562 0) (zH k 13345 (zE k 13341 465 0) (zE k 13345 1566 0)))))) (zH k 13367 (zH k 13355 (zH k 13351 (zH k 13350 (zE k 13346 496 0) (zE k 13350 1585 0)) (zH k 13354 (zE k 13351 504 0) (zE k 13354 1589 0))) (zH k 13360 (zH k 13359 (zE k 13355 580 0) (zE k 13359 1597 0)) (zH k 13363 (zE k 13360 585 0) (zH k 13364 (zE k 13363 1601 0) (zE k 13364 589 0))))) (zH k 13376 (zH k 13371 (zH k 13368 (zE k 13367 1605 0) (zE k 13368 621 0)) (zH k 13372 (zE k 13371 1625 0) (zE k 13372 663 0))) (zH k 13380 (zH k 13377 (zE k 13376 1641 0) (zE k 13377 667 0)) (zH k 13383 (zE k 13380 1645 0) (zH k 13387 (zE k 13383 734 0) (zE k 13387 1682 0))))))) (zH k 13426 (zH k 13406 (zH k 13397 (zH k 13393 (zH k 13392 (zE k 13388 743 0) (zE k 13392 1687 0)) (zH k 13396 (zE k 13393 980 0) (zE k 13396 1670 0))) (zH k 13402 (zH k 13401 (zE k 13397 988 0) (zE k 13401 1674 0)) (zH k 13405 (zE k 13402 1001 0) (zE k 13405 1750 0)))) (zH k 13415 (zH k 13411 (zH k 13410 (zE k 13406 1021 0) (zE k 13410 1778 0)) (zH k 13414 (zE k 13411 1030 0) (zE k 13414 1782 0))) (zH k 13419 (zH k 13418 (zE k 13415 1090 0) (zE k 13418 1814 0)) (zH k 13422 (zE k 13419 1120 0) (zH k 13423 (zE k 13422 1830 0) (zE k 13423 1129 0)))))) (zH k 13445 (zH k 13434 (zH k 13430 (zH k 13427 (zE k 13426 1834 0) (zE k 13427 1138 0)) (zH k 13431 (zE k 13430 1838 0) (zE k 13431 1172 0))) (zH k 13438 (zH k 13435 (zE k 13434 1854 0) (zE k 13435 1180 0)) (zH k 13439 (zE k 13438 1858 0) (zH k 13444 (zE k 13439 1218 0) (zE k 13444 1862 0))))) (zH k 13455 (zH k 13451 (zH k 13448 (zE k 13445 1549 0) (zE k 13448 1184 0)) (zH k 13452 (zE k 13451 1866 0) (zE k 13452 1188 0))) (zH k 13459 (zH k 13456 (zE k 13455 1870 0) (zE k 13456 1193 0)) (zH k 13460 (zE k 13459 1874 0) (zH k 13463 (zE k 13460 1201 0) (zE k 13463 1878 0))))))))))
def zmnk (k : Nat) : Bool := (zH k 9256 (zE k 124 true false) (zE k 9256 true false))
def zyn (mi : Nat) : MethodName := (zH mi 106 (zH mi 53 (zH mi 26 (zH mi 13 (zH mi 6 (zH mi 3 (zH mi 1 (zE mi 0 yX0_addLine yX0_init) (zH mi 2 (zE mi 1 yX0_isLine yX0_init) (zE mi 2 yX0_isQuiet yX0_init))) (zH mi 4 (zE mi 3 yX0_isCalling yX0_init) (zH mi 5 (zE mi 4 yX0_callingLines yX0_init) (zE mi 5 yX0_lineAt yX0_init)))) (zH mi 9 (zH mi 7 (zE mi 6 yX0_take yX0_init) (zH mi 8 (zE mi 7 yX0_step yX0_init) (zE mi 8 yX0_stepFinal yX0_init))) (zH mi 11 (zH mi 10 (zE mi 9 yX0_hunt yX0_init) (zE mi 10 yX0_hold yX0_init)) (zH mi 12 (zE mi 11 yX0_make yX0_init) (zE mi 12 yX0_release yX0_init))))) (zH mi 19 (zH mi 16 (zH mi 14 (zE mi 13 yX0_setHolder yX0_init) (zH mi 15 (zE mi 14 yX1_write yX0_init) (zE mi 15 yX1_tell yX0_init))) (zH mi 17 (zE mi 16 yX1_sum yX0_init) (zH mi 18 (zE mi 17 yX1_unitsKnown yX0_init) (zE mi 18 yX1_show yX0_init)))) (zH mi 22 (zH mi 20 (zE mi 19 yX2_head yX0_init) (zH mi 21 (zE mi 20 yX2_ofCall yX0_init) (zE mi 21 yX2_noteDigit yX0_init))) (zH mi 24 (zH mi 23 (zE mi 22 yX2_addHeld yX0_init) (zE mi 23 yX2_clear yX0_init)) (zH mi 25 (zE mi 24 yX3_measure yX0_init) (zE mi 25 yX3_countEnd yX0_init)))))) (zH mi 39 (zH mi 32 (zH mi 29 (zH mi 27 (zE mi 26 yX3_leadsWithin yX0_init) (zH mi 28 (zE mi 27 yX3_waysLost yX0_init) (zE mi 28 yX3_sharedMore yX0_init))) (zH mi 30 (zE mi 29 yX3_ways yX0_init) (zH mi 31 (zE mi 30 yX4_addRack yX0_init) (zE mi 31 yX4_lead yX0_init)))) (zH mi 35 (zH mi 33 (zE mi 32 yX4_tellZone yX0_init) (zH mi 34 (zE mi 33 yX4_isRackOf yX0_init) (zE mi 34 yX4_isLevel yX0_init))) (zH mi 37 (zH mi 36 (zE mi 35 yX4_isSwitch yX0_init) (zE mi 36 yX4_isEnd yX0_init)) (zH mi 38 (zE mi 37 yX4_isJunction yX0_init) (zE mi 38 yX4_isFinal yX0_init))))) (zH mi 46 (zH mi 42 (zH mi 40 (zE mi 39 yX4_zoneOf yX0_init) (zH mi 41 (zE mi 40 yX4_spot yX0_init) (zE mi 41 yX4_leadsTo yX0_init))) (zH mi 44 (zH mi 43 (zE mi 42 yX4_leadsFrom yX0_init) (zE mi 43 yX4_isOut yX0_init)) (zH mi 45 (zE mi 44 yX4_isFaulty yX0_init) (zE mi 45 yX4_canTake yX0_init)))) (zH mi 49 (zH mi 47 (zE mi 46 yX4_heldWithin yX0_init) (zH mi 48 (zE mi 47 yX4_allSwitches yX0_init) (zE mi 48 yX5_fewestMoved yX0_init))) (zH mi 51 (zH mi 50 (zE mi 49 yX5_canMove yX0_init) (zE mi 50 yX5_laysBoth yX0_init)) (zH mi 52 (zE mi 51 yX5_canLay yX0_init) (zE mi 52 yX5_layOver yX0_init))))))) (zH mi 79 (zH mi 66 (zH mi 59 (zH mi 56 (zH mi 54 (zE mi 53 yX5_goesOn yX0_init) (zH mi 55 (zE mi 54 yX5_restIsLaid yX0_init) (zE mi 55 yX6_addSigns yX0_init))) (zH mi 57 (zE mi 56 yX6_rewind yX0_init) (zH mi 58 (zE mi 57 yX6_next yX0_init) (zE mi 58 yX6_runFrom yX0_init)))) (zH mi 62 (zH mi 60 (zE mi 59 yX6_isAtEnd yX0_init) (zH mi 61 (zE mi 60 yX6_isNumber yX0_init) (zE mi 61 yX6_isSign yX0_init))) (zH mi 64 (zH mi 63 (zE mi 62 yX6_isWord yX0_init) (zE mi 63 yX6_isName yX0_init)) (zH mi 65 (zE mi 64 yX6_value yX0_init) (zE mi 65 yX6_wordRead yX0_init))))) (zH mi 72 (zH mi 69 (zH mi 67 (zE mi 66 yX6_number yX0_init) (zH mi 68 (zE mi 67 yX6_letters yX0_init) (zE mi 68 yX7_readTape yX0_init))) (zH mi 70 (zE mi 69 yX7_passFirst yX0_init) (zH mi 71 (zE mi 70 yX7_readLet yX0_init) (zE mi 71 yX7_readUnit yX0_init)))) (zH mi 75 (zH mi 73 (zE mi 72 yX7_fail yX0_init) (zH mi 74 (zE mi 73 yX7_passSign yX0_init) (zE mi 74 yX7_passWord yX0_init))) (zH mi 77 (zH mi 76 (zE mi 75 yX7_isNumberWithin yX0_init) (zE mi 76 yX7_slotOf yX0_init)) (zH mi 78 (zE mi 77 yX7_readOperations yX0_init) (zE mi 78 yX7_operationAt yX0_init)))))) (zH mi 92 (zH mi 85 (zH mi 82 (zH mi 80 (zE mi 79 yX7_readPart yX0_init) (zH mi 81 (zE mi 80 yX7_readWithin yX0_init) (zE mi 81 yX7_put yX0_init))) (zH mi 83 (zE mi 82 yX7_unitsOf yX0_init) (zH mi 84 (zE mi 83 yX7_firstMet yX0_init) (zE mi 84 yX7_resultOf yX0_init)))) (zH mi 88 (zH mi 86 (zE mi 85 yX7_operand yX0_init) (zH mi 87 (zE mi 86 yX7_joined yX0_init) (zE mi 87 yX8_note yX0_init))) (zH mi 90 (zH mi 89 (zE mi 88 yX8_fewest yX0_init) (zE mi 89 yX8_isInAllSets yX0_init)) (zH mi 91 (zE mi 90 yX8_markSound yX0_init) (zE mi 91 yX8_choose yX0_init))))) (zH mi 99 (zH mi 95 (zH mi 93 (zE mi 92 yX8_firstUnexplained yX0_init) (zH mi 94 (zE mi 93 yX8_isExplained yX0_init) (zE mi 94 yX8_addSet yX0_init))) (zH mi 97 (zH mi 96 (zE mi 95 yX8_comesFirst yX0_init) (zE mi 96 yX9_toRing yX0_init)) (zH mi 98 (zE mi 97 yX9_again yX0_init) (zE mi 98 yX9_ringsOverJunction yX0_init)))) (zH mi 102 (zH mi 100 (zE mi 99 yX9_ringsAtFinal yX0_init) (zH mi 101 (zE mi 100 yX11_seconds yX0_init) (zE mi 101 yX11_rack yX0_init))) (zH mi 104 (zH mi 103 (zE mi 102 yX11_outlet yX0_init) (zE mi 103 yX11_zone yX0_init)) (zH mi 105 (zE mi 104 yX11_line yX0_init) (zE mi 105 yX11_out yX0_init)))))))) (zH mi 159 (zH mi 132 (zH mi 119 (zH mi 112 (zH mi 109 (zH mi 107 (zE mi 106 yX11_faulty yX0_init) (zH mi 108 (zE mi 107 yX11_lift yX0_init) (zE mi 108 yX11_dial yX0_init))) (zH mi 110 (zE mi 109 yX11_answer yX0_init) (zH mi 111 (zE mi 110 yX11_end yX0_init) (zE mi 111 yX11_feed yX0_init)))) (zH mi 115 (zH mi 113 (zE mi 112 yX11_tariff yX0_init) (zH mi 114 (zE mi 113 yX11_word yX0_init) (zE mi 114 yX11_bill yX0_init))) (zH mi 117 (zH mi 116 (zE mi 115 yX11_would yX0_init) (zE mi 116 yX11_block yX0_init)) (zH mi 118 (zE mi 117 yX11_laid yX0_init) (zE mi 118 yX11_lost yX0_init))))) (zH mi 125 (zH mi 122 (zH mi 120 (zE mi 119 yX11_more yX0_init) (zH mi 121 (zE mi 120 yX11_test yX0_init) (zE mi 121 yX11_explain yX0_init))) (zH mi 123 (zE mi 122 yX11_sure yX0_init) (zH mi 124 (zE mi 123 yX11_forget yX0_init) (zE mi 124 yX11_look yX0_init)))) (zH mi 128 (zH mi 126 (zE mi 125 yX11_path yX0_init) (zH mi 127 (zE mi 126 yX11_held yX0_init) (zE mi 127 yX11_book yX0_init))) (zH mi 130 (zH mi 129 (zE mi 128 yX11_count yX0_init) (zE mi 129 yX11_today yX0_init)) (zH mi 131 (zE mi 130 yX11_mayDial yX0_init) (zE mi 131 yX11_blocksNext yX0_init)))))) (zH mi 145 (zH mi 138 (zH mi 135 (zH mi 133 (zE mi 132 yX11_digitAt yX0_init) (zH mi 134 (zE mi 133 yX12_thrown yX0_init) (zE mi 134 yX12_within yX0_init))) (zH mi 136 (zE mi 135 yX12_isSwitch yX0_init) (zH mi 137 (zE mi 136 yX12_isEnd yX0_init) (zE mi 137 yX12_isLine yX0_init)))) (zH mi 141 (zH mi 139 (zE mi 138 yX12_isSelectors yX0_init) (zH mi 140 (zE mi 139 yX12_seconds yX0_init) (zE mi 140 yX12_rack yX0_init))) (zH mi 143 (zH mi 142 (zE mi 141 yX12_outletAt yX0_init) (zE mi 142 yX12_outlet yX0_init)) (zH mi 144 (zE mi 143 yX12_zone yX0_init) (zE mi 144 yX12_lineOf yX0_init))))) (zH mi 152 (zH mi 148 (zH mi 146 (zE mi 145 yX12_line yX0_init) (zH mi 147 (zE mi 146 yX12_out yX0_init) (zE mi 147 yX12_faulty yX0_init))) (zH mi 150 (zH mi 149 (zE mi 148 yX12_isFree yX0_init) (zE mi 149 yX12_isQuiet yX0_init)) (zH mi 151 (zE mi 150 yX12_firstFree yX0_init) (zE mi 151 yX12_goesTo yX0_init)))) (zH mi 155 (zH mi 153 (zE mi 152 yX12_hold yX0_init) (zH mi 154 (zE mi 153 yX12_lift yX0_init) (zE mi 154 yX12_head yX0_init))) (zH mi 157 (zH mi 156 (zE mi 155 yX12_isEnding yX0_init) (zE mi 156 yX12_dial yX0_init)) (zH mi 158 (zE mi 157 yX12_answer yX0_init) (zE mi 158 yX12_end yX0_init))))))) (zH mi 186 (zH mi 172 (zH mi 165 (zH mi 162 (zH mi 160 (zE mi 159 yX12_word yX0_init) (zH mi 161 (zE mi 160 yX12_unitsBy yX0_init) (zE mi 161 yX12_bill yX0_init))) (zH mi 163 (zE mi 162 yX12_feed yX0_init) (zH mi 164 (zE mi 163 yX12_signAt yX0_init) (zE mi 164 yX12_next yX0_init)))) (zH mi 168 (zH mi 166 (zE mi 165 yX12_isWord yX0_init) (zH mi 167 (zE mi 166 yX12_isSign yX0_init) (zE mi 167 yX12_fails yX0_init))) (zH mi 170 (zH mi 169 (zE mi 168 yX12_puts yX0_init) (zE mi 169 yX12_fact yX0_init)) (zH mi 171 (zE mi 170 yX12_isOwn yX0_init) (zE mi 171 yX12_nameAt yX0_init))))) (zH mi 179 (zH mi 175 (zH mi 173 (zE mi 172 yX12_reads yX0_init) (zH mi 174 (zE mi 173 yX12_readsLine yX0_init) (zE mi 174 yX12_tariff yX0_init))) (zH mi 177 (zH mi 176 (zE mi 175 yX12_opens yX0_init) (zE mi 176 yX12_sums yX0_init)) (zH mi 178 (zE mi 177 yX12_tests yX0_init) (zE mi 178 yX12_worth yX0_init)))) (zH mi 182 (zH mi 180 (zE mi 179 yX12_unitsOf yX0_init) (zH mi 181 (zE mi 180 yX12_clears yX0_init) (zE mi 181 yX12_digitOf yX0_init))) (zH mi 184 (zH mi 183 (zE mi 182 yX12_tries yX0_init) (zE mi 183 yX12_meets yX0_init)) (zH mi 185 (zE mi 184 yX12_canTry yX0_init) (zE mi 185 yX12_would yX0_init)))))) (zH mi 199 (zH mi 192 (zH mi 189 (zH mi 187 (zE mi 186 yX12_block yX0_init) (zH mi 188 (zE mi 187 yX12_mayUse yX0_init) (zE mi 188 yX12_lays yX0_init))) (zH mi 190 (zE mi 189 yX12_takes yX0_init) (zH mi 191 (zE mi 190 yX12_gives yX0_init) (zE mi 191 yX12_counts yX0_init)))) (zH mi 195 (zH mi 193 (zE mi 192 yX12_canLay yX0_init) (zH mi 194 (zE mi 193 yX12_canMove yX0_init) (zE mi 194 yX12_laid yX0_init))) (zH mi 197 (zH mi 196 (zE mi 195 yX12_ways yX0_init) (zE mi 196 yX12_losing yX0_init)) (zH mi 198 (zE mi 197 yX12_canLose yX0_init) (zE mi 198 yX12_lost yX0_init))))) (zH mi 206 (zH mi 202 (zH mi 200 (zE mi 199 yX12_more yX0_init) (zH mi 201 (zE mi 200 yX12_test yX0_init) (zE mi 201 yX12_explains yX0_init))) (zH mi 204 (zH mi 203 (zE mi 202 yX12_found yX0_init) (zE mi 203 yX12_fewest yX0_init)) (zH mi 205 (zE mi 204 yX12_explain yX0_init) (zE mi 205 yX12_sure yX0_init)))) (zH mi 209 (zH mi 207 (zE mi 206 yX12_forget yX0_init) (zH mi 208 (zE mi 207 yX12_look yX0_init) (zE mi 208 yX12_path yX0_init))) (zH mi 211 (zH mi 210 (zE mi 209 yX12_held yX0_init) (zE mi 210 yX12_book yX0_init)) (zH mi 212 (zE mi 211 yX12_count yX0_init) (zE mi 212 yL_law yX0_init)))))))))
def zrt (mi : Nat) : Option FieldType := (zH mi 106 (zH mi 53 (zH mi 26 (zH mi 13 (zH mi 6 (zH mi 3 (zH mi 1 (zE mi 0 (some .int) none) (zH mi 2 (zE mi 1 (some .boolean) none) (zE mi 2 (some .boolean) none))) (zH mi 4 (zE mi 3 (some .boolean) none) (zH mi 5 (zE mi 4 (some .int) none) (zE mi 5 (some .int) none)))) (zH mi 9 (zH mi 7 (zE mi 6 (some .int) none) (zH mi 8 (zE mi 7 (some .int) none) (zE mi 8 none none))) (zH mi 11 (zH mi 10 (zE mi 9 none none) (zE mi 10 none none)) (zH mi 12 (zE mi 11 (some .int) none) (zE mi 12 none none))))) (zH mi 19 (zH mi 16 (zH mi 14 (zE mi 13 none none) (zH mi 15 (zE mi 14 none none) (zE mi 15 (some .boolean) none))) (zH mi 17 (zE mi 16 (some .int) none) (zH mi 18 (zE mi 17 (some .int) none) (zE mi 18 (some .int) none)))) (zH mi 22 (zH mi 20 (zE mi 19 (some .int) none) (zH mi 21 (zE mi 20 (some .int) none) (zE mi 21 none none))) (zH mi 24 (zH mi 23 (zE mi 22 none none) (zE mi 23 none none)) (zH mi 25 (zE mi 24 (some .boolean) none) (zE mi 25 none none)))))) (zH mi 39 (zH mi 32 (zH mi 29 (zH mi 27 (zE mi 26 (some .boolean) none) (zH mi 28 (zE mi 27 (some .int) none) (zE mi 28 (some .int) none))) (zH mi 30 (zE mi 29 (some .int) none) (zH mi 31 (zE mi 30 (some .int) none) (zE mi 31 (some .boolean) none)))) (zH mi 35 (zH mi 33 (zE mi 32 (some .boolean) none) (zH mi 34 (zE mi 33 (some .boolean) none) (zE mi 34 (some .boolean) none))) (zH mi 37 (zH mi 36 (zE mi 35 (some .boolean) none) (zE mi 36 (some .boolean) none)) (zH mi 38 (zE mi 37 (some .boolean) none) (zE mi 38 (some .boolean) none))))) (zH mi 46 (zH mi 42 (zH mi 40 (zE mi 39 (some .int) none) (zH mi 41 (zE mi 40 (some .int) none) (zE mi 41 (some .int) none))) (zH mi 44 (zH mi 43 (zE mi 42 (some .int) none) (zE mi 43 (some .boolean) none)) (zH mi 45 (zE mi 44 (some .boolean) none) (zE mi 45 (some .boolean) none)))) (zH mi 49 (zH mi 47 (zE mi 46 (some .int) none) (zH mi 48 (zE mi 47 (some .int) none) (zE mi 48 (some .int) none))) (zH mi 51 (zH mi 50 (zE mi 49 (some .boolean) none) (zE mi 50 (some .boolean) none)) (zH mi 52 (zE mi 51 (some .boolean) none) (zE mi 52 (some .boolean) none))))))) (zH mi 79 (zH mi 66 (zH mi 59 (zH mi 56 (zH mi 54 (zE mi 53 (some .boolean) none) (zH mi 55 (zE mi 54 (some .boolean) none) (zE mi 55 none none))) (zH mi 57 (zE mi 56 none none) (zH mi 58 (zE mi 57 none none) (zE mi 58 (some .int) none)))) (zH mi 62 (zH mi 60 (zE mi 59 (some .boolean) none) (zH mi 61 (zE mi 60 (some .boolean) none) (zE mi 61 (some .boolean) none))) (zH mi 64 (zH mi 63 (zE mi 62 (some .boolean) none) (zE mi 63 (some .boolean) none)) (zH mi 65 (zE mi 64 (some .int) none) (zE mi 65 (some (.object "TownExchange$Word")) none))))) (zH mi 72 (zH mi 69 (zH mi 67 (zE mi 66 (some .int) none) (zH mi 68 (zE mi 67 (some .long) none) (zE mi 68 (some .int) none))) (zH mi 70 (zE mi 69 (some .boolean) none) (zH mi 71 (zE mi 70 (some .boolean) none) (zE mi 71 (some .boolean) none)))) (zH mi 75 (zH mi 73 (zE mi 72 (some .boolean) none) (zH mi 74 (zE mi 73 (some .boolean) none) (zE mi 74 (some .boolean) none))) (zH mi 77 (zH mi 76 (zE mi 75 (some .boolean) none) (zE mi 76 (some .int) none)) (zH mi 78 (zE mi 77 (some .boolean) none) (zE mi 78 (some .int) none)))))) (zH mi 92 (zH mi 85 (zH mi 82 (zH mi 80 (zE mi 79 (some .boolean) none) (zH mi 81 (zE mi 80 (some .boolean) none) (zE mi 81 none none))) (zH mi 83 (zE mi 82 (some .int) none) (zH mi 84 (zE mi 83 (some .int) none) (zE mi 84 (some .int) none)))) (zH mi 88 (zH mi 86 (zE mi 85 (some .int) none) (zH mi 87 (zE mi 86 (some .int) none) (zE mi 87 none none))) (zH mi 90 (zH mi 89 (zE mi 88 (some .int) none) (zE mi 89 (some .boolean) none)) (zH mi 91 (zE mi 90 none none) (zE mi 91 none none))))) (zH mi 99 (zH mi 95 (zH mi 93 (zE mi 92 (some .int) none) (zH mi 94 (zE mi 93 (some .boolean) none) (zE mi 94 none none))) (zH mi 97 (zH mi 96 (zE mi 95 (some .boolean) none) (zE mi 96 none none)) (zH mi 98 (zE mi 97 none none) (zE mi 98 (some .boolean) none)))) (zH mi 102 (zH mi 100 (zE mi 99 (some .boolean) none) (zH mi 101 (zE mi 100 (some .int) none) (zE mi 101 (some .int) none))) (zH mi 104 (zH mi 103 (zE mi 102 (some .boolean) none) (zE mi 103 (some .boolean) none)) (zH mi 105 (zE mi 104 (some .int) none) (zE mi 105 (some .boolean) none)))))))) (zH mi 159 (zH mi 132 (zH mi 119 (zH mi 112 (zH mi 109 (zH mi 107 (zE mi 106 (some .boolean) none) (zH mi 108 (zE mi 107 (some .int) none) (zE mi 108 (some .int) none))) (zH mi 110 (zE mi 109 (some .boolean) none) (zH mi 111 (zE mi 110 (some .int) none) (zE mi 111 (some .int) none)))) (zH mi 115 (zH mi 113 (zE mi 112 (some .int) none) (zH mi 114 (zE mi 113 (some .boolean) none) (zE mi 114 (some .int) none))) (zH mi 117 (zH mi 116 (zE mi 115 (some .int) none) (zE mi 116 (some .int) none)) (zH mi 118 (zE mi 117 (some .int) none) (zE mi 118 (some .int) none))))) (zH mi 125 (zH mi 122 (zH mi 120 (zE mi 119 (some .int) none) (zH mi 121 (zE mi 120 (some .int) none) (zE mi 121 (some .int) none))) (zH mi 123 (zE mi 122 (some .int) none) (zH mi 124 (zE mi 123 (some .int) none) (zE mi 124 (some .int) none)))) (zH mi 128 (zH mi 126 (zE mi 125 (some .int) none) (zH mi 127 (zE mi 126 (some .int) none) (zE mi 127 (some .int) none))) (zH mi 130 (zH mi 129 (zE mi 128 (some .int) none) (zE mi 129 (some .int) none)) (zH mi 131 (zE mi 130 (some .boolean) none) (zE mi 131 (some .boolean) none)))))) (zH mi 145 (zH mi 138 (zH mi 135 (zH mi 133 (zE mi 132 (some .int) none) (zH mi 134 (zE mi 133 (some .int) none) (zE mi 134 (some .boolean) none))) (zH mi 136 (zE mi 135 (some .boolean) none) (zH mi 137 (zE mi 136 (some .boolean) none) (zE mi 137 (some .boolean) none)))) (zH mi 141 (zH mi 139 (zE mi 138 (some .boolean) none) (zH mi 140 (zE mi 139 (some .int) none) (zE mi 140 (some .int) none))) (zH mi 143 (zH mi 142 (zE mi 141 (some .int) none) (zE mi 142 (some .boolean) none)) (zH mi 144 (zE mi 143 (some .boolean) none) (zE mi 144 (some .int) none))))) (zH mi 152 (zH mi 148 (zH mi 146 (zE mi 145 (some .int) none) (zH mi 147 (zE mi 146 (some .boolean) none) (zE mi 147 (some .boolean) none))) (zH mi 150 (zH mi 149 (zE mi 148 (some .boolean) none) (zE mi 149 (some .boolean) none)) (zH mi 151 (zE mi 150 (some .int) none) (zE mi 151 (some .int) none)))) (zH mi 155 (zH mi 153 (zE mi 152 none none) (zH mi 154 (zE mi 153 (some .int) none) (zE mi 154 (some .int) none))) (zH mi 157 (zH mi 156 (zE mi 155 (some .boolean) none) (zE mi 156 (some .int) none)) (zH mi 158 (zE mi 157 (some .boolean) none) (zE mi 158 (some .int) none))))))) (zH mi 186 (zH mi 172 (zH mi 165 (zH mi 162 (zH mi 160 (zE mi 159 (some .boolean) none) (zH mi 161 (zE mi 160 (some .int) none) (zE mi 161 (some .int) none))) (zH mi 163 (zE mi 162 (some .int) none) (zH mi 164 (zE mi 163 (some .int) none) (zE mi 164 none none)))) (zH mi 168 (zH mi 166 (zE mi 165 (some .boolean) none) (zH mi 167 (zE mi 166 (some .boolean) none) (zE mi 167 (some .boolean) none))) (zH mi 170 (zH mi 169 (zE mi 168 none none) (zE mi 169 (some .int) none)) (zH mi 171 (zE mi 170 (some .boolean) none) (zE mi 171 (some .int) none))))) (zH mi 179 (zH mi 175 (zH mi 173 (zE mi 172 (some .boolean) none) (zH mi 174 (zE mi 173 (some .boolean) none) (zE mi 174 (some .int) none))) (zH mi 177 (zH mi 176 (zE mi 175 none none) (zE mi 176 none none)) (zH mi 178 (zE mi 177 none none) (zE mi 178 (some .int) none)))) (zH mi 182 (zH mi 180 (zE mi 179 (some .int) none) (zH mi 181 (zE mi 180 none none) (zE mi 181 (some .int) none))) (zH mi 184 (zH mi 183 (zE mi 182 none none) (zE mi 183 (some .int) none)) (zH mi 185 (zE mi 184 (some .boolean) none) (zE mi 185 (some .int) none)))))) (zH mi 199 (zH mi 192 (zH mi 189 (zH mi 187 (zE mi 186 (some .int) none) (zH mi 188 (zE mi 187 (some .boolean) none) (zE mi 188 (some .int) none))) (zH mi 190 (zE mi 189 none none) (zH mi 191 (zE mi 190 none none) (zE mi 191 (some .boolean) none)))) (zH mi 195 (zH mi 193 (zE mi 192 (some .boolean) none) (zH mi 194 (zE mi 193 (some .boolean) none) (zE mi 194 (some .int) none))) (zH mi 197 (zH mi 196 (zE mi 195 (some .int) none) (zE mi 196 (some .int) none)) (zH mi 198 (zE mi 197 (some .boolean) none) (zE mi 198 (some .int) none))))) (zH mi 206 (zH mi 202 (zH mi 200 (zE mi 199 (some .int) none) (zH mi 201 (zE mi 200 (some .int) none) (zE mi 201 (some .boolean) none))) (zH mi 204 (zH mi 203 (zE mi 202 none none) (zE mi 203 (some .int) none)) (zH mi 205 (zE mi 204 (some .int) none) (zE mi 205 (some .int) none)))) (zH mi 209 (zH mi 207 (zE mi 206 (some .int) none) (zH mi 208 (zE mi 207 (some .int) none) (zE mi 208 (some .int) none))) (zH mi 211 (zH mi 210 (zE mi 209 (some .int) none) (zE mi 210 (some .int) none)) (zH mi 212 (zE mi 211 (some .int) none) (zE mi 212 (some .boolean) none)))))))))
def zna (mi : Nat) : Nat := (zH mi 106 (zH mi 53 (zH mi 26 (zH mi 13 (zH mi 6 (zH mi 3 (zH mi 1 (zE mi 0 4 0) (zH mi 2 (zE mi 1 2 0) (zE mi 2 2 0))) (zH mi 4 (zE mi 3 2 0) (zH mi 5 (zE mi 4 1 0) (zE mi 5 3 0)))) (zH mi 9 (zH mi 7 (zE mi 6 2 0) (zH mi 8 (zE mi 7 3 0) (zE mi 8 3 0))) (zH mi 11 (zH mi 10 (zE mi 9 4 0) (zE mi 10 4 0)) (zH mi 12 (zE mi 11 4 0) (zE mi 12 2 0))))) (zH mi 19 (zH mi 16 (zH mi 14 (zE mi 13 3 0) (zH mi 15 (zE mi 14 5 0) (zE mi 15 4 0))) (zH mi 17 (zE mi 16 5 0) (zH mi 18 (zE mi 17 3 0) (zE mi 18 3 0)))) (zH mi 22 (zH mi 20 (zE mi 19 1 0) (zH mi 21 (zE mi 20 2 0) (zE mi 21 2 0))) (zH mi 24 (zH mi 23 (zE mi 22 2 0) (zE mi 23 1 0)) (zH mi 25 (zE mi 24 4 0) (zE mi 25 5 0)))))) (zH mi 39 (zH mi 32 (zH mi 29 (zH mi 27 (zE mi 26 6 0) (zH mi 28 (zE mi 27 3 0) (zE mi 28 3 0))) (zH mi 30 (zE mi 29 2 0) (zH mi 31 (zE mi 30 4 0) (zE mi 31 6 0)))) (zH mi 35 (zH mi 33 (zE mi 32 3 0) (zH mi 34 (zE mi 33 3 0) (zE mi 34 3 0))) (zH mi 37 (zH mi 36 (zE mi 35 2 0) (zE mi 36 2 0)) (zH mi 38 (zE mi 37 2 0) (zE mi 38 2 0))))) (zH mi 46 (zH mi 42 (zH mi 40 (zE mi 39 2 0) (zH mi 41 (zE mi 40 3 0) (zE mi 41 5 0))) (zH mi 44 (zH mi 43 (zE mi 42 4 0) (zE mi 43 2 0)) (zH mi 45 (zE mi 44 2 0) (zE mi 45 2 0)))) (zH mi 49 (zH mi 47 (zE mi 46 3 0) (zH mi 48 (zE mi 47 1 0) (zE mi 48 4 0))) (zH mi 51 (zH mi 50 (zE mi 49 1 0) (zE mi 50 2 0)) (zH mi 52 (zE mi 51 2 0) (zE mi 52 4 0))))))) (zH mi 79 (zH mi 66 (zH mi 59 (zH mi 56 (zH mi 54 (zE mi 53 4 0) (zH mi 55 (zE mi 54 2 0) (zE mi 55 2 0))) (zH mi 57 (zE mi 56 1 0) (zH mi 58 (zE mi 57 1 0) (zE mi 58 4 0)))) (zH mi 62 (zH mi 60 (zE mi 59 1 0) (zH mi 61 (zE mi 60 1 0) (zE mi 61 2 0))) (zH mi 64 (zH mi 63 (zE mi 62 2 0) (zE mi 63 1 0)) (zH mi 65 (zE mi 64 1 0) (zE mi 65 1 0))))) (zH mi 72 (zH mi 69 (zH mi 67 (zE mi 66 1 0) (zH mi 68 (zE mi 67 1 0) (zE mi 68 1 0))) (zH mi 70 (zE mi 69 1 0) (zH mi 71 (zE mi 70 1 0) (zE mi 71 1 0)))) (zH mi 75 (zH mi 73 (zE mi 72 2 0) (zH mi 74 (zE mi 73 2 0) (zE mi 74 2 0))) (zH mi 77 (zH mi 76 (zE mi 75 3 0) (zE mi 76 2 0)) (zH mi 78 (zE mi 77 3 0) (zE mi 78 2 0)))))) (zH mi 92 (zH mi 85 (zH mi 82 (zH mi 80 (zE mi 79 2 0) (zH mi 81 (zE mi 80 3 0) (zE mi 81 2 0))) (zH mi 83 (zE mi 82 5 0) (zH mi 84 (zE mi 83 1 0) (zE mi 84 3 0)))) (zH mi 88 (zH mi 86 (zE mi 85 2 0) (zH mi 87 (zE mi 86 3 0) (zE mi 87 3 0))) (zH mi 90 (zH mi 89 (zE mi 88 1 0) (zE mi 89 2 0)) (zH mi 91 (zE mi 90 1 0) (zE mi 91 3 0))))) (zH mi 99 (zH mi 95 (zH mi 93 (zE mi 92 2 0) (zH mi 94 (zE mi 93 3 0) (zE mi 94 2 0))) (zH mi 97 (zH mi 96 (zE mi 95 2 0) (zE mi 96 4 0)) (zH mi 98 (zE mi 97 2 0) (zE mi 98 2 0)))) (zH mi 102 (zH mi 100 (zE mi 99 4 0) (zH mi 101 (zE mi 100 2 0) (zE mi 101 4 0))) (zH mi 104 (zH mi 103 (zE mi 102 6 0) (zE mi 103 3 0)) (zH mi 105 (zE mi 104 4 0) (zE mi 105 3 0)))))))) (zH mi 159 (zH mi 132 (zH mi 119 (zH mi 112 (zH mi 109 (zH mi 107 (zE mi 106 3 0) (zH mi 108 (zE mi 107 2 0) (zE mi 108 3 0))) (zH mi 110 (zE mi 109 2 0) (zH mi 111 (zE mi 110 2 0) (zE mi 111 4 0)))) (zH mi 115 (zH mi 113 (zE mi 112 1 0) (zH mi 114 (zE mi 113 3 0) (zE mi 114 5 0))) (zH mi 117 (zH mi 116 (zE mi 115 4 0) (zE mi 116 7 0)) (zH mi 118 (zE mi 117 5 0) (zE mi 118 4 0))))) (zH mi 125 (zH mi 122 (zH mi 120 (zE mi 119 5 0) (zH mi 121 (zE mi 120 4 0) (zE mi 121 2 0))) (zH mi 123 (zE mi 122 2 0) (zH mi 124 (zE mi 123 1 0) (zE mi 124 3 0)))) (zH mi 128 (zH mi 126 (zE mi 125 3 0) (zH mi 127 (zE mi 126 2 0) (zE mi 127 3 0))) (zH mi 130 (zH mi 129 (zE mi 128 2 0) (zE mi 129 1 0)) (zH mi 131 (zE mi 130 4 0) (zE mi 131 7 0)))))) (zH mi 145 (zH mi 138 (zH mi 135 (zH mi 133 (zE mi 132 3 0) (zH mi 134 (zE mi 133 1 0) (zE mi 134 3 0))) (zH mi 136 (zE mi 135 2 0) (zH mi 137 (zE mi 136 2 0) (zE mi 137 2 0)))) (zH mi 141 (zH mi 139 (zE mi 138 2 0) (zH mi 140 (zE mi 139 2 0) (zE mi 140 4 0))) (zH mi 143 (zH mi 142 (zE mi 141 4 0) (zE mi 142 6 0)) (zH mi 144 (zE mi 143 3 0) (zE mi 144 3 0))))) (zH mi 152 (zH mi 148 (zH mi 146 (zE mi 145 4 0) (zH mi 147 (zE mi 146 3 0) (zE mi 147 3 0))) (zH mi 150 (zH mi 149 (zE mi 148 2 0) (zE mi 149 2 0)) (zH mi 151 (zE mi 150 2 0) (zE mi 151 3 0)))) (zH mi 155 (zH mi 153 (zE mi 152 3 0) (zH mi 154 (zE mi 153 2 0) (zE mi 154 2 0))) (zH mi 157 (zH mi 156 (zE mi 155 2 0) (zE mi 156 3 0)) (zH mi 158 (zE mi 157 2 0) (zE mi 158 2 0))))))) (zH mi 186 (zH mi 172 (zH mi 165 (zH mi 162 (zH mi 160 (zE mi 159 3 0) (zH mi 161 (zE mi 160 3 0) (zE mi 161 5 0))) (zH mi 163 (zE mi 162 4 0) (zH mi 164 (zE mi 163 2 0) (zE mi 164 1 0)))) (zH mi 168 (zH mi 166 (zE mi 165 2 0) (zH mi 167 (zE mi 166 2 0) (zE mi 167 2 0))) (zH mi 170 (zH mi 169 (zE mi 168 2 0) (zE mi 169 1 0)) (zH mi 171 (zE mi 170 1 0) (zE mi 171 1 0))))) (zH mi 179 (zH mi 175 (zH mi 173 (zE mi 172 2 0) (zH mi 174 (zE mi 173 1 0) (zE mi 174 1 0))) (zH mi 177 (zH mi 176 (zE mi 175 2 0) (zE mi 176 2 0)) (zH mi 178 (zE mi 177 2 0) (zE mi 178 2 0)))) (zH mi 182 (zH mi 180 (zE mi 179 2 0) (zH mi 181 (zE mi 180 1 0) (zE mi 181 3 0))) (zH mi 184 (zH mi 183 (zE mi 182 2 0) (zE mi 183 4 0)) (zH mi 185 (zE mi 184 4 0) (zE mi 185 4 0)))))) (zH mi 199 (zH mi 192 (zH mi 189 (zH mi 187 (zE mi 186 7 0) (zH mi 188 (zE mi 187 3 0) (zE mi 188 7 0))) (zH mi 190 (zE mi 189 2 0) (zH mi 191 (zE mi 190 1 0) (zE mi 191 4 0)))) (zH mi 195 (zH mi 193 (zE mi 192 5 0) (zH mi 194 (zE mi 193 5 0) (zE mi 194 5 0))) (zH mi 197 (zH mi 196 (zE mi 195 2 0) (zE mi 196 5 0)) (zH mi 198 (zE mi 197 4 0) (zE mi 198 4 0))))) (zH mi 206 (zH mi 202 (zH mi 200 (zE mi 199 5 0) (zH mi 201 (zE mi 200 4 0) (zE mi 201 2 0))) (zH mi 204 (zH mi 203 (zE mi 202 2 0) (zE mi 203 1 0)) (zH mi 205 (zE mi 204 2 0) (zE mi 205 2 0)))) (zH mi 209 (zH mi 207 (zE mi 206 1 0) (zH mi 208 (zE mi 207 3 0) (zE mi 208 3 0))) (zH mi 211 (zH mi 210 (zE mi 209 2 0) (zE mi 210 3 0)) (zH mi 212 (zE mi 211 2 0) (zE mi 212 1 0)))))))))
def zrk (mi : Nat) : Nat := (zH mi 106 (zH mi 53 (zH mi 26 (zH mi 13 (zH mi 6 (zH mi 3 (zH mi 1 (zE mi 0 1 9) (zH mi 2 (zE mi 1 1 9) (zE mi 2 1 9))) (zH mi 4 (zE mi 3 1 9) (zH mi 5 (zE mi 4 1 9) (zE mi 5 1 9)))) (zH mi 9 (zH mi 7 (zE mi 6 1 9) (zH mi 8 (zE mi 7 1 9) (zE mi 8 0 9))) (zH mi 11 (zH mi 10 (zE mi 9 0 9) (zE mi 10 0 9)) (zH mi 12 (zE mi 11 1 9) (zE mi 12 0 9))))) (zH mi 19 (zH mi 16 (zH mi 14 (zE mi 13 0 9) (zH mi 15 (zE mi 14 0 9) (zE mi 15 1 9))) (zH mi 17 (zE mi 16 1 9) (zH mi 18 (zE mi 17 1 9) (zE mi 18 1 9)))) (zH mi 22 (zH mi 20 (zE mi 19 1 9) (zH mi 21 (zE mi 20 1 9) (zE mi 21 0 9))) (zH mi 24 (zH mi 23 (zE mi 22 0 9) (zE mi 23 0 9)) (zH mi 25 (zE mi 24 1 9) (zE mi 25 0 9)))))) (zH mi 39 (zH mi 32 (zH mi 29 (zH mi 27 (zE mi 26 1 9) (zH mi 28 (zE mi 27 1 9) (zE mi 28 1 9))) (zH mi 30 (zE mi 29 1 9) (zH mi 31 (zE mi 30 1 9) (zE mi 31 1 9)))) (zH mi 35 (zH mi 33 (zE mi 32 1 9) (zH mi 34 (zE mi 33 1 9) (zE mi 34 1 9))) (zH mi 37 (zH mi 36 (zE mi 35 1 9) (zE mi 36 1 9)) (zH mi 38 (zE mi 37 1 9) (zE mi 38 1 9))))) (zH mi 46 (zH mi 42 (zH mi 40 (zE mi 39 1 9) (zH mi 41 (zE mi 40 1 9) (zE mi 41 1 9))) (zH mi 44 (zH mi 43 (zE mi 42 1 9) (zE mi 43 1 9)) (zH mi 45 (zE mi 44 1 9) (zE mi 45 1 9)))) (zH mi 49 (zH mi 47 (zE mi 46 1 9) (zH mi 48 (zE mi 47 1 9) (zE mi 48 1 9))) (zH mi 51 (zH mi 50 (zE mi 49 1 9) (zE mi 50 1 9)) (zH mi 52 (zE mi 51 1 9) (zE mi 52 1 9))))))) (zH mi 79 (zH mi 66 (zH mi 59 (zH mi 56 (zH mi 54 (zE mi 53 1 9) (zH mi 55 (zE mi 54 1 9) (zE mi 55 0 9))) (zH mi 57 (zE mi 56 0 9) (zH mi 58 (zE mi 57 0 9) (zE mi 58 1 9)))) (zH mi 62 (zH mi 60 (zE mi 59 1 9) (zH mi 61 (zE mi 60 1 9) (zE mi 61 1 9))) (zH mi 64 (zH mi 63 (zE mi 62 1 9) (zE mi 63 1 9)) (zH mi 65 (zE mi 64 1 9) (zE mi 65 3 9))))) (zH mi 72 (zH mi 69 (zH mi 67 (zE mi 66 1 9) (zH mi 68 (zE mi 67 2 9) (zE mi 68 1 9))) (zH mi 70 (zE mi 69 1 9) (zH mi 71 (zE mi 70 1 9) (zE mi 71 1 9)))) (zH mi 75 (zH mi 73 (zE mi 72 1 9) (zH mi 74 (zE mi 73 1 9) (zE mi 74 1 9))) (zH mi 77 (zH mi 76 (zE mi 75 1 9) (zE mi 76 1 9)) (zH mi 78 (zE mi 77 1 9) (zE mi 78 1 9)))))) (zH mi 92 (zH mi 85 (zH mi 82 (zH mi 80 (zE mi 79 1 9) (zH mi 81 (zE mi 80 1 9) (zE mi 81 0 9))) (zH mi 83 (zE mi 82 1 9) (zH mi 84 (zE mi 83 1 9) (zE mi 84 1 9)))) (zH mi 88 (zH mi 86 (zE mi 85 1 9) (zH mi 87 (zE mi 86 1 9) (zE mi 87 0 9))) (zH mi 90 (zH mi 89 (zE mi 88 1 9) (zE mi 89 1 9)) (zH mi 91 (zE mi 90 0 9) (zE mi 91 0 9))))) (zH mi 99 (zH mi 95 (zH mi 93 (zE mi 92 1 9) (zH mi 94 (zE mi 93 1 9) (zE mi 94 0 9))) (zH mi 97 (zH mi 96 (zE mi 95 1 9) (zE mi 96 0 9)) (zH mi 98 (zE mi 97 0 9) (zE mi 98 1 9)))) (zH mi 102 (zH mi 100 (zE mi 99 1 9) (zH mi 101 (zE mi 100 1 9) (zE mi 101 1 9))) (zH mi 104 (zH mi 103 (zE mi 102 1 9) (zE mi 103 1 9)) (zH mi 105 (zE mi 104 1 9) (zE mi 105 1 9)))))))) (zH mi 159 (zH mi 132 (zH mi 119 (zH mi 112 (zH mi 109 (zH mi 107 (zE mi 106 1 9) (zH mi 108 (zE mi 107 1 9) (zE mi 108 1 9))) (zH mi 110 (zE mi 109 1 9) (zH mi 111 (zE mi 110 1 9) (zE mi 111 1 9)))) (zH mi 115 (zH mi 113 (zE mi 112 1 9) (zH mi 114 (zE mi 113 1 9) (zE mi 114 1 9))) (zH mi 117 (zH mi 116 (zE mi 115 1 9) (zE mi 116 1 9)) (zH mi 118 (zE mi 117 1 9) (zE mi 118 1 9))))) (zH mi 125 (zH mi 122 (zH mi 120 (zE mi 119 1 9) (zH mi 121 (zE mi 120 1 9) (zE mi 121 1 9))) (zH mi 123 (zE mi 122 1 9) (zH mi 124 (zE mi 123 1 9) (zE mi 124 1 9)))) (zH mi 128 (zH mi 126 (zE mi 125 1 9) (zH mi 127 (zE mi 126 1 9) (zE mi 127 1 9))) (zH mi 130 (zH mi 129 (zE mi 128 1 9) (zE mi 129 1 9)) (zH mi 131 (zE mi 130 1 9) (zE mi 131 1 9)))))) (zH mi 145 (zH mi 138 (zH mi 135 (zH mi 133 (zE mi 132 1 9) (zH mi 134 (zE mi 133 1 9) (zE mi 134 1 9))) (zH mi 136 (zE mi 135 1 9) (zH mi 137 (zE mi 136 1 9) (zE mi 137 1 9)))) (zH mi 141 (zH mi 139 (zE mi 138 1 9) (zH mi 140 (zE mi 139 1 9) (zE mi 140 1 9))) (zH mi 143 (zH mi 142 (zE mi 141 1 9) (zE mi 142 1 9)) (zH mi 144 (zE mi 143 1 9) (zE mi 144 1 9))))) (zH mi 152 (zH mi 148 (zH mi 146 (zE mi 145 1 9) (zH mi 147 (zE mi 146 1 9) (zE mi 147 1 9))) (zH mi 150 (zH mi 149 (zE mi 148 1 9) (zE mi 149 1 9)) (zH mi 151 (zE mi 150 1 9) (zE mi 151 1 9)))) (zH mi 155 (zH mi 153 (zE mi 152 0 9) (zH mi 154 (zE mi 153 1 9) (zE mi 154 1 9))) (zH mi 157 (zH mi 156 (zE mi 155 1 9) (zE mi 156 1 9)) (zH mi 158 (zE mi 157 1 9) (zE mi 158 1 9))))))) (zH mi 186 (zH mi 172 (zH mi 165 (zH mi 162 (zH mi 160 (zE mi 159 1 9) (zH mi 161 (zE mi 160 1 9) (zE mi 161 1 9))) (zH mi 163 (zE mi 162 1 9) (zH mi 164 (zE mi 163 1 9) (zE mi 164 0 9)))) (zH mi 168 (zH mi 166 (zE mi 165 1 9) (zH mi 167 (zE mi 166 1 9) (zE mi 167 1 9))) (zH mi 170 (zH mi 169 (zE mi 168 0 9) (zE mi 169 1 9)) (zH mi 171 (zE mi 170 1 9) (zE mi 171 1 9))))) (zH mi 179 (zH mi 175 (zH mi 173 (zE mi 172 1 9) (zH mi 174 (zE mi 173 1 9) (zE mi 174 1 9))) (zH mi 177 (zH mi 176 (zE mi 175 0 9) (zE mi 176 0 9)) (zH mi 178 (zE mi 177 0 9) (zE mi 178 1 9)))) (zH mi 182 (zH mi 180 (zE mi 179 1 9) (zH mi 181 (zE mi 180 0 9) (zE mi 181 1 9))) (zH mi 184 (zH mi 183 (zE mi 182 0 9) (zE mi 183 1 9)) (zH mi 185 (zE mi 184 1 9) (zE mi 185 1 9)))))) (zH mi 199 (zH mi 192 (zH mi 189 (zH mi 187 (zE mi 186 1 9) (zH mi 188 (zE mi 187 1 9) (zE mi 188 1 9))) (zH mi 190 (zE mi 189 0 9) (zH mi 191 (zE mi 190 0 9) (zE mi 191 1 9)))) (zH mi 195 (zH mi 193 (zE mi 192 1 9) (zH mi 194 (zE mi 193 1 9) (zE mi 194 1 9))) (zH mi 197 (zH mi 196 (zE mi 195 1 9) (zE mi 196 1 9)) (zH mi 198 (zE mi 197 1 9) (zE mi 198 1 9))))) (zH mi 206 (zH mi 202 (zH mi 200 (zE mi 199 1 9) (zH mi 201 (zE mi 200 1 9) (zE mi 201 1 9))) (zH mi 204 (zH mi 203 (zE mi 202 0 9) (zE mi 203 1 9)) (zH mi 205 (zE mi 204 1 9) (zE mi 205 1 9)))) (zH mi 209 (zH mi 207 (zE mi 206 1 9) (zH mi 208 (zE mi 207 1 9) (zE mi 208 1 9))) (zH mi 211 (zH mi 210 (zE mi 209 1 9) (zE mi 210 1 9)) (zH mi 212 (zE mi 211 1 9) (zE mi 212 1 9)))))))))
def zcp (mi : Nat) : Nat := (zH mi 106 (zH mi 53 (zH mi 26 (zH mi 13 (zH mi 6 (zH mi 3 (zH mi 1 (zE mi 0 511 0) (zH mi 2 (zE mi 1 729 0) (zE mi 2 596 0))) (zH mi 4 (zE mi 3 628 0) (zH mi 5 (zE mi 4 1208 0) (zE mi 5 653 0)))) (zH mi 9 (zH mi 7 (zE mi 6 600 0) (zH mi 8 (zE mi 7 632 0) (zE mi 8 649 0))) (zH mi 11 (zH mi 10 (zE mi 9 658 0) (zE mi 10 612 0)) (zH mi 12 (zE mi 11 1013 0) (zE mi 12 721 0))))) (zH mi 19 (zH mi 16 (zH mi 14 (zE mi 13 725 0) (zH mi 15 (zE mi 14 717 0) (zE mi 15 987 0))) (zH mi 17 (zE mi 16 996 0) (zH mi 18 (zE mi 17 1000 0) (zE mi 18 1200 0)))) (zH mi 22 (zH mi 20 (zE mi 19 640 0) (zH mi 21 (zE mi 20 1294 0) (zE mi 21 636 0))) (zH mi 24 (zH mi 23 (zE mi 22 616 0) (zE mi 23 733 0)) (zH mi 25 (zE mi 24 1097 0) (zE mi 25 1102 0)))))) (zH mi 39 (zH mi 32 (zH mi 29 (zH mi 27 (zE mi 26 1111 0) (zH mi 28 (zE mi 27 1115 0) (zE mi 28 1127 0))) (zH mi 30 (zE mi 29 1119 0) (zH mi 31 (zE mi 30 464 0) (zE mi 31 472 0)))) (zH mi 35 (zH mi 33 (zE mi 32 503 0) (zH mi 34 (zE mi 33 480 0) (zE mi 34 476 0))) (zH mi 37 (zH mi 36 (zE mi 35 488 0) (zE mi 36 484 0)) (zH mi 38 (zE mi 37 492 0) (zE mi 38 645 0))))) (zH mi 46 (zH mi 42 (zH mi 40 (zE mi 39 675 0) (zH mi 41 (zE mi 40 495 0) (zE mi 41 1106 0))) (zH mi 44 (zH mi 43 (zE mi 42 662 0) (zE mi 43 608 0)) (zH mi 45 (zE mi 44 620 0) (zE mi 45 604 0)))) (zH mi 49 (zH mi 47 (zE mi 46 1213 0) (zH mi 48 (zE mi 47 1217 0) (zE mi 48 1037 0))) (zH mi 51 (zH mi 50 (zE mi 49 1077 0) (zE mi 50 1081 0)) (zH mi 52 (zE mi 51 1047 0) (zE mi 52 1051 0))))))) (zH mi 79 (zH mi 66 (zH mi 59 (zH mi 56 (zH mi 54 (zE mi 53 1057 0) (zH mi 55 (zE mi 54 1066 0) (zE mi 55 741 0))) (zH mi 57 (zE mi 56 754 0) (zH mi 58 (zE mi 57 758 0) (zE mi 58 762 0)))) (zH mi 62 (zH mi 60 (zE mi 59 882 0) (zH mi 61 (zE mi 60 942 0) (zE mi 61 924 0))) (zH mi 64 (zH mi 63 (zE mi 62 888 0) (zE mi 63 907 0)) (zH mi 65 (zE mi 64 936 0) (zE mi 65 769 0))))) (zH mi 72 (zH mi 69 (zH mi 67 (zE mi 66 954 0) (zH mi 68 (zE mi 67 911 0) (zE mi 68 750 0))) (zH mi 70 (zE mi 69 892 0) (zH mi 71 (zE mi 70 903 0) (zE mi 71 966 0)))) (zH mi 75 (zH mi 73 (zE mi 72 898 0) (zH mi 74 (zE mi 73 920 0) (zE mi 74 976 0))) (zH mi 77 (zH mi 76 (zE mi 75 970 0) (zE mi 76 916 0)) (zH mi 78 (zE mi 77 928 0) (zE mi 78 958 0)))))) (zH mi 92 (zH mi 85 (zH mi 82 (zH mi 80 (zE mi 79 932 0) (zH mi 81 (zE mi 80 946 0) (zE mi 81 950 0))) (zH mi 83 (zE mi 82 679 0) (zH mi 84 (zE mi 83 697 0) (zE mi 84 701 0)))) (zH mi 88 (zH mi 86 (zE mi 85 705 0) (zH mi 87 (zE mi 86 708 0) (zE mi 87 1136 0))) (zH mi 90 (zH mi 89 (zE mi 88 1145 0) (zE mi 89 1179 0)) (zH mi 91 (zE mi 90 1150 0) (zE mi 91 1154 0))))) (zH mi 99 (zH mi 95 (zH mi 93 (zE mi 92 1158 0) (zH mi 94 (zE mi 93 1162 0) (zE mi 94 1166 0))) (zH mi 97 (zH mi 96 (zE mi 95 1170 0) (zE mi 96 1041 0)) (zH mi 98 (zE mi 97 1085 0) (zE mi 98 1062 0)))) (zH mi 102 (zH mi 100 (zE mi 99 1071 0) (zH mi 101 (zE mi 100 454 0) (zE mi 101 460 0))) (zH mi 104 (zH mi 103 (zE mi 102 468 0) (zE mi 103 499 0)) (zH mi 105 (zE mi 104 507 0) (zE mi 105 583 0)))))))) (zH mi 159 (zH mi 132 (zH mi 119 (zH mi 112 (zH mi 109 (zH mi 107 (zE mi 106 588 0) (zH mi 108 (zE mi 107 592 0) (zE mi 108 624 0))) (zH mi 110 (zE mi 109 666 0) (zH mi 111 (zE mi 110 670 0) (zE mi 111 737 0)))) (zH mi 115 (zH mi 113 (zE mi 112 746 0) (zH mi 114 (zE mi 113 983 0) (zE mi 114 991 0))) (zH mi 117 (zH mi 116 (zE mi 115 1004 0) (zE mi 116 1024 0)) (zH mi 118 (zE mi 117 1033 0) (zE mi 118 1093 0))))) (zH mi 125 (zH mi 122 (zH mi 120 (zE mi 119 1123 0) (zH mi 121 (zE mi 120 1132 0) (zE mi 121 1141 0))) (zH mi 123 (zE mi 122 1175 0) (zH mi 124 (zE mi 123 1183 0) (zE mi 124 1225 0)))) (zH mi 128 (zH mi 126 (zE mi 125 1187 0) (zH mi 127 (zE mi 126 1191 0) (zE mi 127 1196 0))) (zH mi 130 (zH mi 129 (zE mi 128 1204 0) (zE mi 129 713 0)) (zH mi 131 (zE mi 130 1008 0) (zE mi 131 1029 0)))))) (zH mi 145 (zH mi 138 (zH mi 135 (zH mi 133 (zE mi 132 1017 0) (zH mi 134 (zE mi 133 1552 0) (zE mi 134 1560 0))) (zH mi 136 (zE mi 135 1581 0) (zH mi 137 (zE mi 136 1577 0) (zE mi 137 1612 0)))) (zH mi 141 (zH mi 139 (zE mi 138 1573 0) (zH mi 140 (zE mi 139 1556 0) (zE mi 140 1565 0))) (zH mi 143 (zH mi 142 (zE mi 141 1584 0) (zE mi 142 1569 0)) (zH mi 144 (zE mi 143 1588 0) (zE mi 144 1596 0))))) (zH mi 152 (zH mi 148 (zH mi 146 (zE mi 145 1592 0) (zH mi 147 (zE mi 146 1600 0) (zE mi 147 1604 0))) (zH mi 150 (zH mi 149 (zE mi 148 1620 0) (zE mi 149 1770 0)) (zH mi 151 (zE mi 150 1616 0) (zE mi 151 1640 0)))) (zH mi 155 (zH mi 153 (zE mi 152 1624 0) (zH mi 154 (zE mi 153 1608 0) (zE mi 154 1632 0))) (zH mi 157 (zH mi 156 (zE mi 155 1636 0) (zE mi 156 1628 0)) (zH mi 158 (zE mi 157 1644 0) (zE mi 158 1648 0))))))) (zH mi 185 (zH mi 172 (zH mi 165 (zH mi 162 (zH mi 160 (zE mi 159 1673 0) (zH mi 161 (zE mi 160 1681 0) (zE mi 161 1677 0))) (zH mi 163 (zE mi 162 1685 0) (zH mi 164 (zE mi 163 1698 0) (zE mi 164 1694 0)))) (zH mi 168 (zH mi 166 (zE mi 165 1709 0) (zH mi 167 (zE mi 166 1741 0) (zE mi 167 1714 0))) (zH mi 170 (zH mi 169 (zE mi 168 1749 0) (zE mi 169 1727 0)) (zH mi 171 (zE mi 170 1718 0) (zE mi 171 1737 0))))) (zH mi 178 (zH mi 175 (zH mi 173 (zE mi 172 1745 0) (zH mi 174 (zE mi 173 1704 0) (zE mi 174 1690 0))) (zH mi 176 (zE mi 175 1661 0) (zH mi 177 (zE mi 176 1665 0) (zE mi 177 1669 0)))) (zH mi 181 (zH mi 179 (zE mi 178 1657 0) (zH mi 180 (zE mi 179 1652 0) (zE mi 180 1762 0))) (zH mi 183 (zH mi 182 (zE mi 181 1777 0) (zE mi 182 1774 0)) (zH mi 184 (zE mi 183 1766 0) (zE mi 184 1757 0)))))) (zH mi 198 (zH mi 191 (zH mi 188 (zH mi 186 (zE mi 185 1753 0) (zH mi 187 (zE mi 186 1781 0) (zE mi 187 1797 0))) (zH mi 189 (zE mi 188 1793 0) (zH mi 190 (zE mi 189 1801 0) (zE mi 190 1805 0)))) (zH mi 194 (zH mi 192 (zE mi 191 1809 0) (zH mi 193 (zE mi 192 1789 0) (zE mi 193 1813 0))) (zH mi 196 (zH mi 195 (zE mi 194 1785 0) (zE mi 195 1829 0)) (zH mi 197 (zE mi 196 1825 0) (zE mi 197 1821 0))))) (zH mi 205 (zH mi 201 (zH mi 199 (zE mi 198 1817 0) (zH mi 200 (zE mi 199 1833 0) (zE mi 200 1837 0))) (zH mi 203 (zH mi 202 (zE mi 201 1853 0) (zE mi 202 1849 0)) (zH mi 204 (zE mi 203 1845 0) (zE mi 204 1841 0)))) (zH mi 208 (zH mi 206 (zE mi 205 1857 0) (zH mi 207 (zE mi 206 1861 0) (zE mi 207 1865 0))) (zH mi 210 (zH mi 209 (zE mi 208 1869 0) (zE mi 209 1873 0)) (zH mi 211 (zE mi 210 1877 0) (zE mi 211 1881 0)))))))))
def zby (mi : Nat) : ByteArray := bif Nat.beq mi 212 then code else (match lw_tbl[zcp mi]? with
  | some (.code _ b _ _) => b
  | _ => ⟨#[]⟩)
def zspp (mi : Nat) : Nat := (zH mi 106 (zH mi 53 (zH mi 26 (zH mi 13 (zH mi 6 (zH mi 3 (zH mi 1 (zE mi 0 509 0) (zH mi 2 (zE mi 1 727 0) (zE mi 2 594 0))) (zH mi 4 (zE mi 3 626 0) (zH mi 5 (zE mi 4 1206 0) (zE mi 5 651 0)))) (zH mi 9 (zH mi 7 (zE mi 6 598 0) (zH mi 8 (zE mi 7 630 0) (zE mi 8 648 0))) (zH mi 11 (zH mi 10 (zE mi 9 657 0) (zE mi 10 611 0)) (zH mi 12 (zE mi 11 1011 0) (zE mi 12 719 0))))) (zH mi 19 (zH mi 16 (zH mi 14 (zE mi 13 723 0) (zH mi 15 (zE mi 14 715 0) (zE mi 15 985 0))) (zH mi 17 (zE mi 16 994 0) (zH mi 18 (zE mi 17 999 0) (zE mi 18 1198 0)))) (zH mi 22 (zH mi 20 (zE mi 19 638 0) (zH mi 21 (zE mi 20 1292 0) (zE mi 21 634 0))) (zH mi 24 (zH mi 23 (zE mi 22 614 0) (zE mi 23 731 0)) (zH mi 25 (zE mi 24 1095 0) (zE mi 25 1101 0)))))) (zH mi 39 (zH mi 32 (zH mi 29 (zH mi 27 (zE mi 26 1110 0) (zH mi 28 (zE mi 27 1113 0) (zE mi 28 1125 0))) (zH mi 30 (zE mi 29 1118 0) (zH mi 31 (zE mi 30 462 0) (zE mi 31 470 0)))) (zH mi 35 (zH mi 33 (zE mi 32 501 0) (zH mi 34 (zE mi 33 478 0) (zE mi 34 474 0))) (zH mi 37 (zH mi 36 (zE mi 35 486 0) (zE mi 36 482 0)) (zH mi 38 (zE mi 37 490 0) (zE mi 38 643 0))))) (zH mi 46 (zH mi 42 (zH mi 40 (zE mi 39 673 0) (zH mi 41 (zE mi 40 494 0) (zE mi 41 1104 0))) (zH mi 44 (zH mi 43 (zE mi 42 660 0) (zE mi 43 606 0)) (zH mi 45 (zE mi 44 618 0) (zE mi 45 602 0)))) (zH mi 49 (zH mi 47 (zE mi 46 1211 0) (zH mi 48 (zE mi 47 1215 0) (zE mi 48 1035 0))) (zH mi 51 (zH mi 50 (zE mi 49 1076 0) (zE mi 50 1080 0)) (zH mi 52 (zE mi 51 1046 0) (zE mi 52 1050 0))))))) (zH mi 79 (zH mi 66 (zH mi 59 (zH mi 56 (zH mi 54 (zE mi 53 1056 0) (zH mi 55 (zE mi 54 1065 0) (zE mi 55 739 0))) (zH mi 57 (zE mi 56 752 0) (zH mi 58 (zE mi 57 756 0) (zE mi 58 761 0)))) (zH mi 62 (zH mi 60 (zE mi 59 880 0) (zH mi 61 (zE mi 60 940 0) (zE mi 61 922 0))) (zH mi 64 (zH mi 63 (zE mi 62 886 0) (zE mi 63 905 0)) (zH mi 65 (zE mi 64 934 0) (zE mi 65 768 0))))) (zH mi 72 (zH mi 69 (zH mi 67 (zE mi 66 952 0) (zH mi 68 (zE mi 67 909 0) (zE mi 68 748 0))) (zH mi 70 (zE mi 69 891 0) (zH mi 71 (zE mi 70 902 0) (zE mi 71 965 0)))) (zH mi 75 (zH mi 73 (zE mi 72 897 0) (zH mi 74 (zE mi 73 919 0) (zE mi 74 975 0))) (zH mi 77 (zH mi 76 (zE mi 75 969 0) (zE mi 76 915 0)) (zH mi 78 (zE mi 77 927 0) (zE mi 78 957 0)))))) (zH mi 92 (zH mi 85 (zH mi 82 (zH mi 80 (zE mi 79 931 0) (zH mi 81 (zE mi 80 945 0) (zE mi 81 949 0))) (zH mi 83 (zE mi 82 677 0) (zH mi 84 (zE mi 83 696 0) (zE mi 84 700 0)))) (zH mi 88 (zH mi 86 (zE mi 85 704 0) (zH mi 87 (zE mi 86 707 0) (zE mi 87 1134 0))) (zH mi 90 (zH mi 89 (zE mi 88 1143 0) (zE mi 89 1177 0)) (zH mi 91 (zE mi 90 1149 0) (zE mi 91 1153 0))))) (zH mi 99 (zH mi 95 (zH mi 93 (zE mi 92 1157 0) (zH mi 94 (zE mi 93 1161 0) (zE mi 94 1165 0))) (zH mi 97 (zH mi 96 (zE mi 95 1169 0) (zE mi 96 1039 0)) (zH mi 98 (zE mi 97 1083 0) (zE mi 98 1060 0)))) (zH mi 102 (zH mi 100 (zE mi 99 1069 0) (zH mi 101 (zE mi 100 452 0) (zE mi 101 458 0))) (zH mi 104 (zH mi 103 (zE mi 102 466 0) (zE mi 103 497 0)) (zH mi 105 (zE mi 104 505 0) (zE mi 105 581 0)))))))) (zH mi 159 (zH mi 132 (zH mi 119 (zH mi 112 (zH mi 109 (zH mi 107 (zE mi 106 586 0) (zH mi 108 (zE mi 107 590 0) (zE mi 108 622 0))) (zH mi 110 (zE mi 109 664 0) (zH mi 111 (zE mi 110 668 0) (zE mi 111 735 0)))) (zH mi 115 (zH mi 113 (zE mi 112 744 0) (zH mi 114 (zE mi 113 981 0) (zE mi 114 989 0))) (zH mi 117 (zH mi 116 (zE mi 115 1002 0) (zE mi 116 1022 0)) (zH mi 118 (zE mi 117 1031 0) (zE mi 118 1091 0))))) (zH mi 125 (zH mi 122 (zH mi 120 (zE mi 119 1121 0) (zH mi 121 (zE mi 120 1130 0) (zE mi 121 1139 0))) (zH mi 123 (zE mi 122 1173 0) (zH mi 124 (zE mi 123 1181 0) (zE mi 124 1223 0)))) (zH mi 128 (zH mi 126 (zE mi 125 1185 0) (zH mi 127 (zE mi 126 1189 0) (zE mi 127 1194 0))) (zH mi 130 (zH mi 129 (zE mi 128 1202 0) (zE mi 129 712 0)) (zH mi 131 (zE mi 130 1007 0) (zE mi 131 1028 0)))))) (zH mi 145 (zH mi 138 (zH mi 135 (zH mi 133 (zE mi 132 1016 0) (zH mi 134 (zE mi 133 1550 0) (zE mi 134 1559 0))) (zH mi 136 (zE mi 135 1580 0) (zH mi 137 (zE mi 136 1576 0) (zE mi 137 1611 0)))) (zH mi 141 (zH mi 139 (zE mi 138 1572 0) (zH mi 140 (zE mi 139 1554 0) (zE mi 140 1563 0))) (zH mi 143 (zH mi 142 (zE mi 141 1583 0) (zE mi 142 1567 0)) (zH mi 144 (zE mi 143 1586 0) (zE mi 144 1595 0))))) (zH mi 152 (zH mi 148 (zH mi 146 (zE mi 145 1590 0) (zH mi 147 (zE mi 146 1598 0) (zE mi 147 1602 0))) (zH mi 150 (zH mi 149 (zE mi 148 1619 0) (zE mi 149 1769 0)) (zH mi 151 (zE mi 150 1615 0) (zE mi 151 1639 0)))) (zH mi 155 (zH mi 153 (zE mi 152 1623 0) (zH mi 154 (zE mi 153 1606 0) (zE mi 154 1631 0))) (zH mi 157 (zH mi 156 (zE mi 155 1635 0) (zE mi 156 1626 0)) (zH mi 158 (zE mi 157 1642 0) (zE mi 158 1646 0))))))) (zH mi 185 (zH mi 172 (zH mi 165 (zH mi 162 (zH mi 160 (zE mi 159 1671 0) (zH mi 161 (zE mi 160 1680 0) (zE mi 161 1675 0))) (zH mi 163 (zE mi 162 1683 0) (zH mi 164 (zE mi 163 1697 0) (zE mi 164 1693 0)))) (zH mi 168 (zH mi 166 (zE mi 165 1708 0) (zH mi 167 (zE mi 166 1740 0) (zE mi 167 1713 0))) (zH mi 170 (zH mi 169 (zE mi 168 1748 0) (zE mi 169 1726 0)) (zH mi 171 (zE mi 170 1717 0) (zE mi 171 1736 0))))) (zH mi 178 (zH mi 175 (zH mi 173 (zE mi 172 1744 0) (zH mi 174 (zE mi 173 1703 0) (zE mi 174 1688 0))) (zH mi 176 (zE mi 175 1660 0) (zH mi 177 (zE mi 176 1664 0) (zE mi 177 1668 0)))) (zH mi 181 (zH mi 179 (zE mi 178 1656 0) (zH mi 180 (zE mi 179 1651 0) (zE mi 180 1761 0))) (zH mi 183 (zH mi 182 (zE mi 181 1776 0) (zE mi 182 1773 0)) (zH mi 184 (zE mi 183 1765 0) (zE mi 184 1756 0)))))) (zH mi 198 (zH mi 191 (zH mi 188 (zH mi 186 (zE mi 185 1751 0) (zH mi 187 (zE mi 186 1779 0) (zE mi 187 1796 0))) (zH mi 189 (zE mi 188 1792 0) (zH mi 190 (zE mi 189 1800 0) (zE mi 190 1804 0)))) (zH mi 194 (zH mi 192 (zE mi 191 1808 0) (zH mi 193 (zE mi 192 1788 0) (zE mi 193 1812 0))) (zH mi 196 (zH mi 195 (zE mi 194 1783 0) (zE mi 195 1828 0)) (zH mi 197 (zE mi 196 1824 0) (zE mi 197 1820 0))))) (zH mi 205 (zH mi 201 (zH mi 199 (zE mi 198 1815 0) (zH mi 200 (zE mi 199 1831 0) (zE mi 200 1835 0))) (zH mi 203 (zH mi 202 (zE mi 201 1852 0) (zE mi 202 1848 0)) (zH mi 204 (zE mi 203 1844 0) (zE mi 204 1839 0)))) (zH mi 208 (zH mi 206 (zE mi 205 1855 0) (zH mi 207 (zE mi 206 1859 0) (zE mi 207 1863 0))) (zH mi 210 (zH mi 209 (zE mi 208 1867 0) (zE mi 209 1871 0)) (zH mi 211 (zE mi 210 1875 0) (zE mi 211 1879 0)))))))))
def zepp (mi : Nat) : Nat := (zH mi 105 (zH mi 53 (zH mi 25 (zH mi 12 (zH mi 6 (zH mi 3 (zH mi 1 (zE mi 0 510 0) (zH mi 2 (zE mi 1 728 0) (zE mi 2 595 0))) (zH mi 4 (zE mi 3 627 0) (zH mi 5 (zE mi 4 1207 0) (zE mi 5 652 0)))) (zH mi 9 (zH mi 7 (zE mi 6 599 0) (zH mi 8 (zE mi 7 631 0) (zE mi 8 1 0))) (zH mi 10 (zE mi 9 2 0) (zH mi 11 (zE mi 10 0 0) (zE mi 11 1012 0))))) (zH mi 18 (zH mi 15 (zH mi 13 (zE mi 12 720 0) (zH mi 14 (zE mi 13 724 0) (zE mi 14 716 0))) (zH mi 16 (zE mi 15 986 0) (zH mi 17 (zE mi 16 995 0) (zE mi 17 22 0)))) (zH mi 21 (zH mi 19 (zE mi 18 1199 0) (zH mi 20 (zE mi 19 639 0) (zE mi 20 1293 0))) (zH mi 23 (zH mi 22 (zE mi 21 635 0) (zE mi 22 615 0)) (zH mi 24 (zE mi 23 732 0) (zE mi 24 1096 0)))))) (zH mi 38 (zH mi 32 (zH mi 28 (zH mi 26 (zE mi 25 30 0) (zH mi 27 (zE mi 26 31 0) (zE mi 27 1114 0))) (zH mi 30 (zE mi 28 1126 0) (zH mi 31 (zE mi 30 463 0) (zE mi 31 471 0)))) (zH mi 35 (zH mi 33 (zE mi 32 502 0) (zH mi 34 (zE mi 33 479 0) (zE mi 34 475 0))) (zH mi 36 (zE mi 35 487 0) (zH mi 37 (zE mi 36 483 0) (zE mi 37 491 0))))) (zH mi 45 (zH mi 42 (zH mi 39 (zE mi 38 644 0) (zH mi 41 (zE mi 39 674 0) (zE mi 41 1105 0))) (zH mi 43 (zE mi 42 661 0) (zH mi 44 (zE mi 43 607 0) (zE mi 44 619 0)))) (zH mi 48 (zH mi 46 (zE mi 45 603 0) (zH mi 47 (zE mi 46 1212 0) (zE mi 47 1216 0))) (zH mi 51 (zH mi 50 (zE mi 48 1036 0) (zE mi 50 29 0)) (zH mi 52 (zE mi 51 25 0) (zE mi 52 26 0))))))) (zH mi 78 (zH mi 65 (zH mi 59 (zH mi 56 (zH mi 54 (zE mi 53 27 0) (zH mi 55 (zE mi 54 28 0) (zE mi 55 740 0))) (zH mi 57 (zE mi 56 753 0) (zH mi 58 (zE mi 57 757 0) (zE mi 58 7 0)))) (zH mi 62 (zH mi 60 (zE mi 59 881 0) (zH mi 61 (zE mi 60 941 0) (zE mi 61 923 0))) (zH mi 63 (zE mi 62 887 0) (zH mi 64 (zE mi 63 906 0) (zE mi 64 935 0))))) (zH mi 71 (zH mi 68 (zH mi 66 (zE mi 65 8 0) (zH mi 67 (zE mi 66 953 0) (zE mi 67 910 0))) (zH mi 69 (zE mi 68 749 0) (zH mi 70 (zE mi 69 9 0) (zE mi 70 11 0)))) (zH mi 74 (zH mi 72 (zE mi 71 19 0) (zH mi 73 (zE mi 72 10 0) (zE mi 73 13 0))) (zH mi 76 (zH mi 75 (zE mi 74 21 0) (zE mi 75 20 0)) (zH mi 77 (zE mi 76 12 0) (zE mi 77 14 0)))))) (zH mi 92 (zH mi 84 (zH mi 81 (zH mi 79 (zE mi 78 18 0) (zH mi 80 (zE mi 79 15 0) (zE mi 80 16 0))) (zH mi 82 (zE mi 81 17 0) (zH mi 83 (zE mi 82 678 0) (zE mi 83 3 0)))) (zH mi 88 (zH mi 85 (zE mi 84 4 0) (zH mi 87 (zE mi 85 5 0) (zE mi 87 1135 0))) (zH mi 90 (zH mi 89 (zE mi 88 1144 0) (zE mi 89 1178 0)) (zH mi 91 (zE mi 90 32 0) (zE mi 91 33 0))))) (zH mi 98 (zH mi 95 (zH mi 93 (zE mi 92 34 0) (zH mi 94 (zE mi 93 35 0) (zE mi 94 36 0))) (zH mi 96 (zE mi 95 37 0) (zH mi 97 (zE mi 96 1040 0) (zE mi 97 1084 0)))) (zH mi 101 (zH mi 99 (zE mi 98 1061 0) (zH mi 100 (zE mi 99 1070 0) (zE mi 100 453 0))) (zH mi 103 (zH mi 102 (zE mi 101 459 0) (zE mi 102 467 0)) (zH mi 104 (zE mi 103 498 0) (zE mi 104 506 0)))))))) (zH mi 159 (zH mi 130 (zH mi 117 (zH mi 111 (zH mi 108 (zH mi 106 (zE mi 105 582 0) (zH mi 107 (zE mi 106 587 0) (zE mi 107 591 0))) (zH mi 109 (zE mi 108 623 0) (zH mi 110 (zE mi 109 665 0) (zE mi 110 669 0)))) (zH mi 114 (zH mi 112 (zE mi 111 736 0) (zH mi 113 (zE mi 112 745 0) (zE mi 113 982 0))) (zH mi 115 (zE mi 114 990 0) (zH mi 116 (zE mi 115 1003 0) (zE mi 116 1023 0))))) (zH mi 123 (zH mi 120 (zH mi 118 (zE mi 117 1032 0) (zH mi 119 (zE mi 118 1092 0) (zE mi 119 1122 0))) (zH mi 121 (zE mi 120 1131 0) (zH mi 122 (zE mi 121 1140 0) (zE mi 122 1174 0)))) (zH mi 126 (zH mi 124 (zE mi 123 1182 0) (zH mi 125 (zE mi 124 1224 0) (zE mi 125 1186 0))) (zH mi 128 (zH mi 127 (zE mi 126 1190 0) (zE mi 127 1195 0)) (zH mi 129 (zE mi 128 1203 0) (zE mi 129 6 0)))))) (zH mi 146 (zH mi 138 (zH mi 135 (zH mi 131 (zE mi 130 23 0) (zH mi 133 (zE mi 131 24 0) (zE mi 133 1551 0))) (zH mi 136 (zE mi 135 41 0) (zH mi 137 (zE mi 136 40 0) (zE mi 137 43 0)))) (zH mi 142 (zH mi 139 (zE mi 138 39 0) (zH mi 140 (zE mi 139 1555 0) (zE mi 140 1564 0))) (zH mi 144 (zH mi 143 (zE mi 142 1568 0) (zE mi 143 1587 0)) (zH mi 145 (zE mi 144 42 0) (zE mi 145 1591 0))))) (zH mi 152 (zH mi 149 (zH mi 147 (zE mi 146 1599 0) (zH mi 148 (zE mi 147 1603 0) (zE mi 148 45 0))) (zH mi 150 (zE mi 149 70 0) (zH mi 151 (zE mi 150 44 0) (zE mi 151 49 0)))) (zH mi 155 (zH mi 153 (zE mi 152 46 0) (zH mi 154 (zE mi 153 1607 0) (zE mi 154 47 0))) (zH mi 157 (zH mi 156 (zE mi 155 48 0) (zE mi 156 1627 0)) (zH mi 158 (zE mi 157 1643 0) (zE mi 158 1647 0))))))) (zH mi 185 (zH mi 171 (zH mi 165 (zH mi 162 (zH mi 160 (zE mi 159 1672 0) (zH mi 161 (zE mi 160 55 0) (zE mi 161 1676 0))) (zH mi 163 (zE mi 162 1684 0) (zH mi 164 (zE mi 163 57 0) (zE mi 164 56 0)))) (zH mi 168 (zH mi 166 (zE mi 165 59 0) (zH mi 167 (zE mi 166 64 0) (zE mi 167 60 0))) (zH mi 169 (zE mi 168 66 0) (zH mi 170 (zE mi 169 62 0) (zE mi 170 61 0))))) (zH mi 177 (zH mi 174 (zH mi 172 (zE mi 171 63 0) (zH mi 173 (zE mi 172 65 0) (zE mi 173 58 0))) (zH mi 175 (zE mi 174 1689 0) (zH mi 176 (zE mi 175 52 0) (zE mi 176 53 0)))) (zH mi 180 (zH mi 178 (zE mi 177 54 0) (zH mi 179 (zE mi 178 51 0) (zE mi 179 50 0))) (zH mi 183 (zH mi 182 (zE mi 180 68 0) (zE mi 182 71 0)) (zH mi 184 (zE mi 183 69 0) (zE mi 184 67 0)))))) (zH mi 199 (zH mi 191 (zH mi 188 (zH mi 186 (zE mi 185 1752 0) (zH mi 187 (zE mi 186 1780 0) (zE mi 187 74 0))) (zH mi 189 (zE mi 188 73 0) (zH mi 190 (zE mi 189 75 0) (zE mi 190 76 0)))) (zH mi 194 (zH mi 192 (zE mi 191 77 0) (zH mi 193 (zE mi 192 72 0) (zE mi 193 78 0))) (zH mi 197 (zH mi 196 (zE mi 194 1784 0) (zE mi 196 80 0)) (zH mi 198 (zE mi 197 79 0) (zE mi 198 1816 0))))) (zH mi 205 (zH mi 202 (zH mi 200 (zE mi 199 1832 0) (zH mi 201 (zE mi 200 1836 0) (zE mi 201 83 0))) (zH mi 203 (zE mi 202 82 0) (zH mi 204 (zE mi 203 81 0) (zE mi 204 1840 0)))) (zH mi 208 (zH mi 206 (zE mi 205 1856 0) (zH mi 207 (zE mi 206 1860 0) (zE mi 207 1864 0))) (zH mi 210 (zH mi 209 (zE mi 208 1868 0) (zE mi 209 1872 0)) (zH mi 211 (zE mi 210 1876 0) (zE mi 211 1880 0)))))))))
def zipp (mi : Nat) : Nat := (zH mi 106 (zH mi 53 (zH mi 26 (zH mi 13 (zH mi 6 (zH mi 3 (zH mi 1 (zE mi 0 88 0) (zH mi 2 (zE mi 1 88 0) (zE mi 2 88 0))) (zH mi 4 (zE mi 3 88 0) (zH mi 5 (zE mi 4 88 0) (zE mi 5 88 0)))) (zH mi 9 (zH mi 7 (zE mi 6 88 0) (zH mi 8 (zE mi 7 88 0) (zE mi 8 88 0))) (zH mi 11 (zH mi 10 (zE mi 9 88 0) (zE mi 10 88 0)) (zH mi 12 (zE mi 11 88 0) (zE mi 12 88 0))))) (zH mi 19 (zH mi 16 (zH mi 14 (zE mi 13 88 0) (zH mi 15 (zE mi 14 93 0) (zE mi 15 93 0))) (zH mi 17 (zE mi 16 93 0) (zH mi 18 (zE mi 17 93 0) (zE mi 18 93 0)))) (zH mi 22 (zH mi 20 (zE mi 19 97 0) (zH mi 21 (zE mi 20 97 0) (zE mi 21 97 0))) (zH mi 24 (zH mi 23 (zE mi 22 97 0) (zE mi 23 97 0)) (zH mi 25 (zE mi 24 91 0) (zE mi 25 91 0)))))) (zH mi 39 (zH mi 32 (zH mi 29 (zH mi 27 (zE mi 26 91 0) (zH mi 28 (zE mi 27 91 0) (zE mi 28 91 0))) (zH mi 30 (zE mi 29 91 0) (zH mi 31 (zE mi 30 86 0) (zE mi 31 86 0)))) (zH mi 35 (zH mi 33 (zE mi 32 86 0) (zH mi 34 (zE mi 33 86 0) (zE mi 34 86 0))) (zH mi 37 (zH mi 36 (zE mi 35 86 0) (zE mi 36 86 0)) (zH mi 38 (zE mi 37 86 0) (zE mi 38 86 0))))) (zH mi 46 (zH mi 42 (zH mi 40 (zE mi 39 86 0) (zH mi 41 (zE mi 40 86 0) (zE mi 41 86 0))) (zH mi 44 (zH mi 43 (zE mi 42 86 0) (zE mi 43 86 0)) (zH mi 45 (zE mi 44 86 0) (zE mi 45 86 0)))) (zH mi 49 (zH mi 47 (zE mi 46 86 0) (zH mi 48 (zE mi 47 86 0) (zE mi 48 89 0))) (zH mi 51 (zH mi 50 (zE mi 49 89 0) (zE mi 50 89 0)) (zH mi 52 (zE mi 51 89 0) (zE mi 52 89 0))))))) (zH mi 79 (zH mi 66 (zH mi 59 (zH mi 56 (zH mi 54 (zE mi 53 89 0) (zH mi 55 (zE mi 54 89 0) (zE mi 55 94 0))) (zH mi 57 (zE mi 56 94 0) (zH mi 58 (zE mi 57 94 0) (zE mi 58 94 0)))) (zH mi 62 (zH mi 60 (zE mi 59 94 0) (zH mi 61 (zE mi 60 94 0) (zE mi 61 94 0))) (zH mi 64 (zH mi 63 (zE mi 62 94 0) (zE mi 63 94 0)) (zH mi 65 (zE mi 64 94 0) (zE mi 65 94 0))))) (zH mi 72 (zH mi 69 (zH mi 67 (zE mi 66 94 0) (zH mi 68 (zE mi 67 94 0) (zE mi 68 95 0))) (zH mi 70 (zE mi 69 95 0) (zH mi 71 (zE mi 70 95 0) (zE mi 71 95 0)))) (zH mi 75 (zH mi 73 (zE mi 72 95 0) (zH mi 74 (zE mi 73 95 0) (zE mi 74 95 0))) (zH mi 77 (zH mi 76 (zE mi 75 95 0) (zE mi 76 95 0)) (zH mi 78 (zE mi 77 95 0) (zE mi 78 95 0)))))) (zH mi 92 (zH mi 85 (zH mi 82 (zH mi 80 (zE mi 79 95 0) (zH mi 81 (zE mi 80 95 0) (zE mi 81 95 0))) (zH mi 83 (zE mi 82 95 0) (zH mi 84 (zE mi 83 95 0) (zE mi 84 95 0)))) (zH mi 88 (zH mi 86 (zE mi 85 95 0) (zH mi 87 (zE mi 86 95 0) (zE mi 87 92 0))) (zH mi 90 (zH mi 89 (zE mi 88 92 0) (zE mi 89 92 0)) (zH mi 91 (zE mi 90 92 0) (zE mi 91 92 0))))) (zH mi 99 (zH mi 95 (zH mi 93 (zE mi 92 92 0) (zH mi 94 (zE mi 93 92 0) (zE mi 94 92 0))) (zH mi 97 (zH mi 96 (zE mi 95 92 0) (zE mi 96 90 0)) (zH mi 98 (zE mi 97 90 0) (zE mi 98 90 0)))) (zH mi 102 (zH mi 100 (zE mi 99 90 0) (zH mi 101 (zE mi 100 85 0) (zE mi 101 85 0))) (zH mi 104 (zH mi 103 (zE mi 102 85 0) (zE mi 103 85 0)) (zH mi 105 (zE mi 104 85 0) (zE mi 105 85 0)))))))) (zH mi 159 (zH mi 132 (zH mi 119 (zH mi 112 (zH mi 109 (zH mi 107 (zE mi 106 85 0) (zH mi 108 (zE mi 107 85 0) (zE mi 108 85 0))) (zH mi 110 (zE mi 109 85 0) (zH mi 111 (zE mi 110 85 0) (zE mi 111 85 0)))) (zH mi 115 (zH mi 113 (zE mi 112 85 0) (zH mi 114 (zE mi 113 85 0) (zE mi 114 85 0))) (zH mi 117 (zH mi 116 (zE mi 115 85 0) (zE mi 116 85 0)) (zH mi 118 (zE mi 117 85 0) (zE mi 118 85 0))))) (zH mi 125 (zH mi 122 (zH mi 120 (zE mi 119 85 0) (zH mi 121 (zE mi 120 85 0) (zE mi 121 85 0))) (zH mi 123 (zE mi 122 85 0) (zH mi 124 (zE mi 123 85 0) (zE mi 124 85 0)))) (zH mi 128 (zH mi 126 (zE mi 125 85 0) (zH mi 127 (zE mi 126 85 0) (zE mi 127 85 0))) (zH mi 130 (zH mi 129 (zE mi 128 85 0) (zE mi 129 85 0)) (zH mi 131 (zE mi 130 85 0) (zE mi 131 85 0)))))) (zH mi 145 (zH mi 138 (zH mi 135 (zH mi 133 (zE mi 132 85 0) (zH mi 134 (zE mi 133 96 0) (zE mi 134 96 0))) (zH mi 136 (zE mi 135 96 0) (zH mi 137 (zE mi 136 96 0) (zE mi 137 96 0)))) (zH mi 141 (zH mi 139 (zE mi 138 96 0) (zH mi 140 (zE mi 139 96 0) (zE mi 140 96 0))) (zH mi 143 (zH mi 142 (zE mi 141 96 0) (zE mi 142 96 0)) (zH mi 144 (zE mi 143 96 0) (zE mi 144 96 0))))) (zH mi 152 (zH mi 148 (zH mi 146 (zE mi 145 96 0) (zH mi 147 (zE mi 146 96 0) (zE mi 147 96 0))) (zH mi 150 (zH mi 149 (zE mi 148 96 0) (zE mi 149 96 0)) (zH mi 151 (zE mi 150 96 0) (zE mi 151 96 0)))) (zH mi 155 (zH mi 153 (zE mi 152 96 0) (zH mi 154 (zE mi 153 96 0) (zE mi 154 96 0))) (zH mi 157 (zH mi 156 (zE mi 155 96 0) (zE mi 156 96 0)) (zH mi 158 (zE mi 157 96 0) (zE mi 158 96 0))))))) (zH mi 185 (zH mi 172 (zH mi 165 (zH mi 162 (zH mi 160 (zE mi 159 96 0) (zH mi 161 (zE mi 160 96 0) (zE mi 161 96 0))) (zH mi 163 (zE mi 162 96 0) (zH mi 164 (zE mi 163 96 0) (zE mi 164 96 0)))) (zH mi 168 (zH mi 166 (zE mi 165 96 0) (zH mi 167 (zE mi 166 96 0) (zE mi 167 96 0))) (zH mi 170 (zH mi 169 (zE mi 168 96 0) (zE mi 169 96 0)) (zH mi 171 (zE mi 170 96 0) (zE mi 171 96 0))))) (zH mi 178 (zH mi 175 (zH mi 173 (zE mi 172 96 0) (zH mi 174 (zE mi 173 96 0) (zE mi 174 96 0))) (zH mi 176 (zE mi 175 96 0) (zH mi 177 (zE mi 176 96 0) (zE mi 177 96 0)))) (zH mi 181 (zH mi 179 (zE mi 178 96 0) (zH mi 180 (zE mi 179 96 0) (zE mi 180 96 0))) (zH mi 183 (zH mi 182 (zE mi 181 96 0) (zE mi 182 96 0)) (zH mi 184 (zE mi 183 96 0) (zE mi 184 96 0)))))) (zH mi 198 (zH mi 191 (zH mi 188 (zH mi 186 (zE mi 185 96 0) (zH mi 187 (zE mi 186 96 0) (zE mi 187 96 0))) (zH mi 189 (zE mi 188 96 0) (zH mi 190 (zE mi 189 96 0) (zE mi 190 96 0)))) (zH mi 194 (zH mi 192 (zE mi 191 96 0) (zH mi 193 (zE mi 192 96 0) (zE mi 193 96 0))) (zH mi 196 (zH mi 195 (zE mi 194 96 0) (zE mi 195 96 0)) (zH mi 197 (zE mi 196 96 0) (zE mi 197 96 0))))) (zH mi 205 (zH mi 201 (zH mi 199 (zE mi 198 96 0) (zH mi 200 (zE mi 199 96 0) (zE mi 200 96 0))) (zH mi 203 (zH mi 202 (zE mi 201 96 0) (zE mi 202 96 0)) (zH mi 204 (zE mi 203 96 0) (zE mi 204 96 0)))) (zH mi 208 (zH mi 206 (zE mi 205 96 0) (zH mi 207 (zE mi 206 96 0) (zE mi 207 96 0))) (zH mi 210 (zH mi 209 (zE mi 208 96 0) (zE mi 209 96 0)) (zH mi 211 (zE mi 210 96 0) (zE mi 211 96 0)))))))))
def zmw (k mj : Nat) : Cond := bif zmnk k then .methodLinkNest (zRn (k / 1024)) (k % 1024) (zyn mj) "TownExchange" else .methodLink (zRn (k / 1024)) (k % 1024) (zyn mj)
def zmcb (k : Nat) : Bool := match zmthk k with
  | none => true
  | some (mj, na, rk) => Nat.ble 1000 mj || (Nat.blt mj 212 && decide (lw_tbl[zmpk k]? = some (zmw k mj)) && (bif zmnk k then zisn (zmw k mj) else goodWord (zmw k mj)) && Nat.beq na (zna mj) && Nat.beq rk (zrk mj) && (!zmnk k || (zsg mj).isNone) && (zmnk k || (zsg mj).isSome || Nat.beq (zoc mj) (k / 1024)))
def zmks : List Nat := [25, 31, 47, 57, 60, 67, 71, 75, 81, 84, 88, 94, 98, 104, 114, 117, 120, 124, 127, 131, 134, 137, 1064, 2088, 3094, 3107, 3114, 3118, 3122, 3126, 3132, 3135, 4133, 4143, 4147, 4151, 4155, 4158, 4161, 4164, 5159, 5167, 5174, 5178, 5192, 5196, 5212, 5216, 5220, 5229, 5232, 5235, 5238, 5241, 5244, 5254, 6171, 6174, 6178, 6184, 6197, 6216, 6219, 6222, 7224, 7227, 7237, 7241, 7244, 7247, 7253, 7257, 7260, 7263, 7267, 7271, 7275, 7279, 7282, 7289, 7298, 7301, 7304, 7307, 7311, 7321, 7327, 7353, 7356, 7360, 7363, 8245, 8254, 8260, 8263, 8267, 8271, 8275, 8279, 8282, 9247, 9256, 9267, 9273, 9278, 11344, 11348, 11352, 11356, 11359, 11370, 11377, 11381, 11384, 11396, 11400, 11404, 11409, 11412, 11416, 11420, 11427, 11430, 11434, 11437, 11440, 11443, 11447, 11450, 11454, 11460, 11463, 11467, 11470, 11474, 11481, 11497, 11506, 11512, 11519, 11522, 11534, 12496, 12500, 12512, 12515, 12518, 12522, 12526, 12529, 12532, 12536, 12540, 12543, 12546, 12549, 12559, 12586, 12625, 12629, 12633, 12636, 12640, 12643, 12646, 12650, 12653, 12656, 12659, 12662, 12665, 12668, 12674, 12677, 12680, 12685, 12688, 12691, 12697, 12701, 12704, 12708, 12711, 12714, 12718, 12721, 12726, 12729, 12732, 12737, 12743, 12746, 13319, 13331, 13335, 13336, 13340, 13341, 13345, 13346, 13350, 13351, 13354, 13355, 13359, 13360, 13363, 13364, 13367, 13368, 13371, 13372, 13376, 13377, 13380, 13383, 13387, 13388, 13392, 13393, 13396, 13397, 13401, 13402, 13405, 13406, 13410, 13411, 13414, 13415, 13418, 13419, 13422, 13423, 13426, 13427, 13430, 13431, 13434, 13435, 13438, 13439, 13444, 13445, 13448, 13451, 13452, 13455, 13456, 13459, 13460, 13463]
theorem zmc0 : zmks.all zmcb = true := by decide +kernel
theorem zmk_in_0 : ∀ n, n < 1024 → zmthk (0 * 1024 + n) = none ∨ (0 * 1024 + n) ∈ zmks := by decide +kernel
theorem zmk_in_1 : ∀ n, n < 1024 → zmthk (1 * 1024 + n) = none ∨ (1 * 1024 + n) ∈ zmks := by decide +kernel
theorem zmk_in_2 : ∀ n, n < 1024 → zmthk (2 * 1024 + n) = none ∨ (2 * 1024 + n) ∈ zmks := by decide +kernel
theorem zmk_in_3 : ∀ n, n < 1024 → zmthk (3 * 1024 + n) = none ∨ (3 * 1024 + n) ∈ zmks := by decide +kernel
theorem zmk_in_4 : ∀ n, n < 1024 → zmthk (4 * 1024 + n) = none ∨ (4 * 1024 + n) ∈ zmks := by decide +kernel
theorem zmk_in_5 : ∀ n, n < 1024 → zmthk (5 * 1024 + n) = none ∨ (5 * 1024 + n) ∈ zmks := by decide +kernel
theorem zmk_in_6 : ∀ n, n < 1024 → zmthk (6 * 1024 + n) = none ∨ (6 * 1024 + n) ∈ zmks := by decide +kernel
theorem zmk_in_7 : ∀ n, n < 1024 → zmthk (7 * 1024 + n) = none ∨ (7 * 1024 + n) ∈ zmks := by decide +kernel
theorem zmk_in_8 : ∀ n, n < 1024 → zmthk (8 * 1024 + n) = none ∨ (8 * 1024 + n) ∈ zmks := by decide +kernel
theorem zmk_in_9 : ∀ n, n < 1024 → zmthk (9 * 1024 + n) = none ∨ (9 * 1024 + n) ∈ zmks := by decide +kernel
theorem zmk_in_10 : ∀ n, n < 1024 → zmthk (10 * 1024 + n) = none ∨ (10 * 1024 + n) ∈ zmks := by decide +kernel
theorem zmk_in_11 : ∀ n, n < 1024 → zmthk (11 * 1024 + n) = none ∨ (11 * 1024 + n) ∈ zmks := by decide +kernel
theorem zmk_in_12 : ∀ n, n < 1024 → zmthk (12 * 1024 + n) = none ∨ (12 * 1024 + n) ∈ zmks := by decide +kernel
theorem zmk_in_13 : ∀ n, n < 1024 → zmthk (13 * 1024 + n) = none ∨ (13 * 1024 + n) ∈ zmks := by decide +kernel
theorem zmk_in : ∀ oc, 0 ≤ oc → oc < 14 → ∀ n, n < 1024 → zmthk (oc * 1024 + n) = none ∨ (oc * 1024 + n) ∈ zmks := (zsp 7 (zsp 3 (zsp 1 (zon (a := 0) zmk_in_0) (zsp 2 (zon (a := 1) zmk_in_1) (zon (a := 2) zmk_in_2))) (zsp 5 (zsp 4 (zon (a := 3) zmk_in_3) (zon (a := 4) zmk_in_4)) (zsp 6 (zon (a := 5) zmk_in_5) (zon (a := 6) zmk_in_6)))) (zsp 10 (zsp 8 (zon (a := 7) zmk_in_7) (zsp 9 (zon (a := 8) zmk_in_8) (zon (a := 9) zmk_in_9))) (zsp 12 (zsp 11 (zon (a := 10) zmk_in_10) (zon (a := 11) zmk_in_11)) (zsp 13 (zon (a := 12) zmk_in_12) (zon (a := 13) zmk_in_13)))))
theorem zmc {oc n : Nat} {q : Nat × Nat × Nat} (hoc : oc < 14) (hn : n < 1024) (h : zmth oc n = some q) : zmcb (oc * 1024 + n) = true := by
  rcases zmk_in oc (Nat.zero_le _) hoc n hn with h1 | h1
  · unfold zmth at h; rw [h1] at h; cases h
  · exact List.all_eq_true.mp zmc0 _ h1
def zmmb (mj : Nat) : Bool := (match lw_tbl[zcp mj]? with | some (.code y _ mx rt) => decide (y = zyn mj) && decide (mx = zmx mj) && decide (rt = zrt mj) | _ => false) && decide (lw_tbl[zipp mj]? = some (.initialized (zyn mj).cls)) && goodWord (.initialized (zyn mj).cls)
  && (match zsg mj with
    | none => decide (lw_tbl[zspp mj]? = some (.static (zyn mj))) && goodWord (.static (zyn mj))
    | some t => decide (lw_tbl[zspp mj]? = some (.instanceMethod (zyn mj))) && goodWord (.instanceMethod (zyn mj)) && decide (lw_tbl[zepp mj]? = some (.selects (zyn mj).cls (zyn mj) (zyn mj))) && goodWord (.selects (zyn mj).cls (zyn mj) (zyn mj)) && decide ((zyn mj).cls = zcn t) && Nat.blt t 12)
  && decide ((zyn mj).cls ≠ "java/lang/invoke/MethodHandle") && decide ((zyn mj).cls ≠ "java/lang/invoke/VarHandle") && decide (zRn (zoc mj) = (zyn mj).cls) && Nat.blt (zoc mj) 14 && Nat.ble (zmx mj) 16
def zmpb (mj : Nat) : Bool := decide ((parseMethodDescriptor (zyn mj).desc).map (fun d => d.parameters.length) = some (match zsg mj with | none => zna mj | some _ => zna mj - 1)) && (match zrk mj with | 0 => decide (zrt mj = none) | 1 => decide (zrt mj = some .int) || decide (zrt mj = some .boolean) | 2 => decide (zrt mj = some .long) | _ => match zrt mj with | some (.object _) => true | _ => false) && (bif zrz mj then decide (zrt mj = some .boolean) else decide (zrt mj ≠ some .boolean))
theorem zmm_0 : zmmb 0 = true := by decide +kernel
theorem zmm_1 : zmmb 1 = true := by decide +kernel
theorem zmm_2 : zmmb 2 = true := by decide +kernel
theorem zmm_3 : zmmb 3 = true := by decide +kernel
theorem zmm_4 : zmmb 4 = true := by decide +kernel
theorem zmm_5 : zmmb 5 = true := by decide +kernel
theorem zmm_6 : zmmb 6 = true := by decide +kernel
theorem zmm_7 : zmmb 7 = true := by decide +kernel
theorem zmm_8 : zmmb 8 = true := by decide +kernel
theorem zmm_9 : zmmb 9 = true := by decide +kernel
theorem zmm_10 : zmmb 10 = true := by decide +kernel
theorem zmm_11 : zmmb 11 = true := by decide +kernel
theorem zmm_12 : zmmb 12 = true := by decide +kernel
theorem zmm_13 : zmmb 13 = true := by decide +kernel
theorem zmm_14 : zmmb 14 = true := by decide +kernel
theorem zmm_15 : zmmb 15 = true := by decide +kernel
theorem zmm_16 : zmmb 16 = true := by decide +kernel
theorem zmm_17 : zmmb 17 = true := by decide +kernel
theorem zmm_18 : zmmb 18 = true := by decide +kernel
theorem zmm_19 : zmmb 19 = true := by decide +kernel
theorem zmm_20 : zmmb 20 = true := by decide +kernel
theorem zmm_21 : zmmb 21 = true := by decide +kernel
theorem zmm_22 : zmmb 22 = true := by decide +kernel
theorem zmm_23 : zmmb 23 = true := by decide +kernel
theorem zmm_24 : zmmb 24 = true := by decide +kernel
theorem zmm_25 : zmmb 25 = true := by decide +kernel
theorem zmm_26 : zmmb 26 = true := by decide +kernel
theorem zmm_27 : zmmb 27 = true := by decide +kernel
theorem zmm_28 : zmmb 28 = true := by decide +kernel
theorem zmm_29 : zmmb 29 = true := by decide +kernel
theorem zmm_30 : zmmb 30 = true := by decide +kernel
theorem zmm_31 : zmmb 31 = true := by decide +kernel
theorem zmm_32 : zmmb 32 = true := by decide +kernel
theorem zmm_33 : zmmb 33 = true := by decide +kernel
theorem zmm_34 : zmmb 34 = true := by decide +kernel
theorem zmm_35 : zmmb 35 = true := by decide +kernel
theorem zmm_36 : zmmb 36 = true := by decide +kernel
theorem zmm_37 : zmmb 37 = true := by decide +kernel
theorem zmm_38 : zmmb 38 = true := by decide +kernel
theorem zmm_39 : zmmb 39 = true := by decide +kernel
theorem zmm_40 : zmmb 40 = true := by decide +kernel
theorem zmm_41 : zmmb 41 = true := by decide +kernel
theorem zmm_42 : zmmb 42 = true := by decide +kernel
theorem zmm_43 : zmmb 43 = true := by decide +kernel
theorem zmm_44 : zmmb 44 = true := by decide +kernel
theorem zmm_45 : zmmb 45 = true := by decide +kernel
theorem zmm_46 : zmmb 46 = true := by decide +kernel
theorem zmm_47 : zmmb 47 = true := by decide +kernel
theorem zmm_48 : zmmb 48 = true := by decide +kernel
theorem zmm_49 : zmmb 49 = true := by decide +kernel
theorem zmm_50 : zmmb 50 = true := by decide +kernel
theorem zmm_51 : zmmb 51 = true := by decide +kernel
theorem zmm_52 : zmmb 52 = true := by decide +kernel
theorem zmm_53 : zmmb 53 = true := by decide +kernel
theorem zmm_54 : zmmb 54 = true := by decide +kernel
theorem zmm_55 : zmmb 55 = true := by decide +kernel
theorem zmm_56 : zmmb 56 = true := by decide +kernel
theorem zmm_57 : zmmb 57 = true := by decide +kernel
theorem zmm_58 : zmmb 58 = true := by decide +kernel
theorem zmm_59 : zmmb 59 = true := by decide +kernel
theorem zmm_60 : zmmb 60 = true := by decide +kernel
theorem zmm_61 : zmmb 61 = true := by decide +kernel
theorem zmm_62 : zmmb 62 = true := by decide +kernel
theorem zmm_63 : zmmb 63 = true := by decide +kernel
theorem zmm_64 : zmmb 64 = true := by decide +kernel
theorem zmm_65 : zmmb 65 = true := by decide +kernel
theorem zmm_66 : zmmb 66 = true := by decide +kernel
theorem zmm_67 : zmmb 67 = true := by decide +kernel
theorem zmm_68 : zmmb 68 = true := by decide +kernel
theorem zmm_69 : zmmb 69 = true := by decide +kernel
theorem zmm_70 : zmmb 70 = true := by decide +kernel
theorem zmm_71 : zmmb 71 = true := by decide +kernel
theorem zmm_72 : zmmb 72 = true := by decide +kernel
theorem zmm_73 : zmmb 73 = true := by decide +kernel
theorem zmm_74 : zmmb 74 = true := by decide +kernel
theorem zmm_75 : zmmb 75 = true := by decide +kernel
theorem zmm_76 : zmmb 76 = true := by decide +kernel
theorem zmm_77 : zmmb 77 = true := by decide +kernel
theorem zmm_78 : zmmb 78 = true := by decide +kernel
theorem zmm_79 : zmmb 79 = true := by decide +kernel
theorem zmm_80 : zmmb 80 = true := by decide +kernel
theorem zmm_81 : zmmb 81 = true := by decide +kernel
theorem zmm_82 : zmmb 82 = true := by decide +kernel
theorem zmm_83 : zmmb 83 = true := by decide +kernel
theorem zmm_84 : zmmb 84 = true := by decide +kernel
theorem zmm_85 : zmmb 85 = true := by decide +kernel
theorem zmm_86 : zmmb 86 = true := by decide +kernel
theorem zmm_87 : zmmb 87 = true := by decide +kernel
theorem zmm_88 : zmmb 88 = true := by decide +kernel
theorem zmm_89 : zmmb 89 = true := by decide +kernel
theorem zmm_90 : zmmb 90 = true := by decide +kernel
theorem zmm_91 : zmmb 91 = true := by decide +kernel
theorem zmm_92 : zmmb 92 = true := by decide +kernel
theorem zmm_93 : zmmb 93 = true := by decide +kernel
theorem zmm_94 : zmmb 94 = true := by decide +kernel
theorem zmm_95 : zmmb 95 = true := by decide +kernel
theorem zmm_96 : zmmb 96 = true := by decide +kernel
theorem zmm_97 : zmmb 97 = true := by decide +kernel
theorem zmm_98 : zmmb 98 = true := by decide +kernel
theorem zmm_99 : zmmb 99 = true := by decide +kernel
theorem zmm_100 : zmmb 100 = true := by decide +kernel
theorem zmm_101 : zmmb 101 = true := by decide +kernel
theorem zmm_102 : zmmb 102 = true := by decide +kernel
theorem zmm_103 : zmmb 103 = true := by decide +kernel
theorem zmm_104 : zmmb 104 = true := by decide +kernel
theorem zmm_105 : zmmb 105 = true := by decide +kernel
theorem zmm_106 : zmmb 106 = true := by decide +kernel
theorem zmm_107 : zmmb 107 = true := by decide +kernel
theorem zmm_108 : zmmb 108 = true := by decide +kernel
theorem zmm_109 : zmmb 109 = true := by decide +kernel
theorem zmm_110 : zmmb 110 = true := by decide +kernel
theorem zmm_111 : zmmb 111 = true := by decide +kernel
theorem zmm_112 : zmmb 112 = true := by decide +kernel
theorem zmm_113 : zmmb 113 = true := by decide +kernel
theorem zmm_114 : zmmb 114 = true := by decide +kernel
theorem zmm_115 : zmmb 115 = true := by decide +kernel
theorem zmm_116 : zmmb 116 = true := by decide +kernel
theorem zmm_117 : zmmb 117 = true := by decide +kernel
theorem zmm_118 : zmmb 118 = true := by decide +kernel
theorem zmm_119 : zmmb 119 = true := by decide +kernel
theorem zmm_120 : zmmb 120 = true := by decide +kernel
theorem zmm_121 : zmmb 121 = true := by decide +kernel
theorem zmm_122 : zmmb 122 = true := by decide +kernel
theorem zmm_123 : zmmb 123 = true := by decide +kernel
theorem zmm_124 : zmmb 124 = true := by decide +kernel
theorem zmm_125 : zmmb 125 = true := by decide +kernel
theorem zmm_126 : zmmb 126 = true := by decide +kernel
theorem zmm_127 : zmmb 127 = true := by decide +kernel
theorem zmm_128 : zmmb 128 = true := by decide +kernel
theorem zmm_129 : zmmb 129 = true := by decide +kernel
theorem zmm_130 : zmmb 130 = true := by decide +kernel
theorem zmm_131 : zmmb 131 = true := by decide +kernel
theorem zmm_132 : zmmb 132 = true := by decide +kernel
theorem zmm_133 : zmmb 133 = true := by decide +kernel
theorem zmm_134 : zmmb 134 = true := by decide +kernel
theorem zmm_135 : zmmb 135 = true := by decide +kernel
theorem zmm_136 : zmmb 136 = true := by decide +kernel
theorem zmm_137 : zmmb 137 = true := by decide +kernel
theorem zmm_138 : zmmb 138 = true := by decide +kernel
theorem zmm_139 : zmmb 139 = true := by decide +kernel
theorem zmm_140 : zmmb 140 = true := by decide +kernel
theorem zmm_141 : zmmb 141 = true := by decide +kernel
theorem zmm_142 : zmmb 142 = true := by decide +kernel
theorem zmm_143 : zmmb 143 = true := by decide +kernel
theorem zmm_144 : zmmb 144 = true := by decide +kernel
theorem zmm_145 : zmmb 145 = true := by decide +kernel
theorem zmm_146 : zmmb 146 = true := by decide +kernel
theorem zmm_147 : zmmb 147 = true := by decide +kernel
theorem zmm_148 : zmmb 148 = true := by decide +kernel
theorem zmm_149 : zmmb 149 = true := by decide +kernel
theorem zmm_150 : zmmb 150 = true := by decide +kernel
theorem zmm_151 : zmmb 151 = true := by decide +kernel
theorem zmm_152 : zmmb 152 = true := by decide +kernel
theorem zmm_153 : zmmb 153 = true := by decide +kernel
theorem zmm_154 : zmmb 154 = true := by decide +kernel
theorem zmm_155 : zmmb 155 = true := by decide +kernel
theorem zmm_156 : zmmb 156 = true := by decide +kernel
theorem zmm_157 : zmmb 157 = true := by decide +kernel
theorem zmm_158 : zmmb 158 = true := by decide +kernel
theorem zmm_159 : zmmb 159 = true := by decide +kernel
theorem zmm_160 : zmmb 160 = true := by decide +kernel
theorem zmm_161 : zmmb 161 = true := by decide +kernel
theorem zmm_162 : zmmb 162 = true := by decide +kernel
theorem zmm_163 : zmmb 163 = true := by decide +kernel
theorem zmm_164 : zmmb 164 = true := by decide +kernel
theorem zmm_165 : zmmb 165 = true := by decide +kernel
theorem zmm_166 : zmmb 166 = true := by decide +kernel
theorem zmm_167 : zmmb 167 = true := by decide +kernel
theorem zmm_168 : zmmb 168 = true := by decide +kernel
theorem zmm_169 : zmmb 169 = true := by decide +kernel
theorem zmm_170 : zmmb 170 = true := by decide +kernel
theorem zmm_171 : zmmb 171 = true := by decide +kernel
theorem zmm_172 : zmmb 172 = true := by decide +kernel
theorem zmm_173 : zmmb 173 = true := by decide +kernel
theorem zmm_174 : zmmb 174 = true := by decide +kernel
theorem zmm_175 : zmmb 175 = true := by decide +kernel
theorem zmm_176 : zmmb 176 = true := by decide +kernel
theorem zmm_177 : zmmb 177 = true := by decide +kernel
theorem zmm_178 : zmmb 178 = true := by decide +kernel
theorem zmm_179 : zmmb 179 = true := by decide +kernel
theorem zmm_180 : zmmb 180 = true := by decide +kernel
theorem zmm_181 : zmmb 181 = true := by decide +kernel
theorem zmm_182 : zmmb 182 = true := by decide +kernel
theorem zmm_183 : zmmb 183 = true := by decide +kernel
theorem zmm_184 : zmmb 184 = true := by decide +kernel
theorem zmm_185 : zmmb 185 = true := by decide +kernel
theorem zmm_186 : zmmb 186 = true := by decide +kernel
theorem zmm_187 : zmmb 187 = true := by decide +kernel
theorem zmm_188 : zmmb 188 = true := by decide +kernel
theorem zmm_189 : zmmb 189 = true := by decide +kernel
theorem zmm_190 : zmmb 190 = true := by decide +kernel
theorem zmm_191 : zmmb 191 = true := by decide +kernel
theorem zmm_192 : zmmb 192 = true := by decide +kernel
theorem zmm_193 : zmmb 193 = true := by decide +kernel
theorem zmm_194 : zmmb 194 = true := by decide +kernel
theorem zmm_195 : zmmb 195 = true := by decide +kernel
theorem zmm_196 : zmmb 196 = true := by decide +kernel
theorem zmm_197 : zmmb 197 = true := by decide +kernel
theorem zmm_198 : zmmb 198 = true := by decide +kernel
theorem zmm_199 : zmmb 199 = true := by decide +kernel
theorem zmm_200 : zmmb 200 = true := by decide +kernel
theorem zmm_201 : zmmb 201 = true := by decide +kernel
theorem zmm_202 : zmmb 202 = true := by decide +kernel
theorem zmm_203 : zmmb 203 = true := by decide +kernel
theorem zmm_204 : zmmb 204 = true := by decide +kernel
theorem zmm_205 : zmmb 205 = true := by decide +kernel
theorem zmm_206 : zmmb 206 = true := by decide +kernel
theorem zmm_207 : zmmb 207 = true := by decide +kernel
theorem zmm_208 : zmmb 208 = true := by decide +kernel
theorem zmm_209 : zmmb 209 = true := by decide +kernel
theorem zmm_210 : zmmb 210 = true := by decide +kernel
theorem zmm_211 : zmmb 211 = true := by decide +kernel
theorem zmm1 : ∀ mj, 0 ≤ mj → mj < 212 → zmmb mj = true := (zsp 106 (zsp 53 (zsp 26 (zsp 13 (zsp 6 (zsp 3 (zsp 1 (zon (a := 0) zmm_0) (zsp 2 (zon (a := 1) zmm_1) (zon (a := 2) zmm_2))) (zsp 4 (zon (a := 3) zmm_3) (zsp 5 (zon (a := 4) zmm_4) (zon (a := 5) zmm_5)))) (zsp 9 (zsp 7 (zon (a := 6) zmm_6) (zsp 8 (zon (a := 7) zmm_7) (zon (a := 8) zmm_8))) (zsp 11 (zsp 10 (zon (a := 9) zmm_9) (zon (a := 10) zmm_10)) (zsp 12 (zon (a := 11) zmm_11) (zon (a := 12) zmm_12))))) (zsp 19 (zsp 16 (zsp 14 (zon (a := 13) zmm_13) (zsp 15 (zon (a := 14) zmm_14) (zon (a := 15) zmm_15))) (zsp 17 (zon (a := 16) zmm_16) (zsp 18 (zon (a := 17) zmm_17) (zon (a := 18) zmm_18)))) (zsp 22 (zsp 20 (zon (a := 19) zmm_19) (zsp 21 (zon (a := 20) zmm_20) (zon (a := 21) zmm_21))) (zsp 24 (zsp 23 (zon (a := 22) zmm_22) (zon (a := 23) zmm_23)) (zsp 25 (zon (a := 24) zmm_24) (zon (a := 25) zmm_25)))))) (zsp 39 (zsp 32 (zsp 29 (zsp 27 (zon (a := 26) zmm_26) (zsp 28 (zon (a := 27) zmm_27) (zon (a := 28) zmm_28))) (zsp 30 (zon (a := 29) zmm_29) (zsp 31 (zon (a := 30) zmm_30) (zon (a := 31) zmm_31)))) (zsp 35 (zsp 33 (zon (a := 32) zmm_32) (zsp 34 (zon (a := 33) zmm_33) (zon (a := 34) zmm_34))) (zsp 37 (zsp 36 (zon (a := 35) zmm_35) (zon (a := 36) zmm_36)) (zsp 38 (zon (a := 37) zmm_37) (zon (a := 38) zmm_38))))) (zsp 46 (zsp 42 (zsp 40 (zon (a := 39) zmm_39) (zsp 41 (zon (a := 40) zmm_40) (zon (a := 41) zmm_41))) (zsp 44 (zsp 43 (zon (a := 42) zmm_42) (zon (a := 43) zmm_43)) (zsp 45 (zon (a := 44) zmm_44) (zon (a := 45) zmm_45)))) (zsp 49 (zsp 47 (zon (a := 46) zmm_46) (zsp 48 (zon (a := 47) zmm_47) (zon (a := 48) zmm_48))) (zsp 51 (zsp 50 (zon (a := 49) zmm_49) (zon (a := 50) zmm_50)) (zsp 52 (zon (a := 51) zmm_51) (zon (a := 52) zmm_52))))))) (zsp 79 (zsp 66 (zsp 59 (zsp 56 (zsp 54 (zon (a := 53) zmm_53) (zsp 55 (zon (a := 54) zmm_54) (zon (a := 55) zmm_55))) (zsp 57 (zon (a := 56) zmm_56) (zsp 58 (zon (a := 57) zmm_57) (zon (a := 58) zmm_58)))) (zsp 62 (zsp 60 (zon (a := 59) zmm_59) (zsp 61 (zon (a := 60) zmm_60) (zon (a := 61) zmm_61))) (zsp 64 (zsp 63 (zon (a := 62) zmm_62) (zon (a := 63) zmm_63)) (zsp 65 (zon (a := 64) zmm_64) (zon (a := 65) zmm_65))))) (zsp 72 (zsp 69 (zsp 67 (zon (a := 66) zmm_66) (zsp 68 (zon (a := 67) zmm_67) (zon (a := 68) zmm_68))) (zsp 70 (zon (a := 69) zmm_69) (zsp 71 (zon (a := 70) zmm_70) (zon (a := 71) zmm_71)))) (zsp 75 (zsp 73 (zon (a := 72) zmm_72) (zsp 74 (zon (a := 73) zmm_73) (zon (a := 74) zmm_74))) (zsp 77 (zsp 76 (zon (a := 75) zmm_75) (zon (a := 76) zmm_76)) (zsp 78 (zon (a := 77) zmm_77) (zon (a := 78) zmm_78)))))) (zsp 92 (zsp 85 (zsp 82 (zsp 80 (zon (a := 79) zmm_79) (zsp 81 (zon (a := 80) zmm_80) (zon (a := 81) zmm_81))) (zsp 83 (zon (a := 82) zmm_82) (zsp 84 (zon (a := 83) zmm_83) (zon (a := 84) zmm_84)))) (zsp 88 (zsp 86 (zon (a := 85) zmm_85) (zsp 87 (zon (a := 86) zmm_86) (zon (a := 87) zmm_87))) (zsp 90 (zsp 89 (zon (a := 88) zmm_88) (zon (a := 89) zmm_89)) (zsp 91 (zon (a := 90) zmm_90) (zon (a := 91) zmm_91))))) (zsp 99 (zsp 95 (zsp 93 (zon (a := 92) zmm_92) (zsp 94 (zon (a := 93) zmm_93) (zon (a := 94) zmm_94))) (zsp 97 (zsp 96 (zon (a := 95) zmm_95) (zon (a := 96) zmm_96)) (zsp 98 (zon (a := 97) zmm_97) (zon (a := 98) zmm_98)))) (zsp 102 (zsp 100 (zon (a := 99) zmm_99) (zsp 101 (zon (a := 100) zmm_100) (zon (a := 101) zmm_101))) (zsp 104 (zsp 103 (zon (a := 102) zmm_102) (zon (a := 103) zmm_103)) (zsp 105 (zon (a := 104) zmm_104) (zon (a := 105) zmm_105)))))))) (zsp 159 (zsp 132 (zsp 119 (zsp 112 (zsp 109 (zsp 107 (zon (a := 106) zmm_106) (zsp 108 (zon (a := 107) zmm_107) (zon (a := 108) zmm_108))) (zsp 110 (zon (a := 109) zmm_109) (zsp 111 (zon (a := 110) zmm_110) (zon (a := 111) zmm_111)))) (zsp 115 (zsp 113 (zon (a := 112) zmm_112) (zsp 114 (zon (a := 113) zmm_113) (zon (a := 114) zmm_114))) (zsp 117 (zsp 116 (zon (a := 115) zmm_115) (zon (a := 116) zmm_116)) (zsp 118 (zon (a := 117) zmm_117) (zon (a := 118) zmm_118))))) (zsp 125 (zsp 122 (zsp 120 (zon (a := 119) zmm_119) (zsp 121 (zon (a := 120) zmm_120) (zon (a := 121) zmm_121))) (zsp 123 (zon (a := 122) zmm_122) (zsp 124 (zon (a := 123) zmm_123) (zon (a := 124) zmm_124)))) (zsp 128 (zsp 126 (zon (a := 125) zmm_125) (zsp 127 (zon (a := 126) zmm_126) (zon (a := 127) zmm_127))) (zsp 130 (zsp 129 (zon (a := 128) zmm_128) (zon (a := 129) zmm_129)) (zsp 131 (zon (a := 130) zmm_130) (zon (a := 131) zmm_131)))))) (zsp 145 (zsp 138 (zsp 135 (zsp 133 (zon (a := 132) zmm_132) (zsp 134 (zon (a := 133) zmm_133) (zon (a := 134) zmm_134))) (zsp 136 (zon (a := 135) zmm_135) (zsp 137 (zon (a := 136) zmm_136) (zon (a := 137) zmm_137)))) (zsp 141 (zsp 139 (zon (a := 138) zmm_138) (zsp 140 (zon (a := 139) zmm_139) (zon (a := 140) zmm_140))) (zsp 143 (zsp 142 (zon (a := 141) zmm_141) (zon (a := 142) zmm_142)) (zsp 144 (zon (a := 143) zmm_143) (zon (a := 144) zmm_144))))) (zsp 152 (zsp 148 (zsp 146 (zon (a := 145) zmm_145) (zsp 147 (zon (a := 146) zmm_146) (zon (a := 147) zmm_147))) (zsp 150 (zsp 149 (zon (a := 148) zmm_148) (zon (a := 149) zmm_149)) (zsp 151 (zon (a := 150) zmm_150) (zon (a := 151) zmm_151)))) (zsp 155 (zsp 153 (zon (a := 152) zmm_152) (zsp 154 (zon (a := 153) zmm_153) (zon (a := 154) zmm_154))) (zsp 157 (zsp 156 (zon (a := 155) zmm_155) (zon (a := 156) zmm_156)) (zsp 158 (zon (a := 157) zmm_157) (zon (a := 158) zmm_158))))))) (zsp 185 (zsp 172 (zsp 165 (zsp 162 (zsp 160 (zon (a := 159) zmm_159) (zsp 161 (zon (a := 160) zmm_160) (zon (a := 161) zmm_161))) (zsp 163 (zon (a := 162) zmm_162) (zsp 164 (zon (a := 163) zmm_163) (zon (a := 164) zmm_164)))) (zsp 168 (zsp 166 (zon (a := 165) zmm_165) (zsp 167 (zon (a := 166) zmm_166) (zon (a := 167) zmm_167))) (zsp 170 (zsp 169 (zon (a := 168) zmm_168) (zon (a := 169) zmm_169)) (zsp 171 (zon (a := 170) zmm_170) (zon (a := 171) zmm_171))))) (zsp 178 (zsp 175 (zsp 173 (zon (a := 172) zmm_172) (zsp 174 (zon (a := 173) zmm_173) (zon (a := 174) zmm_174))) (zsp 176 (zon (a := 175) zmm_175) (zsp 177 (zon (a := 176) zmm_176) (zon (a := 177) zmm_177)))) (zsp 181 (zsp 179 (zon (a := 178) zmm_178) (zsp 180 (zon (a := 179) zmm_179) (zon (a := 180) zmm_180))) (zsp 183 (zsp 182 (zon (a := 181) zmm_181) (zon (a := 182) zmm_182)) (zsp 184 (zon (a := 183) zmm_183) (zon (a := 184) zmm_184)))))) (zsp 198 (zsp 191 (zsp 188 (zsp 186 (zon (a := 185) zmm_185) (zsp 187 (zon (a := 186) zmm_186) (zon (a := 187) zmm_187))) (zsp 189 (zon (a := 188) zmm_188) (zsp 190 (zon (a := 189) zmm_189) (zon (a := 190) zmm_190)))) (zsp 194 (zsp 192 (zon (a := 191) zmm_191) (zsp 193 (zon (a := 192) zmm_192) (zon (a := 193) zmm_193))) (zsp 196 (zsp 195 (zon (a := 194) zmm_194) (zon (a := 195) zmm_195)) (zsp 197 (zon (a := 196) zmm_196) (zon (a := 197) zmm_197))))) (zsp 205 (zsp 201 (zsp 199 (zon (a := 198) zmm_198) (zsp 200 (zon (a := 199) zmm_199) (zon (a := 200) zmm_200))) (zsp 203 (zsp 202 (zon (a := 201) zmm_201) (zon (a := 202) zmm_202)) (zsp 204 (zon (a := 203) zmm_203) (zon (a := 204) zmm_204)))) (zsp 208 (zsp 206 (zon (a := 205) zmm_205) (zsp 207 (zon (a := 206) zmm_206) (zon (a := 207) zmm_207))) (zsp 210 (zsp 209 (zon (a := 208) zmm_208) (zon (a := 209) zmm_209)) (zsp 211 (zon (a := 210) zmm_210) (zon (a := 211) zmm_211)))))))))
theorem zplain : ∀ oc, 0 ≤ oc → oc < 14 → plainName (zRn oc) = true := (zsp 7 (zsp 3 (zsp 1 (zon (a := 0) (by decide)) (zsp 2 (zon (a := 1) (by decide)) (zon (a := 2) (by decide)))) (zsp 5 (zsp 4 (zon (a := 3) (by decide)) (zon (a := 4) (by decide))) (zsp 6 (zon (a := 5) (by decide)) (zon (a := 6) (by decide))))) (zsp 10 (zsp 8 (zon (a := 7) (by decide)) (zsp 9 (zon (a := 8) (by decide)) (zon (a := 9) (by decide)))) (zsp 12 (zsp 11 (zon (a := 10) (by decide)) (zon (a := 11) (by decide))) (zsp 13 (zon (a := 12) (by decide)) (zon (a := 13) (by decide))))))
theorem zmp0 : (List.range 212).all zmpb = true := by decide +kernel
def zNL : Nat := 212
theorem zmm {mj : Nat} (h : mj < 212) : zmmb mj = true := zmm1 mj (Nat.zero_le _) h
theorem zmp {mj : Nat} (h : mj < 212) : zmpb mj = true := List.all_eq_true.mp zmp0 _ (List.mem_range.mpr h)
def zlpk (k : Nat) : Nat := (zH k 11537 (zH k 11342 (zH k 7346 (zE k 7339 684 0) (zE k 7346 689 0)) (zH k 11343 (zE k 11342 455 0) (zH k 11408 (zE k 11343 456 0) (zE k 11408 709 0)))) (zH k 12511 (zH k 12507 (zE k 11537 1009 0) (zE k 12507 1557 0)) (zH k 12555 (zE k 12511 1561 0) (zH k 12684 (zE k 12555 1653 0) (zE k 12684 1758 0)))))
def zllk (k : Nat) : Nat := (zH k 12607 (zH k 12591 (zH k 12562 (zH k 6226 (zE k 6159 742 0) (zE k 6226 912 0)) (zH k 12589 (zE k 12562 1686 0) (zE k 12589 1699 0))) (zH k 12601 (zH k 12599 (zE k 12591 1700 0) (zE k 12599 1728 0)) (zH k 12603 (zE k 12601 1729 0) (zH k 12605 (zE k 12603 1730 0) (zE k 12605 1731 0))))) (zH k 12617 (zH k 12611 (zH k 12609 (zE k 12607 1732 0) (zE k 12609 1733 0)) (zH k 12613 (zE k 12611 1705 0) (zH k 12615 (zE k 12613 1710 0) (zE k 12615 1719 0)))) (zH k 12621 (zH k 12619 (zE k 12617 1720 0) (zE k 12619 1721 0)) (zH k 12623 (zE k 12621 1722 0) (zH k 13381 (zE k 12623 1723 0) (zE k 13381 1882 0))))))
def zlcb (k : Nat) : Bool := match zldck k with
  | some (.inl v) => decide (lw_tbl[zlpk k]? = some (.constant (zRn (k / 1024)) (k % 1024) v)) && goodWord (.constant (zRn (k / 1024)) (k % 1024) v)
  | some (.inr i) => Nat.blt i 14
  | none => true
def zllb (k : Nat) : Bool := match zldlk k with
  | some v => decide (lw_tbl[zllk k]? = some (.constantLong (zRn (k / 1024)) (k % 1024) v)) && goodWord (.constantLong (zRn (k / 1024)) (k % 1024) v)
  | none => true
def zlccks : List Nat := [6195, 7339, 7346, 11342, 11343, 11408, 11537, 12507, 12511, 12555, 12684]
theorem zlcc0 : zlccks.all zlcb = true := by decide +kernel
theorem zlcc_in_0 : ∀ n, n < 1024 → zldck (0 * 1024 + n) = none ∨ (0 * 1024 + n) ∈ zlccks := by decide +kernel
theorem zlcc_in_1 : ∀ n, n < 1024 → zldck (1 * 1024 + n) = none ∨ (1 * 1024 + n) ∈ zlccks := by decide +kernel
theorem zlcc_in_2 : ∀ n, n < 1024 → zldck (2 * 1024 + n) = none ∨ (2 * 1024 + n) ∈ zlccks := by decide +kernel
theorem zlcc_in_3 : ∀ n, n < 1024 → zldck (3 * 1024 + n) = none ∨ (3 * 1024 + n) ∈ zlccks := by decide +kernel
theorem zlcc_in_4 : ∀ n, n < 1024 → zldck (4 * 1024 + n) = none ∨ (4 * 1024 + n) ∈ zlccks := by decide +kernel
theorem zlcc_in_5 : ∀ n, n < 1024 → zldck (5 * 1024 + n) = none ∨ (5 * 1024 + n) ∈ zlccks := by decide +kernel
theorem zlcc_in_6 : ∀ n, n < 1024 → zldck (6 * 1024 + n) = none ∨ (6 * 1024 + n) ∈ zlccks := by decide +kernel
theorem zlcc_in_7 : ∀ n, n < 1024 → zldck (7 * 1024 + n) = none ∨ (7 * 1024 + n) ∈ zlccks := by decide +kernel
theorem zlcc_in_8 : ∀ n, n < 1024 → zldck (8 * 1024 + n) = none ∨ (8 * 1024 + n) ∈ zlccks := by decide +kernel
theorem zlcc_in_9 : ∀ n, n < 1024 → zldck (9 * 1024 + n) = none ∨ (9 * 1024 + n) ∈ zlccks := by decide +kernel
theorem zlcc_in_10 : ∀ n, n < 1024 → zldck (10 * 1024 + n) = none ∨ (10 * 1024 + n) ∈ zlccks := by decide +kernel
theorem zlcc_in_11 : ∀ n, n < 1024 → zldck (11 * 1024 + n) = none ∨ (11 * 1024 + n) ∈ zlccks := by decide +kernel
theorem zlcc_in_12 : ∀ n, n < 1024 → zldck (12 * 1024 + n) = none ∨ (12 * 1024 + n) ∈ zlccks := by decide +kernel
theorem zlcc_in_13 : ∀ n, n < 1024 → zldck (13 * 1024 + n) = none ∨ (13 * 1024 + n) ∈ zlccks := by decide +kernel
theorem zlcc_in : ∀ oc, 0 ≤ oc → oc < 14 → ∀ n, n < 1024 → zldck (oc * 1024 + n) = none ∨ (oc * 1024 + n) ∈ zlccks := (zsp 7 (zsp 3 (zsp 1 (zon (a := 0) zlcc_in_0) (zsp 2 (zon (a := 1) zlcc_in_1) (zon (a := 2) zlcc_in_2))) (zsp 5 (zsp 4 (zon (a := 3) zlcc_in_3) (zon (a := 4) zlcc_in_4)) (zsp 6 (zon (a := 5) zlcc_in_5) (zon (a := 6) zlcc_in_6)))) (zsp 10 (zsp 8 (zon (a := 7) zlcc_in_7) (zsp 9 (zon (a := 8) zlcc_in_8) (zon (a := 9) zlcc_in_9))) (zsp 12 (zsp 11 (zon (a := 10) zlcc_in_10) (zon (a := 11) zlcc_in_11)) (zsp 13 (zon (a := 12) zlcc_in_12) (zon (a := 13) zlcc_in_13)))))
theorem zlcc {oc n : Nat} (hoc : oc < 14) (hn : n < 1024) : zlcb (oc * 1024 + n) = true := by
  rcases zlcc_in oc (Nat.zero_le _) hoc n hn with h1 | h1
  · unfold zlcb; rw [h1]
  · exact List.all_eq_true.mp zlcc0 _ h1
def zllcks : List Nat := [6159, 6226, 12562, 12589, 12591, 12599, 12601, 12603, 12605, 12607, 12609, 12611, 12613, 12615, 12617, 12619, 12621, 12623, 13381]
theorem zllc0 : zllcks.all zllb = true := by decide +kernel
theorem zllc_in_0 : ∀ n, n < 1024 → zldlk (0 * 1024 + n) = none ∨ (0 * 1024 + n) ∈ zllcks := by decide +kernel
theorem zllc_in_1 : ∀ n, n < 1024 → zldlk (1 * 1024 + n) = none ∨ (1 * 1024 + n) ∈ zllcks := by decide +kernel
theorem zllc_in_2 : ∀ n, n < 1024 → zldlk (2 * 1024 + n) = none ∨ (2 * 1024 + n) ∈ zllcks := by decide +kernel
theorem zllc_in_3 : ∀ n, n < 1024 → zldlk (3 * 1024 + n) = none ∨ (3 * 1024 + n) ∈ zllcks := by decide +kernel
theorem zllc_in_4 : ∀ n, n < 1024 → zldlk (4 * 1024 + n) = none ∨ (4 * 1024 + n) ∈ zllcks := by decide +kernel
theorem zllc_in_5 : ∀ n, n < 1024 → zldlk (5 * 1024 + n) = none ∨ (5 * 1024 + n) ∈ zllcks := by decide +kernel
theorem zllc_in_6 : ∀ n, n < 1024 → zldlk (6 * 1024 + n) = none ∨ (6 * 1024 + n) ∈ zllcks := by decide +kernel
theorem zllc_in_7 : ∀ n, n < 1024 → zldlk (7 * 1024 + n) = none ∨ (7 * 1024 + n) ∈ zllcks := by decide +kernel
theorem zllc_in_8 : ∀ n, n < 1024 → zldlk (8 * 1024 + n) = none ∨ (8 * 1024 + n) ∈ zllcks := by decide +kernel
theorem zllc_in_9 : ∀ n, n < 1024 → zldlk (9 * 1024 + n) = none ∨ (9 * 1024 + n) ∈ zllcks := by decide +kernel
theorem zllc_in_10 : ∀ n, n < 1024 → zldlk (10 * 1024 + n) = none ∨ (10 * 1024 + n) ∈ zllcks := by decide +kernel
theorem zllc_in_11 : ∀ n, n < 1024 → zldlk (11 * 1024 + n) = none ∨ (11 * 1024 + n) ∈ zllcks := by decide +kernel
theorem zllc_in_12 : ∀ n, n < 1024 → zldlk (12 * 1024 + n) = none ∨ (12 * 1024 + n) ∈ zllcks := by decide +kernel
theorem zllc_in_13 : ∀ n, n < 1024 → zldlk (13 * 1024 + n) = none ∨ (13 * 1024 + n) ∈ zllcks := by decide +kernel
theorem zllc_in : ∀ oc, 0 ≤ oc → oc < 14 → ∀ n, n < 1024 → zldlk (oc * 1024 + n) = none ∨ (oc * 1024 + n) ∈ zllcks := (zsp 7 (zsp 3 (zsp 1 (zon (a := 0) zllc_in_0) (zsp 2 (zon (a := 1) zllc_in_1) (zon (a := 2) zllc_in_2))) (zsp 5 (zsp 4 (zon (a := 3) zllc_in_3) (zon (a := 4) zllc_in_4)) (zsp 6 (zon (a := 5) zllc_in_5) (zon (a := 6) zllc_in_6)))) (zsp 10 (zsp 8 (zon (a := 7) zllc_in_7) (zsp 9 (zon (a := 8) zllc_in_8) (zon (a := 9) zllc_in_9))) (zsp 12 (zsp 11 (zon (a := 10) zllc_in_10) (zon (a := 11) zllc_in_11)) (zsp 13 (zon (a := 12) zllc_in_12) (zon (a := 13) zllc_in_13)))))
theorem zllc {oc n : Nat} (hoc : oc < 14) (hn : n < 1024) : zllb (oc * 1024 + n) = true := by
  rcases zllc_in oc (Nat.zero_le _) hoc n hn with h1 | h1
  · unfold zllb; rw [h1]
  · exact List.all_eq_true.mp zllc0 _ h1
end
section
/-! DECODE: what the tables say is what the bytes say, and small facts of each instruction -/
def zj (pc : Nat) (o : Int) : Bool := decide (0 ≤ (pc : Int) + o)
def zcs (lo : Int) : Nat → Bool
  | 0 => true
  | n + 1 => decide (zcst (lo + n) = Int32.ofInt (lo + n)) && zcs lo n
def zchk (mi pc : Nat) (ins : Instr) (len : Nat) : Bool := match ins with
  | .iconst n => Nat.beq len 1 && decide (Int32.ofInt n = zcst n)
  | .bipush n => Nat.beq len 2 && decide ((Int8.ofInt n).toInt32 = zcst n)
  | .sipush n => Nat.beq len 3 && decide ((Int16.ofInt n).toInt32 = zcst n)
  | .iload _ => Nat.beq len 2
  | .aload _ => Nat.beq len 2
  | .lload _ => Nat.beq len 2
  | .istore n => Nat.beq len 2 && Nat.blt n (zmx mi)
  | .astore n => Nat.beq len 2 && Nat.blt n (zmx mi)
  | .lstore n => Nat.beq len 2 && Nat.blt (n + 1) (zmx mi)
  | .istore_n n => Nat.beq len 1 && Nat.blt n.val (zmx mi)
  | .astore_n n => Nat.beq len 1 && Nat.blt n.val (zmx mi)
  | .lstore_n n => Nat.beq len 1 && Nat.blt (n.val + 1) (zmx mi)
  | .iinc n c => Nat.beq len 3 && Nat.blt n (zmx mi) && decide (Int32.ofInt c = zcst c)
  | .goto o => Nat.beq len 3 && zj pc o
  | .ifCond _ o => Nat.beq len 3 && zj pc o
  | .if_icmp _ o => Nat.beq len 3 && zj pc o
  | .if_acmp _ o => Nat.beq len 3 && zj pc o
  | .ifnonnull o => Nat.beq len 3 && zj pc o
  | .tableswitch dflt lo hi offs => zj pc dflt && offs.toList.all (zj pc) && decide (lo + offs.size = hi + 1) && decide (-2147483648 ≤ lo) && decide (hi ≤ 2147483647) && zcs lo offs.size
  | .ldc n => Nat.beq len 2 && Nat.blt n 1024
  | .ldc_w n => Nat.beq len 3 && Nat.blt n 1024
  | .ldc2_w n => Nat.beq len 3 && Nat.blt n 1024
  | .getfield n => Nat.beq len 3 && Nat.blt n 1024
  | .putfield n => Nat.beq len 3 && Nat.blt n 1024 && (match zfld (zoc mi) n with | some (t, f, _) => !(zcT t f).2.2.2 | none => true)
  | .getstatic n => Nat.beq len 3 && Nat.blt n 1024
  | .invokevirtual n => Nat.beq len 3 && Nat.blt n 1024 && (match zmth (zoc mi) n with | some (mj, _, _) => Nat.ble 1000 mj || (zsg mj).isSome | none => true)
  | .invokestatic n => Nat.beq len 3 && Nat.blt n 1024 && (match zmth (zoc mi) n with | some (mj, _, _) => Nat.ble 1000 mj || (zsg mj).isNone | none => true)
  | .invokespecial n => match zmth (zoc mi) n with | some _ => false | none => true
  | .new _ => Nat.beq len 3
  | .ireturn => Nat.beq len 1 && Nat.beq (zrk mi) 1
  | .lreturn => Nat.beq len 1 && Nat.beq (zrk mi) 2
  | .areturn => Nat.beq len 1 && Nat.beq (zrk mi) 3
  | .return_ => Nat.beq len 1 && Nat.beq (zrk mi) 0
  | .newarray _ => Nat.beq len 2
  | _ => Nat.beq len 1
def zckb (B : ByteArray) (mi pc : Nat) (o : Option (Instr × Nat)) : Bool := match o with
  | none => true
  | some (i, l) => decide (decode B pc = .ok (i, l)) && zchk mi pc i l
theorem zdk_0 : ∀ pc, pc < 115 → zckb (zby 0) 0 pc (zcode 0 pc) = true := by decide +kernel
theorem zdk_1 : ∀ pc, pc < 18 → zckb (zby 1) 1 pc (zcode 1 pc) = true := by decide +kernel
theorem zdk_2 : ∀ pc, pc < 30 → zckb (zby 2) 2 pc (zcode 2 pc) = true := by decide +kernel
theorem zdk_3 : ∀ pc, pc < 31 → zckb (zby 3) 3 pc (zcode 3 pc) = true := by decide +kernel
theorem zdk_4 : ∀ pc, pc < 36 → zckb (zby 4) 4 pc (zcode 4 pc) = true := by decide +kernel
theorem zdk_5 : ∀ pc, pc < 49 → zckb (zby 5) 5 pc (zcode 5 pc) = true := by decide +kernel
theorem zdk_6 : ∀ pc, pc < 65 → zckb (zby 6) 6 pc (zcode 6 pc) = true := by decide +kernel
theorem zdk_7 : ∀ pc, pc < 93 → zckb (zby 7) 7 pc (zcode 7 pc) = true := by decide +kernel
theorem zdk_8 : ∀ pc, pc < 70 → zckb (zby 8) 8 pc (zcode 8 pc) = true := by decide +kernel
theorem zdk_9 : ∀ pc, pc < 85 → zckb (zby 9) 9 pc (zcode 9 pc) = true := by decide +kernel
theorem zdk_10 : ∀ pc, pc < 39 → zckb (zby 10) 10 pc (zcode 10 pc) = true := by decide +kernel
theorem zdk_11 : ∀ pc, pc < 46 → zckb (zby 11) 11 pc (zcode 11 pc) = true := by decide +kernel
theorem zdk_12 : ∀ pc, pc < 44 → zckb (zby 12) 12 pc (zcode 12 pc) = true := by decide +kernel
theorem zdk_13 : ∀ pc, pc < 32 → zckb (zby 13) 13 pc (zcode 13 pc) = true := by decide +kernel
theorem zdk_14 : ∀ pc, pc < 63 → zckb (zby 14) 14 pc (zcode 14 pc) = true := by decide +kernel
theorem zdk_15 : ∀ pc, pc < 77 → zckb (zby 15) 15 pc (zcode 15 pc) = true := by decide +kernel
theorem zdk_16 : ∀ pc, pc < 82 → zckb (zby 16) 16 pc (zcode 16 pc) = true := by decide +kernel
theorem zdk_17 : ∀ pc, pc < 51 → zckb (zby 17) 17 pc (zcode 17 pc) = true := by decide +kernel
theorem zdk_18 : ∀ pc, pc < 75 → zckb (zby 18) 18 pc (zcode 18 pc) = true := by decide +kernel
theorem zdk_19 : ∀ pc, pc < 23 → zckb (zby 19) 19 pc (zcode 19 pc) = true := by decide +kernel
theorem zdk_20 : ∀ pc, pc < 63 → zckb (zby 20) 20 pc (zcode 20 pc) = true := by decide +kernel
theorem zdk_21 : ∀ pc, pc < 52 → zckb (zby 21) 21 pc (zcode 21 pc) = true := by decide +kernel
theorem zdk_22 : ∀ pc, pc < 43 → zckb (zby 22) 22 pc (zcode 22 pc) = true := by decide +kernel
theorem zdk_23 : ∀ pc, pc < 26 → zckb (zby 23) 23 pc (zcode 23 pc) = true := by decide +kernel
theorem zdk_24 : ∀ pc, pc < 139 → zckb (zby 24) 24 pc (zcode 24 pc) = true := by decide +kernel
theorem zdk_25 : ∀ pc, pc < 90 → zckb (zby 25) 25 pc (zcode 25 pc) = true := by decide +kernel
theorem zdk_26 : ∀ pc, pc < 37 → zckb (zby 26) 26 pc (zcode 26 pc) = true := by decide +kernel
theorem zdk_27 : ∀ pc, pc < 91 → zckb (zby 27) 27 pc (zcode 27 pc) = true := by decide +kernel
theorem zdk_28 : ∀ pc, pc < 53 → zckb (zby 28) 28 pc (zcode 28 pc) = true := by decide +kernel
theorem zdk_29 : ∀ pc, pc < 27 → zckb (zby 29) 29 pc (zcode 29 pc) = true := by decide +kernel
theorem zdk_30 : ∀ pc, pc < 100 → zckb (zby 30) 30 pc (zcode 30 pc) = true := by decide +kernel
theorem zdk_31 : ∀ pc, pc < 92 → zckb (zby 31) 31 pc (zcode 31 pc) = true := by decide +kernel
theorem zdk_32 : ∀ pc, pc < 32 → zckb (zby 32) 32 pc (zcode 32 pc) = true := by decide +kernel
theorem zdk_33 : ∀ pc, pc < 28 → zckb (zby 33) 33 pc (zcode 33 pc) = true := by decide +kernel
theorem zdk_34 : ∀ pc, pc < 25 → zckb (zby 34) 34 pc (zcode 34 pc) = true := by decide +kernel
theorem zdk_35 : ∀ pc, pc < 47 → zckb (zby 35) 35 pc (zcode 35 pc) = true := by decide +kernel
theorem zdk_36 : ∀ pc, pc < 22 → zckb (zby 36) 36 pc (zcode 36 pc) = true := by decide +kernel
theorem zdk_37 : ∀ pc, pc < 18 → zckb (zby 37) 37 pc (zcode 37 pc) = true := by decide +kernel
theorem zdk_38 : ∀ pc, pc < 29 → zckb (zby 38) 38 pc (zcode 38 pc) = true := by decide +kernel
theorem zdk_39 : ∀ pc, pc < 22 → zckb (zby 39) 39 pc (zcode 39 pc) = true := by decide +kernel
theorem zdk_40 : ∀ pc, pc < 13 → zckb (zby 40) 40 pc (zcode 40 pc) = true := by decide +kernel
theorem zdk_41 : ∀ pc, pc < 15 → zckb (zby 41) 41 pc (zcode 41 pc) = true := by decide +kernel
theorem zdk_42 : ∀ pc, pc < 36 → zckb (zby 42) 42 pc (zcode 42 pc) = true := by decide +kernel
theorem zdk_43 : ∀ pc, pc < 25 → zckb (zby 43) 43 pc (zcode 43 pc) = true := by decide +kernel
theorem zdk_44 : ∀ pc, pc < 25 → zckb (zby 44) 44 pc (zcode 44 pc) = true := by decide +kernel
theorem zdk_45 : ∀ pc, pc < 34 → zckb (zby 45) 45 pc (zcode 45 pc) = true := by decide +kernel
theorem zdk_46 : ∀ pc, pc < 38 → zckb (zby 46) 46 pc (zcode 46 pc) = true := by decide +kernel
theorem zdk_47 : ∀ pc, pc < 29 → zckb (zby 47) 47 pc (zcode 47 pc) = true := by decide +kernel
theorem zdk_48 : ∀ pc, pc < 123 → zckb (zby 48) 48 pc (zcode 48 pc) = true := by decide +kernel
theorem zdk_49 : ∀ pc, pc < 49 → zckb (zby 49) 49 pc (zcode 49 pc) = true := by decide +kernel
theorem zdk_50 : ∀ pc, pc < 63 → zckb (zby 50) 50 pc (zcode 50 pc) = true := by decide +kernel
theorem zdk_51 : ∀ pc, pc < 48 → zckb (zby 51) 51 pc (zcode 51 pc) = true := by decide +kernel
theorem zdk_52 : ∀ pc, pc < 59 → zckb (zby 52) 52 pc (zcode 52 pc) = true := by decide +kernel
theorem zdk_53 : ∀ pc, pc < 127 → zckb (zby 53) 53 pc (zcode 53 pc) = true := by decide +kernel
theorem zdk_54 : ∀ pc, pc < 32 → zckb (zby 54) 54 pc (zcode 54 pc) = true := by decide +kernel
theorem zdk_55 : ∀ pc, pc < 89 → zckb (zby 55) 55 pc (zcode 55 pc) = true := by decide +kernel
theorem zdk_56 : ∀ pc, pc < 15 → zckb (zby 56) 56 pc (zcode 56 pc) = true := by decide +kernel
theorem zdk_57 : ∀ pc, pc < 218 → zckb (zby 57) 57 pc (zcode 57 pc) = true := by decide +kernel
theorem zdk_58 : ∀ pc, pc < 45 → zckb (zby 58) 58 pc (zcode 58 pc) = true := by decide +kernel
theorem zdk_59 : ∀ pc, pc < 13 → zckb (zby 59) 59 pc (zcode 59 pc) = true := by decide +kernel
theorem zdk_60 : ∀ pc, pc < 14 → zckb (zby 60) 60 pc (zcode 60 pc) = true := by decide +kernel
theorem zdk_61 : ∀ pc, pc < 27 → zckb (zby 61) 61 pc (zcode 61 pc) = true := by decide +kernel
theorem zdk_62 : ∀ pc, pc < 14 → zckb (zby 62) 62 pc (zcode 62 pc) = true := by decide +kernel
theorem zdk_63 : ∀ pc, pc < 21 → zckb (zby 63) 63 pc (zcode 63 pc) = true := by decide +kernel
theorem zdk_64 : ∀ pc, pc < 19 → zckb (zby 64) 64 pc (zcode 64 pc) = true := by decide +kernel
theorem zdk_65 : ∀ pc, pc < 110 → zckb (zby 65) 65 pc (zcode 65 pc) = true := by decide +kernel
theorem zdk_66 : ∀ pc, pc < 40 → zckb (zby 66) 66 pc (zcode 66 pc) = true := by decide +kernel
theorem zdk_67 : ∀ pc, pc < 44 → zckb (zby 67) 67 pc (zcode 67 pc) = true := by decide +kernel
theorem zdk_68 : ∀ pc, pc < 134 → zckb (zby 68) 68 pc (zcode 68 pc) = true := by decide +kernel
theorem zdk_69 : ∀ pc, pc < 56 → zckb (zby 69) 69 pc (zcode 69 pc) = true := by decide +kernel
theorem zdk_70 : ∀ pc, pc < 122 → zckb (zby 70) 70 pc (zcode 70 pc) = true := by decide +kernel
theorem zdk_71 : ∀ pc, pc < 116 → zckb (zby 71) 71 pc (zcode 71 pc) = true := by decide +kernel
theorem zdk_72 : ∀ pc, pc < 18 → zckb (zby 72) 72 pc (zcode 72 pc) = true := by decide +kernel
theorem zdk_73 : ∀ pc, pc < 26 → zckb (zby 73) 73 pc (zcode 73 pc) = true := by decide +kernel
theorem zdk_74 : ∀ pc, pc < 26 → zckb (zby 74) 74 pc (zcode 74 pc) = true := by decide +kernel
theorem zdk_75 : ∀ pc, pc < 52 → zckb (zby 75) 75 pc (zcode 75 pc) = true := by decide +kernel
theorem zdk_76 : ∀ pc, pc < 31 → zckb (zby 76) 76 pc (zcode 76 pc) = true := by decide +kernel
theorem zdk_77 : ∀ pc, pc < 100 → zckb (zby 77) 77 pc (zcode 77 pc) = true := by decide +kernel
theorem zdk_78 : ∀ pc, pc < 164 → zckb (zby 78) 78 pc (zcode 78 pc) = true := by decide +kernel
theorem zdk_79 : ∀ pc, pc < 188 → zckb (zby 79) 79 pc (zcode 79 pc) = true := by decide +kernel
theorem zdk_80 : ∀ pc, pc < 54 → zckb (zby 80) 80 pc (zcode 80 pc) = true := by decide +kernel
theorem zdk_81 : ∀ pc, pc < 33 → zckb (zby 81) 81 pc (zcode 81 pc) = true := by decide +kernel
theorem zdk_82 : ∀ pc, pc < 174 → zckb (zby 82) 82 pc (zcode 82 pc) = true := by decide +kernel
theorem zdk_83 : ∀ pc, pc < 86 → zckb (zby 83) 83 pc (zcode 83 pc) = true := by decide +kernel
theorem zdk_84 : ∀ pc, pc < 151 → zckb (zby 84) 84 pc (zcode 84 pc) = true := by decide +kernel
theorem zdk_85 : ∀ pc, pc < 40 → zckb (zby 85) 85 pc (zcode 85 pc) = true := by decide +kernel
theorem zdk_86 : ∀ pc, pc < 102 → zckb (zby 86) 86 pc (zcode 86 pc) = true := by decide +kernel
theorem zdk_87 : ∀ pc, pc < 108 → zckb (zby 87) 87 pc (zcode 87 pc) = true := by decide +kernel
theorem zdk_88 : ∀ pc, pc < 47 → zckb (zby 88) 88 pc (zcode 88 pc) = true := by decide +kernel
theorem zdk_89 : ∀ pc, pc < 26 → zckb (zby 89) 89 pc (zcode 89 pc) = true := by decide +kernel
theorem zdk_90 : ∀ pc, pc < 82 → zckb (zby 90) 90 pc (zcode 90 pc) = true := by decide +kernel
theorem zdk_91 : ∀ pc, pc < 83 → zckb (zby 91) 91 pc (zcode 91 pc) = true := by decide +kernel
theorem zdk_92 : ∀ pc, pc < 38 → zckb (zby 92) 92 pc (zcode 92 pc) = true := by decide +kernel
theorem zdk_93 : ∀ pc, pc < 58 → zckb (zby 93) 93 pc (zcode 93 pc) = true := by decide +kernel
theorem zdk_94 : ∀ pc, pc < 123 → zckb (zby 94) 94 pc (zcode 94 pc) = true := by decide +kernel
theorem zdk_95 : ∀ pc, pc < 51 → zckb (zby 95) 95 pc (zcode 95 pc) = true := by decide +kernel
theorem zdk_96 : ∀ pc, pc < 64 → zckb (zby 96) 96 pc (zcode 96 pc) = true := by decide +kernel
theorem zdk_97 : ∀ pc, pc < 66 → zckb (zby 97) 97 pc (zcode 97 pc) = true := by decide +kernel
theorem zdk_98 : ∀ pc, pc < 23 → zckb (zby 98) 98 pc (zcode 98 pc) = true := by decide +kernel
theorem zdk_99 : ∀ pc, pc < 93 → zckb (zby 99) 99 pc (zcode 99 pc) = true := by decide +kernel
theorem zdk_100 : ∀ pc, pc < 38 → zckb (zby 100) 100 pc (zcode 100 pc) = true := by decide +kernel
theorem zdk_101 : ∀ pc, pc < 11 → zckb (zby 101) 101 pc (zcode 101 pc) = true := by decide +kernel
theorem zdk_102 : ∀ pc, pc < 15 → zckb (zby 102) 102 pc (zcode 102 pc) = true := by decide +kernel
theorem zdk_103 : ∀ pc, pc < 10 → zckb (zby 103) 103 pc (zcode 103 pc) = true := by decide +kernel
theorem zdk_104 : ∀ pc, pc < 11 → zckb (zby 104) 104 pc (zcode 104 pc) = true := by decide +kernel
theorem zdk_105 : ∀ pc, pc < 25 → zckb (zby 105) 105 pc (zcode 105 pc) = true := by decide +kernel
theorem zdk_106 : ∀ pc, pc < 25 → zckb (zby 106) 106 pc (zcode 106 pc) = true := by decide +kernel
theorem zdk_107 : ∀ pc, pc < 32 → zckb (zby 107) 107 pc (zcode 107 pc) = true := by decide +kernel
theorem zdk_108 : ∀ pc, pc < 41 → zckb (zby 108) 108 pc (zcode 108 pc) = true := by decide +kernel
theorem zdk_109 : ∀ pc, pc < 61 → zckb (zby 109) 109 pc (zcode 109 pc) = true := by decide +kernel
theorem zdk_110 : ∀ pc, pc < 92 → zckb (zby 110) 110 pc (zcode 110 pc) = true := by decide +kernel
theorem zdk_111 : ∀ pc, pc < 33 → zckb (zby 111) 111 pc (zcode 111 pc) = true := by decide +kernel
theorem zdk_112 : ∀ pc, pc < 40 → zckb (zby 112) 112 pc (zcode 112 pc) = true := by decide +kernel
theorem zdk_113 : ∀ pc, pc < 14 → zckb (zby 113) 113 pc (zcode 113 pc) = true := by decide +kernel
theorem zdk_114 : ∀ pc, pc < 69 → zckb (zby 114) 114 pc (zcode 114 pc) = true := by decide +kernel
theorem zdk_115 : ∀ pc, pc < 51 → zckb (zby 115) 115 pc (zcode 115 pc) = true := by decide +kernel
theorem zdk_116 : ∀ pc, pc < 102 → zckb (zby 116) 116 pc (zcode 116 pc) = true := by decide +kernel
theorem zdk_117 : ∀ pc, pc < 53 → zckb (zby 117) 117 pc (zcode 117 pc) = true := by decide +kernel
theorem zdk_118 : ∀ pc, pc < 27 → zckb (zby 118) 118 pc (zcode 118 pc) = true := by decide +kernel
theorem zdk_119 : ∀ pc, pc < 43 → zckb (zby 119) 119 pc (zcode 119 pc) = true := by decide +kernel
theorem zdk_120 : ∀ pc, pc < 80 → zckb (zby 120) 120 pc (zcode 120 pc) = true := by decide +kernel
theorem zdk_121 : ∀ pc, pc < 46 → zckb (zby 121) 121 pc (zcode 121 pc) = true := by decide +kernel
theorem zdk_122 : ∀ pc, pc < 41 → zckb (zby 122) 122 pc (zcode 122 pc) = true := by decide +kernel
theorem zdk_123 : ∀ pc, pc < 18 → zckb (zby 123) 123 pc (zcode 123 pc) = true := by decide +kernel
theorem zdk_124 : ∀ pc, pc < 67 → zckb (zby 124) 124 pc (zcode 124 pc) = true := by decide +kernel
theorem zdk_125 : ∀ pc, pc < 48 → zckb (zby 125) 125 pc (zcode 125 pc) = true := by decide +kernel
theorem zdk_126 : ∀ pc, pc < 25 → zckb (zby 126) 126 pc (zcode 126 pc) = true := by decide +kernel
theorem zdk_127 : ∀ pc, pc < 10 → zckb (zby 127) 127 pc (zcode 127 pc) = true := by decide +kernel
theorem zdk_128 : ∀ pc, pc < 178 → zckb (zby 128) 128 pc (zcode 128 pc) = true := by decide +kernel
theorem zdk_129 : ∀ pc, pc < 8 → zckb (zby 129) 129 pc (zcode 129 pc) = true := by decide +kernel
theorem zdk_130 : ∀ pc, pc < 38 → zckb (zby 130) 130 pc (zcode 130 pc) = true := by decide +kernel
theorem zdk_131 : ∀ pc, pc < 79 → zckb (zby 131) 131 pc (zcode 131 pc) = true := by decide +kernel
theorem zdk_132 : ∀ pc, pc < 33 → zckb (zby 132) 132 pc (zcode 132 pc) = true := by decide +kernel
theorem zdk_133 : ∀ pc, pc < 5 → zckb (zby 133) 133 pc (zcode 133 pc) = true := by decide +kernel
theorem zdk_134 : ∀ pc, pc < 16 → zckb (zby 134) 134 pc (zcode 134 pc) = true := by decide +kernel
theorem zdk_135 : ∀ pc, pc < 43 → zckb (zby 135) 135 pc (zcode 135 pc) = true := by decide +kernel
theorem zdk_136 : ∀ pc, pc < 25 → zckb (zby 136) 136 pc (zcode 136 pc) = true := by decide +kernel
theorem zdk_137 : ∀ pc, pc < 12 → zckb (zby 137) 137 pc (zcode 137 pc) = true := by decide +kernel
theorem zdk_138 : ∀ pc, pc < 29 → zckb (zby 138) 138 pc (zcode 138 pc) = true := by decide +kernel
theorem zdk_139 : ∀ pc, pc < 43 → zckb (zby 139) 139 pc (zcode 139 pc) = true := by decide +kernel
theorem zdk_140 : ∀ pc, pc < 99 → zckb (zby 140) 140 pc (zcode 140 pc) = true := by decide +kernel
theorem zdk_141 : ∀ pc, pc < 16 → zckb (zby 141) 141 pc (zcode 141 pc) = true := by decide +kernel
theorem zdk_142 : ∀ pc, pc < 106 → zckb (zby 142) 142 pc (zcode 142 pc) = true := by decide +kernel
theorem zdk_143 : ∀ pc, pc < 36 → zckb (zby 143) 143 pc (zcode 143 pc) = true := by decide +kernel
theorem zdk_144 : ∀ pc, pc < 40 → zckb (zby 144) 144 pc (zcode 144 pc) = true := by decide +kernel
theorem zdk_145 : ∀ pc, pc < 114 → zckb (zby 145) 145 pc (zcode 145 pc) = true := by decide +kernel
theorem zdk_146 : ∀ pc, pc < 24 → zckb (zby 146) 146 pc (zcode 146 pc) = true := by decide +kernel
theorem zdk_147 : ∀ pc, pc < 24 → zckb (zby 147) 147 pc (zcode 147 pc) = true := by decide +kernel
theorem zdk_148 : ∀ pc, pc < 33 → zckb (zby 148) 148 pc (zcode 148 pc) = true := by decide +kernel
theorem zdk_149 : ∀ pc, pc < 24 → zckb (zby 149) 149 pc (zcode 149 pc) = true := by decide +kernel
theorem zdk_150 : ∀ pc, pc < 40 → zckb (zby 150) 150 pc (zcode 150 pc) = true := by decide +kernel
theorem zdk_151 : ∀ pc, pc < 83 → zckb (zby 151) 151 pc (zcode 151 pc) = true := by decide +kernel
theorem zdk_152 : ∀ pc, pc < 35 → zckb (zby 152) 152 pc (zcode 152 pc) = true := by decide +kernel
theorem zdk_153 : ∀ pc, pc < 117 → zckb (zby 153) 153 pc (zcode 153 pc) = true := by decide +kernel
theorem zdk_154 : ∀ pc, pc < 19 → zckb (zby 154) 154 pc (zcode 154 pc) = true := by decide +kernel
theorem zdk_155 : ∀ pc, pc < 25 → zckb (zby 155) 155 pc (zcode 155 pc) = true := by decide +kernel
theorem zdk_156 : ∀ pc, pc < 333 → zckb (zby 156) 156 pc (zcode 156 pc) = true := by decide +kernel
theorem zdk_157 : ∀ pc, pc < 55 → zckb (zby 157) 157 pc (zcode 157 pc) = true := by decide +kernel
theorem zdk_158 : ∀ pc, pc < 192 → zckb (zby 158) 158 pc (zcode 158 pc) = true := by decide +kernel
theorem zdk_159 : ∀ pc, pc < 91 → zckb (zby 159) 159 pc (zcode 159 pc) = true := by decide +kernel
theorem zdk_160 : ∀ pc, pc < 57 → zckb (zby 160) 160 pc (zcode 160 pc) = true := by decide +kernel
theorem zdk_161 : ∀ pc, pc < 127 → zckb (zby 161) 161 pc (zcode 161 pc) = true := by decide +kernel
theorem zdk_162 : ∀ pc, pc < 125 → zckb (zby 162) 162 pc (zcode 162 pc) = true := by decide +kernel
theorem zdk_163 : ∀ pc, pc < 19 → zckb (zby 163) 163 pc (zcode 163 pc) = true := by decide +kernel
theorem zdk_164 : ∀ pc, pc < 372 → zckb (zby 164) 164 pc (zcode 164 pc) = true := by decide +kernel
theorem zdk_165 : ∀ pc, pc < 23 → zckb (zby 165) 165 pc (zcode 165 pc) = true := by decide +kernel
theorem zdk_166 : ∀ pc, pc < 27 → zckb (zby 166) 166 pc (zcode 166 pc) = true := by decide +kernel
theorem zdk_167 : ∀ pc, pc < 15 → zckb (zby 167) 167 pc (zcode 167 pc) = true := by decide +kernel
theorem zdk_168 : ∀ pc, pc < 21 → zckb (zby 168) 168 pc (zcode 168 pc) = true := by decide +kernel
theorem zdk_169 : ∀ pc, pc < 103 → zckb (zby 169) 169 pc (zcode 169 pc) = true := by decide +kernel
theorem zdk_170 : ∀ pc, pc < 90 → zckb (zby 170) 170 pc (zcode 170 pc) = true := by decide +kernel
theorem zdk_171 : ∀ pc, pc < 36 → zckb (zby 171) 171 pc (zcode 171 pc) = true := by decide +kernel
theorem zdk_172 : ∀ pc, pc < 513 → zckb (zby 172) 172 pc (zcode 172 pc) = true := by decide +kernel
theorem zdk_173 : ∀ pc, pc < 350 → zckb (zby 173) 173 pc (zcode 173 pc) = true := by decide +kernel
theorem zdk_174 : ∀ pc, pc < 221 → zckb (zby 174) 174 pc (zcode 174 pc) = true := by decide +kernel
theorem zdk_175 : ∀ pc, pc < 37 → zckb (zby 175) 175 pc (zcode 175 pc) = true := by decide +kernel
theorem zdk_176 : ∀ pc, pc < 54 → zckb (zby 176) 176 pc (zcode 176 pc) = true := by decide +kernel
theorem zdk_177 : ∀ pc, pc < 166 → zckb (zby 177) 177 pc (zcode 177 pc) = true := by decide +kernel
theorem zdk_178 : ∀ pc, pc < 366 → zckb (zby 178) 178 pc (zcode 178 pc) = true := by decide +kernel
theorem zdk_179 : ∀ pc, pc < 216 → zckb (zby 179) 179 pc (zcode 179 pc) = true := by decide +kernel
theorem zdk_180 : ∀ pc, pc < 43 → zckb (zby 180) 180 pc (zcode 180 pc) = true := by decide +kernel
theorem zdk_181 : ∀ pc, pc < 29 → zckb (zby 181) 181 pc (zcode 181 pc) = true := by decide +kernel
theorem zdk_182 : ∀ pc, pc < 28 → zckb (zby 182) 182 pc (zcode 182 pc) = true := by decide +kernel
theorem zdk_183 : ∀ pc, pc < 287 → zckb (zby 183) 183 pc (zcode 183 pc) = true := by decide +kernel
theorem zdk_184 : ∀ pc, pc < 43 → zckb (zby 184) 184 pc (zcode 184 pc) = true := by decide +kernel
theorem zdk_185 : ∀ pc, pc < 37 → zckb (zby 185) 185 pc (zcode 185 pc) = true := by decide +kernel
theorem zdk_186 : ∀ pc, pc < 144 → zckb (zby 186) 186 pc (zcode 186 pc) = true := by decide +kernel
theorem zdk_187 : ∀ pc, pc < 56 → zckb (zby 187) 187 pc (zcode 187 pc) = true := by decide +kernel
theorem zdk_188 : ∀ pc, pc < 308 → zckb (zby 188) 188 pc (zcode 188 pc) = true := by decide +kernel
theorem zdk_189 : ∀ pc, pc < 28 → zckb (zby 189) 189 pc (zcode 189 pc) = true := by decide +kernel
theorem zdk_190 : ∀ pc, pc < 29 → zckb (zby 190) 190 pc (zcode 190 pc) = true := by decide +kernel
theorem zdk_191 : ∀ pc, pc < 101 → zckb (zby 191) 191 pc (zcode 191 pc) = true := by decide +kernel
theorem zdk_192 : ∀ pc, pc < 72 → zckb (zby 192) 192 pc (zcode 192 pc) = true := by decide +kernel
theorem zdk_193 : ∀ pc, pc < 239 → zckb (zby 193) 193 pc (zcode 193 pc) = true := by decide +kernel
theorem zdk_194 : ∀ pc, pc < 133 → zckb (zby 194) 194 pc (zcode 194 pc) = true := by decide +kernel
theorem zdk_195 : ∀ pc, pc < 38 → zckb (zby 195) 195 pc (zcode 195 pc) = true := by decide +kernel
theorem zdk_196 : ∀ pc, pc < 302 → zckb (zby 196) 196 pc (zcode 196 pc) = true := by decide +kernel
theorem zdk_197 : ∀ pc, pc < 38 → zckb (zby 197) 197 pc (zcode 197 pc) = true := by decide +kernel
theorem zdk_198 : ∀ pc, pc < 28 → zckb (zby 198) 198 pc (zcode 198 pc) = true := by decide +kernel
theorem zdk_199 : ∀ pc, pc < 70 → zckb (zby 199) 199 pc (zcode 199 pc) = true := by decide +kernel
theorem zdk_200 : ∀ pc, pc < 174 → zckb (zby 200) 200 pc (zcode 200 pc) = true := by decide +kernel
theorem zdk_201 : ∀ pc, pc < 77 → zckb (zby 201) 201 pc (zcode 201 pc) = true := by decide +kernel
theorem zdk_202 : ∀ pc, pc < 80 → zckb (zby 202) 202 pc (zcode 202 pc) = true := by decide +kernel
theorem zdk_203 : ∀ pc, pc < 275 → zckb (zby 203) 203 pc (zcode 203 pc) = true := by decide +kernel
theorem zdk_204 : ∀ pc, pc < 47 → zckb (zby 204) 204 pc (zcode 204 pc) = true := by decide +kernel
theorem zdk_205 : ∀ pc, pc < 41 → zckb (zby 205) 205 pc (zcode 205 pc) = true := by decide +kernel
theorem zdk_206 : ∀ pc, pc < 17 → zckb (zby 206) 206 pc (zcode 206 pc) = true := by decide +kernel
theorem zdk_207 : ∀ pc, pc < 114 → zckb (zby 207) 207 pc (zcode 207 pc) = true := by decide +kernel
theorem zdk_208 : ∀ pc, pc < 55 → zckb (zby 208) 208 pc (zcode 208 pc) = true := by decide +kernel
theorem zdk_209 : ∀ pc, pc < 24 → zckb (zby 209) 209 pc (zcode 209 pc) = true := by decide +kernel
theorem zdk_210 : ∀ pc, pc < 79 → zckb (zby 210) 210 pc (zcode 210 pc) = true := by decide +kernel
theorem zdk_211 : ∀ pc, pc < 242 → zckb (zby 211) 211 pc (zcode 211 pc) = true := by decide +kernel
end
section
theorem zdl_0 : ∀ pc, pc < 60 → zckb code 212 (0 + pc) (zc_212 (0 + pc)) = true := by decide +kernel
theorem zdl_1 : ∀ pc, pc < 60 → zckb code 212 (60 + pc) (zc_212 (60 + pc)) = true := by decide +kernel
theorem zdl_2 : ∀ pc, pc < 60 → zckb code 212 (120 + pc) (zc_212 (120 + pc)) = true := by decide +kernel
theorem zdl_3 : ∀ pc, pc < 60 → zckb code 212 (180 + pc) (zc_212 (180 + pc)) = true := by decide +kernel
theorem zdl_4 : ∀ pc, pc < 60 → zckb code 212 (240 + pc) (zc_212 (240 + pc)) = true := by decide +kernel
theorem zdl_5 : ∀ pc, pc < 60 → zckb code 212 (300 + pc) (zc_212 (300 + pc)) = true := by decide +kernel
theorem zdl_6 : ∀ pc, pc < 60 → zckb code 212 (360 + pc) (zc_212 (360 + pc)) = true := by decide +kernel
theorem zdl_7 : ∀ pc, pc < 60 → zckb code 212 (420 + pc) (zc_212 (420 + pc)) = true := by decide +kernel
theorem zdl_8 : ∀ pc, pc < 60 → zckb code 212 (480 + pc) (zc_212 (480 + pc)) = true := by decide +kernel
theorem zdl_9 : ∀ pc, pc < 60 → zckb code 212 (540 + pc) (zc_212 (540 + pc)) = true := by decide +kernel
theorem zdl_10 : ∀ pc, pc < 60 → zckb code 212 (600 + pc) (zc_212 (600 + pc)) = true := by decide +kernel
theorem zdl_11 : ∀ pc, pc < 60 → zckb code 212 (660 + pc) (zc_212 (660 + pc)) = true := by decide +kernel
theorem zdl_12 : ∀ pc, pc < 60 → zckb code 212 (720 + pc) (zc_212 (720 + pc)) = true := by decide +kernel
theorem zdl_13 : ∀ pc, pc < 60 → zckb code 212 (780 + pc) (zc_212 (780 + pc)) = true := by decide +kernel
theorem zdl_14 : ∀ pc, pc < 60 → zckb code 212 (840 + pc) (zc_212 (840 + pc)) = true := by decide +kernel
theorem zdl_15 : ∀ pc, pc < 60 → zckb code 212 (900 + pc) (zc_212 (900 + pc)) = true := by decide +kernel
theorem zdl_16 : ∀ pc, pc < 60 → zckb code 212 (960 + pc) (zc_212 (960 + pc)) = true := by decide +kernel
theorem zdl_17 : ∀ pc, pc < 60 → zckb code 212 (1020 + pc) (zc_212 (1020 + pc)) = true := by decide +kernel
theorem zdl_18 : ∀ pc, pc < 60 → zckb code 212 (1080 + pc) (zc_212 (1080 + pc)) = true := by decide +kernel
theorem zdl_19 : ∀ pc, pc < 60 → zckb code 212 (1140 + pc) (zc_212 (1140 + pc)) = true := by decide +kernel
theorem zdl_20 : ∀ pc, pc < 60 → zckb code 212 (1200 + pc) (zc_212 (1200 + pc)) = true := by decide +kernel
theorem zdl_21 : ∀ pc, pc < 60 → zckb code 212 (1260 + pc) (zc_212 (1260 + pc)) = true := by decide +kernel
theorem zdl_22 : ∀ pc, pc < 60 → zckb code 212 (1320 + pc) (zc_212 (1320 + pc)) = true := by decide +kernel
theorem zdl_23 : ∀ pc, pc < 60 → zckb code 212 (1380 + pc) (zc_212 (1380 + pc)) = true := by decide +kernel
theorem zdl_24 : ∀ pc, pc < 60 → zckb code 212 (1440 + pc) (zc_212 (1440 + pc)) = true := by decide +kernel
end
section
theorem zoff {P : Nat → Prop} {a n b : Nat} (e : a + n = b) (h : ∀ i, i < n → P (a + i)) : ∀ i, a ≤ i → i < b → P i := fun i h1 h2 => by
  have h3 := h (i - a) (by omega)
  rwa [show a + (i - a) = i by omega] at h3
theorem zdl_all : ∀ pc, 0 ≤ pc → pc < 1500 → zckb code 212 pc (zc_212 pc) = true := (zsp 720 (zsp 360 (zsp 180 (zsp 60 (zoff (a := 0) (n := 60) rfl zdl_0) (zsp 120 (zoff (a := 60) (n := 60) rfl zdl_1) (zoff (a := 120) (n := 60) rfl zdl_2))) (zsp 240 (zoff (a := 180) (n := 60) rfl zdl_3) (zsp 300 (zoff (a := 240) (n := 60) rfl zdl_4) (zoff (a := 300) (n := 60) rfl zdl_5)))) (zsp 540 (zsp 420 (zoff (a := 360) (n := 60) rfl zdl_6) (zsp 480 (zoff (a := 420) (n := 60) rfl zdl_7) (zoff (a := 480) (n := 60) rfl zdl_8))) (zsp 600 (zoff (a := 540) (n := 60) rfl zdl_9) (zsp 660 (zoff (a := 600) (n := 60) rfl zdl_10) (zoff (a := 660) (n := 60) rfl zdl_11))))) (zsp 1080 (zsp 900 (zsp 780 (zoff (a := 720) (n := 60) rfl zdl_12) (zsp 840 (zoff (a := 780) (n := 60) rfl zdl_13) (zoff (a := 840) (n := 60) rfl zdl_14))) (zsp 960 (zoff (a := 900) (n := 60) rfl zdl_15) (zsp 1020 (zoff (a := 960) (n := 60) rfl zdl_16) (zoff (a := 1020) (n := 60) rfl zdl_17)))) (zsp 1260 (zsp 1140 (zoff (a := 1080) (n := 60) rfl zdl_18) (zsp 1200 (zoff (a := 1140) (n := 60) rfl zdl_19) (zoff (a := 1200) (n := 60) rfl zdl_20))) (zsp 1380 (zsp 1320 (zoff (a := 1260) (n := 60) rfl zdl_21) (zoff (a := 1320) (n := 60) rfl zdl_22)) (zsp 1440 (zoff (a := 1380) (n := 60) rfl zdl_23) (zoff (a := 1440) (n := 60) rfl zdl_24))))))
theorem zdk_212 : ∀ pc, pc < 1500 → zckb (zby 212) 212 pc (zcode 212 pc) = true := fun pc h => zdl_all pc (Nat.zero_le _) h
def zln (mi : Nat) : Nat := (zH mi 106 (zH mi 53 (zH mi 26 (zH mi 13 (zH mi 6 (zH mi 3 (zH mi 1 (zE mi 0 115 0) (zH mi 2 (zE mi 1 18 0) (zE mi 2 30 0))) (zH mi 4 (zE mi 3 31 0) (zH mi 5 (zE mi 4 36 0) (zE mi 5 49 0)))) (zH mi 9 (zH mi 7 (zE mi 6 65 0) (zH mi 8 (zE mi 7 93 0) (zE mi 8 70 0))) (zH mi 11 (zH mi 10 (zE mi 9 85 0) (zE mi 10 39 0)) (zH mi 12 (zE mi 11 46 0) (zE mi 12 44 0))))) (zH mi 19 (zH mi 16 (zH mi 14 (zE mi 13 32 0) (zH mi 15 (zE mi 14 63 0) (zE mi 15 77 0))) (zH mi 17 (zE mi 16 82 0) (zH mi 18 (zE mi 17 51 0) (zE mi 18 75 0)))) (zH mi 22 (zH mi 20 (zE mi 19 23 0) (zH mi 21 (zE mi 20 63 0) (zE mi 21 52 0))) (zH mi 24 (zH mi 23 (zE mi 22 43 0) (zE mi 23 26 0)) (zH mi 25 (zE mi 24 139 0) (zE mi 25 90 0)))))) (zH mi 39 (zH mi 32 (zH mi 29 (zH mi 27 (zE mi 26 37 0) (zH mi 28 (zE mi 27 91 0) (zE mi 28 53 0))) (zH mi 30 (zE mi 29 27 0) (zH mi 31 (zE mi 30 100 0) (zE mi 31 92 0)))) (zH mi 35 (zH mi 33 (zE mi 32 32 0) (zH mi 34 (zE mi 33 28 0) (zE mi 34 25 0))) (zH mi 37 (zH mi 36 (zE mi 35 47 0) (zE mi 36 22 0)) (zH mi 38 (zE mi 37 18 0) (zE mi 38 29 0))))) (zH mi 46 (zH mi 42 (zH mi 40 (zE mi 39 22 0) (zH mi 41 (zE mi 40 13 0) (zE mi 41 15 0))) (zH mi 44 (zH mi 43 (zE mi 42 36 0) (zE mi 43 25 0)) (zH mi 45 (zE mi 44 25 0) (zE mi 45 34 0)))) (zH mi 49 (zH mi 47 (zE mi 46 38 0) (zH mi 48 (zE mi 47 29 0) (zE mi 48 123 0))) (zH mi 51 (zH mi 50 (zE mi 49 49 0) (zE mi 50 63 0)) (zH mi 52 (zE mi 51 48 0) (zE mi 52 59 0))))))) (zH mi 79 (zH mi 66 (zH mi 59 (zH mi 56 (zH mi 54 (zE mi 53 127 0) (zH mi 55 (zE mi 54 32 0) (zE mi 55 89 0))) (zH mi 57 (zE mi 56 15 0) (zH mi 58 (zE mi 57 218 0) (zE mi 58 45 0)))) (zH mi 62 (zH mi 60 (zE mi 59 13 0) (zH mi 61 (zE mi 60 14 0) (zE mi 61 27 0))) (zH mi 64 (zH mi 63 (zE mi 62 14 0) (zE mi 63 21 0)) (zH mi 65 (zE mi 64 19 0) (zE mi 65 110 0))))) (zH mi 72 (zH mi 69 (zH mi 67 (zE mi 66 40 0) (zH mi 68 (zE mi 67 44 0) (zE mi 68 134 0))) (zH mi 70 (zE mi 69 56 0) (zH mi 71 (zE mi 70 122 0) (zE mi 71 116 0)))) (zH mi 75 (zH mi 73 (zE mi 72 18 0) (zH mi 74 (zE mi 73 26 0) (zE mi 74 26 0))) (zH mi 77 (zH mi 76 (zE mi 75 52 0) (zE mi 76 31 0)) (zH mi 78 (zE mi 77 100 0) (zE mi 78 164 0)))))) (zH mi 92 (zH mi 85 (zH mi 82 (zH mi 80 (zE mi 79 188 0) (zH mi 81 (zE mi 80 54 0) (zE mi 81 33 0))) (zH mi 83 (zE mi 82 174 0) (zH mi 84 (zE mi 83 86 0) (zE mi 84 151 0)))) (zH mi 88 (zH mi 86 (zE mi 85 40 0) (zH mi 87 (zE mi 86 102 0) (zE mi 87 108 0))) (zH mi 90 (zH mi 89 (zE mi 88 47 0) (zE mi 89 26 0)) (zH mi 91 (zE mi 90 82 0) (zE mi 91 83 0))))) (zH mi 99 (zH mi 95 (zH mi 93 (zE mi 92 38 0) (zH mi 94 (zE mi 93 58 0) (zE mi 94 123 0))) (zH mi 97 (zH mi 96 (zE mi 95 51 0) (zE mi 96 64 0)) (zH mi 98 (zE mi 97 66 0) (zE mi 98 23 0)))) (zH mi 102 (zH mi 100 (zE mi 99 93 0) (zH mi 101 (zE mi 100 38 0) (zE mi 101 11 0))) (zH mi 104 (zH mi 103 (zE mi 102 15 0) (zE mi 103 10 0)) (zH mi 105 (zE mi 104 11 0) (zE mi 105 25 0)))))))) (zH mi 159 (zH mi 132 (zH mi 119 (zH mi 112 (zH mi 109 (zH mi 107 (zE mi 106 25 0) (zH mi 108 (zE mi 107 32 0) (zE mi 108 41 0))) (zH mi 110 (zE mi 109 61 0) (zH mi 111 (zE mi 110 92 0) (zE mi 111 33 0)))) (zH mi 115 (zH mi 113 (zE mi 112 40 0) (zH mi 114 (zE mi 113 14 0) (zE mi 114 69 0))) (zH mi 117 (zH mi 116 (zE mi 115 51 0) (zE mi 116 102 0)) (zH mi 118 (zE mi 117 53 0) (zE mi 118 27 0))))) (zH mi 125 (zH mi 122 (zH mi 120 (zE mi 119 43 0) (zH mi 121 (zE mi 120 80 0) (zE mi 121 46 0))) (zH mi 123 (zE mi 122 41 0) (zH mi 124 (zE mi 123 18 0) (zE mi 124 67 0)))) (zH mi 128 (zH mi 126 (zE mi 125 48 0) (zH mi 127 (zE mi 126 25 0) (zE mi 127 10 0))) (zH mi 130 (zH mi 129 (zE mi 128 178 0) (zE mi 129 8 0)) (zH mi 131 (zE mi 130 38 0) (zE mi 131 79 0)))))) (zH mi 145 (zH mi 138 (zH mi 135 (zH mi 133 (zE mi 132 33 0) (zH mi 134 (zE mi 133 5 0) (zE mi 134 16 0))) (zH mi 136 (zE mi 135 43 0) (zH mi 137 (zE mi 136 25 0) (zE mi 137 12 0)))) (zH mi 141 (zH mi 139 (zE mi 138 29 0) (zH mi 140 (zE mi 139 43 0) (zE mi 140 99 0))) (zH mi 143 (zH mi 142 (zE mi 141 16 0) (zE mi 142 106 0)) (zH mi 144 (zE mi 143 36 0) (zE mi 144 40 0))))) (zH mi 152 (zH mi 148 (zH mi 146 (zE mi 145 114 0) (zH mi 147 (zE mi 146 24 0) (zE mi 147 24 0))) (zH mi 150 (zH mi 149 (zE mi 148 33 0) (zE mi 149 24 0)) (zH mi 151 (zE mi 150 40 0) (zE mi 151 83 0)))) (zH mi 155 (zH mi 153 (zE mi 152 35 0) (zH mi 154 (zE mi 153 117 0) (zE mi 154 19 0))) (zH mi 157 (zH mi 156 (zE mi 155 25 0) (zE mi 156 333 0)) (zH mi 158 (zE mi 157 55 0) (zE mi 158 192 0))))))) (zH mi 186 (zH mi 172 (zH mi 165 (zH mi 162 (zH mi 160 (zE mi 159 91 0) (zH mi 161 (zE mi 160 57 0) (zE mi 161 127 0))) (zH mi 163 (zE mi 162 125 0) (zH mi 164 (zE mi 163 19 0) (zE mi 164 372 0)))) (zH mi 168 (zH mi 166 (zE mi 165 23 0) (zH mi 167 (zE mi 166 27 0) (zE mi 167 15 0))) (zH mi 170 (zH mi 169 (zE mi 168 21 0) (zE mi 169 103 0)) (zH mi 171 (zE mi 170 90 0) (zE mi 171 36 0))))) (zH mi 179 (zH mi 175 (zH mi 173 (zE mi 172 513 0) (zH mi 174 (zE mi 173 350 0) (zE mi 174 221 0))) (zH mi 177 (zH mi 176 (zE mi 175 37 0) (zE mi 176 54 0)) (zH mi 178 (zE mi 177 166 0) (zE mi 178 366 0)))) (zH mi 182 (zH mi 180 (zE mi 179 216 0) (zH mi 181 (zE mi 180 43 0) (zE mi 181 29 0))) (zH mi 184 (zH mi 183 (zE mi 182 28 0) (zE mi 183 287 0)) (zH mi 185 (zE mi 184 43 0) (zE mi 185 37 0)))))) (zH mi 199 (zH mi 192 (zH mi 189 (zH mi 187 (zE mi 186 144 0) (zH mi 188 (zE mi 187 56 0) (zE mi 188 308 0))) (zH mi 190 (zE mi 189 28 0) (zH mi 191 (zE mi 190 29 0) (zE mi 191 101 0)))) (zH mi 195 (zH mi 193 (zE mi 192 72 0) (zH mi 194 (zE mi 193 239 0) (zE mi 194 133 0))) (zH mi 197 (zH mi 196 (zE mi 195 38 0) (zE mi 196 302 0)) (zH mi 198 (zE mi 197 38 0) (zE mi 198 28 0))))) (zH mi 206 (zH mi 202 (zH mi 200 (zE mi 199 70 0) (zH mi 201 (zE mi 200 174 0) (zE mi 201 77 0))) (zH mi 204 (zH mi 203 (zE mi 202 80 0) (zE mi 203 275 0)) (zH mi 205 (zE mi 204 47 0) (zE mi 205 41 0)))) (zH mi 209 (zH mi 207 (zE mi 206 17 0) (zH mi 208 (zE mi 207 114 0) (zE mi 208 55 0))) (zH mi 211 (zH mi 210 (zE mi 209 24 0) (zE mi 210 79 0)) (zH mi 212 (zE mi 211 242 0) (zE mi 212 1500 0)))))))))
theorem zdk_all : ∀ mi, 0 ≤ mi → mi < 213 → ∀ pc, pc < zln mi → zckb (zby mi) mi pc (zcode mi pc) = true := (zsp 106 (zsp 53 (zsp 26 (zsp 13 (zsp 6 (zsp 3 (zsp 1 (zon (a := 0) zdk_0) (zsp 2 (zon (a := 1) zdk_1) (zon (a := 2) zdk_2))) (zsp 4 (zon (a := 3) zdk_3) (zsp 5 (zon (a := 4) zdk_4) (zon (a := 5) zdk_5)))) (zsp 9 (zsp 7 (zon (a := 6) zdk_6) (zsp 8 (zon (a := 7) zdk_7) (zon (a := 8) zdk_8))) (zsp 11 (zsp 10 (zon (a := 9) zdk_9) (zon (a := 10) zdk_10)) (zsp 12 (zon (a := 11) zdk_11) (zon (a := 12) zdk_12))))) (zsp 19 (zsp 16 (zsp 14 (zon (a := 13) zdk_13) (zsp 15 (zon (a := 14) zdk_14) (zon (a := 15) zdk_15))) (zsp 17 (zon (a := 16) zdk_16) (zsp 18 (zon (a := 17) zdk_17) (zon (a := 18) zdk_18)))) (zsp 22 (zsp 20 (zon (a := 19) zdk_19) (zsp 21 (zon (a := 20) zdk_20) (zon (a := 21) zdk_21))) (zsp 24 (zsp 23 (zon (a := 22) zdk_22) (zon (a := 23) zdk_23)) (zsp 25 (zon (a := 24) zdk_24) (zon (a := 25) zdk_25)))))) (zsp 39 (zsp 32 (zsp 29 (zsp 27 (zon (a := 26) zdk_26) (zsp 28 (zon (a := 27) zdk_27) (zon (a := 28) zdk_28))) (zsp 30 (zon (a := 29) zdk_29) (zsp 31 (zon (a := 30) zdk_30) (zon (a := 31) zdk_31)))) (zsp 35 (zsp 33 (zon (a := 32) zdk_32) (zsp 34 (zon (a := 33) zdk_33) (zon (a := 34) zdk_34))) (zsp 37 (zsp 36 (zon (a := 35) zdk_35) (zon (a := 36) zdk_36)) (zsp 38 (zon (a := 37) zdk_37) (zon (a := 38) zdk_38))))) (zsp 46 (zsp 42 (zsp 40 (zon (a := 39) zdk_39) (zsp 41 (zon (a := 40) zdk_40) (zon (a := 41) zdk_41))) (zsp 44 (zsp 43 (zon (a := 42) zdk_42) (zon (a := 43) zdk_43)) (zsp 45 (zon (a := 44) zdk_44) (zon (a := 45) zdk_45)))) (zsp 49 (zsp 47 (zon (a := 46) zdk_46) (zsp 48 (zon (a := 47) zdk_47) (zon (a := 48) zdk_48))) (zsp 51 (zsp 50 (zon (a := 49) zdk_49) (zon (a := 50) zdk_50)) (zsp 52 (zon (a := 51) zdk_51) (zon (a := 52) zdk_52))))))) (zsp 79 (zsp 66 (zsp 59 (zsp 56 (zsp 54 (zon (a := 53) zdk_53) (zsp 55 (zon (a := 54) zdk_54) (zon (a := 55) zdk_55))) (zsp 57 (zon (a := 56) zdk_56) (zsp 58 (zon (a := 57) zdk_57) (zon (a := 58) zdk_58)))) (zsp 62 (zsp 60 (zon (a := 59) zdk_59) (zsp 61 (zon (a := 60) zdk_60) (zon (a := 61) zdk_61))) (zsp 64 (zsp 63 (zon (a := 62) zdk_62) (zon (a := 63) zdk_63)) (zsp 65 (zon (a := 64) zdk_64) (zon (a := 65) zdk_65))))) (zsp 72 (zsp 69 (zsp 67 (zon (a := 66) zdk_66) (zsp 68 (zon (a := 67) zdk_67) (zon (a := 68) zdk_68))) (zsp 70 (zon (a := 69) zdk_69) (zsp 71 (zon (a := 70) zdk_70) (zon (a := 71) zdk_71)))) (zsp 75 (zsp 73 (zon (a := 72) zdk_72) (zsp 74 (zon (a := 73) zdk_73) (zon (a := 74) zdk_74))) (zsp 77 (zsp 76 (zon (a := 75) zdk_75) (zon (a := 76) zdk_76)) (zsp 78 (zon (a := 77) zdk_77) (zon (a := 78) zdk_78)))))) (zsp 92 (zsp 85 (zsp 82 (zsp 80 (zon (a := 79) zdk_79) (zsp 81 (zon (a := 80) zdk_80) (zon (a := 81) zdk_81))) (zsp 83 (zon (a := 82) zdk_82) (zsp 84 (zon (a := 83) zdk_83) (zon (a := 84) zdk_84)))) (zsp 88 (zsp 86 (zon (a := 85) zdk_85) (zsp 87 (zon (a := 86) zdk_86) (zon (a := 87) zdk_87))) (zsp 90 (zsp 89 (zon (a := 88) zdk_88) (zon (a := 89) zdk_89)) (zsp 91 (zon (a := 90) zdk_90) (zon (a := 91) zdk_91))))) (zsp 99 (zsp 95 (zsp 93 (zon (a := 92) zdk_92) (zsp 94 (zon (a := 93) zdk_93) (zon (a := 94) zdk_94))) (zsp 97 (zsp 96 (zon (a := 95) zdk_95) (zon (a := 96) zdk_96)) (zsp 98 (zon (a := 97) zdk_97) (zon (a := 98) zdk_98)))) (zsp 102 (zsp 100 (zon (a := 99) zdk_99) (zsp 101 (zon (a := 100) zdk_100) (zon (a := 101) zdk_101))) (zsp 104 (zsp 103 (zon (a := 102) zdk_102) (zon (a := 103) zdk_103)) (zsp 105 (zon (a := 104) zdk_104) (zon (a := 105) zdk_105)))))))) (zsp 159 (zsp 132 (zsp 119 (zsp 112 (zsp 109 (zsp 107 (zon (a := 106) zdk_106) (zsp 108 (zon (a := 107) zdk_107) (zon (a := 108) zdk_108))) (zsp 110 (zon (a := 109) zdk_109) (zsp 111 (zon (a := 110) zdk_110) (zon (a := 111) zdk_111)))) (zsp 115 (zsp 113 (zon (a := 112) zdk_112) (zsp 114 (zon (a := 113) zdk_113) (zon (a := 114) zdk_114))) (zsp 117 (zsp 116 (zon (a := 115) zdk_115) (zon (a := 116) zdk_116)) (zsp 118 (zon (a := 117) zdk_117) (zon (a := 118) zdk_118))))) (zsp 125 (zsp 122 (zsp 120 (zon (a := 119) zdk_119) (zsp 121 (zon (a := 120) zdk_120) (zon (a := 121) zdk_121))) (zsp 123 (zon (a := 122) zdk_122) (zsp 124 (zon (a := 123) zdk_123) (zon (a := 124) zdk_124)))) (zsp 128 (zsp 126 (zon (a := 125) zdk_125) (zsp 127 (zon (a := 126) zdk_126) (zon (a := 127) zdk_127))) (zsp 130 (zsp 129 (zon (a := 128) zdk_128) (zon (a := 129) zdk_129)) (zsp 131 (zon (a := 130) zdk_130) (zon (a := 131) zdk_131)))))) (zsp 145 (zsp 138 (zsp 135 (zsp 133 (zon (a := 132) zdk_132) (zsp 134 (zon (a := 133) zdk_133) (zon (a := 134) zdk_134))) (zsp 136 (zon (a := 135) zdk_135) (zsp 137 (zon (a := 136) zdk_136) (zon (a := 137) zdk_137)))) (zsp 141 (zsp 139 (zon (a := 138) zdk_138) (zsp 140 (zon (a := 139) zdk_139) (zon (a := 140) zdk_140))) (zsp 143 (zsp 142 (zon (a := 141) zdk_141) (zon (a := 142) zdk_142)) (zsp 144 (zon (a := 143) zdk_143) (zon (a := 144) zdk_144))))) (zsp 152 (zsp 148 (zsp 146 (zon (a := 145) zdk_145) (zsp 147 (zon (a := 146) zdk_146) (zon (a := 147) zdk_147))) (zsp 150 (zsp 149 (zon (a := 148) zdk_148) (zon (a := 149) zdk_149)) (zsp 151 (zon (a := 150) zdk_150) (zon (a := 151) zdk_151)))) (zsp 155 (zsp 153 (zon (a := 152) zdk_152) (zsp 154 (zon (a := 153) zdk_153) (zon (a := 154) zdk_154))) (zsp 157 (zsp 156 (zon (a := 155) zdk_155) (zon (a := 156) zdk_156)) (zsp 158 (zon (a := 157) zdk_157) (zon (a := 158) zdk_158))))))) (zsp 186 (zsp 172 (zsp 165 (zsp 162 (zsp 160 (zon (a := 159) zdk_159) (zsp 161 (zon (a := 160) zdk_160) (zon (a := 161) zdk_161))) (zsp 163 (zon (a := 162) zdk_162) (zsp 164 (zon (a := 163) zdk_163) (zon (a := 164) zdk_164)))) (zsp 168 (zsp 166 (zon (a := 165) zdk_165) (zsp 167 (zon (a := 166) zdk_166) (zon (a := 167) zdk_167))) (zsp 170 (zsp 169 (zon (a := 168) zdk_168) (zon (a := 169) zdk_169)) (zsp 171 (zon (a := 170) zdk_170) (zon (a := 171) zdk_171))))) (zsp 179 (zsp 175 (zsp 173 (zon (a := 172) zdk_172) (zsp 174 (zon (a := 173) zdk_173) (zon (a := 174) zdk_174))) (zsp 177 (zsp 176 (zon (a := 175) zdk_175) (zon (a := 176) zdk_176)) (zsp 178 (zon (a := 177) zdk_177) (zon (a := 178) zdk_178)))) (zsp 182 (zsp 180 (zon (a := 179) zdk_179) (zsp 181 (zon (a := 180) zdk_180) (zon (a := 181) zdk_181))) (zsp 184 (zsp 183 (zon (a := 182) zdk_182) (zon (a := 183) zdk_183)) (zsp 185 (zon (a := 184) zdk_184) (zon (a := 185) zdk_185)))))) (zsp 199 (zsp 192 (zsp 189 (zsp 187 (zon (a := 186) zdk_186) (zsp 188 (zon (a := 187) zdk_187) (zon (a := 188) zdk_188))) (zsp 190 (zon (a := 189) zdk_189) (zsp 191 (zon (a := 190) zdk_190) (zon (a := 191) zdk_191)))) (zsp 195 (zsp 193 (zon (a := 192) zdk_192) (zsp 194 (zon (a := 193) zdk_193) (zon (a := 194) zdk_194))) (zsp 197 (zsp 196 (zon (a := 195) zdk_195) (zon (a := 196) zdk_196)) (zsp 198 (zon (a := 197) zdk_197) (zon (a := 198) zdk_198))))) (zsp 206 (zsp 202 (zsp 200 (zon (a := 199) zdk_199) (zsp 201 (zon (a := 200) zdk_200) (zon (a := 201) zdk_201))) (zsp 204 (zsp 203 (zon (a := 202) zdk_202) (zon (a := 203) zdk_203)) (zsp 205 (zon (a := 204) zdk_204) (zon (a := 205) zdk_205)))) (zsp 209 (zsp 207 (zon (a := 206) zdk_206) (zsp 208 (zon (a := 207) zdk_207) (zon (a := 208) zdk_208))) (zsp 211 (zsp 210 (zon (a := 209) zdk_209) (zon (a := 210) zdk_210)) (zsp 212 (zon (a := 211) zdk_211) (zon (a := 212) zdk_212)))))))))
theorem zcdt {α : Type} {b : Bool} {k : Option α} {r : α} (h : (bif b then k else none) = some r) : b = true := by
  cases b
  · cases h
  · rfl
theorem zln_0 (pc : Nat) (r : Instr × Nat) (h : zcode 0 pc = some r) : pc < zln 0 := Nat.blt_eq.mp (zcdt (show (bif Nat.blt pc 115 then _ else none) = some r from h))
theorem zln_1 (pc : Nat) (r : Instr × Nat) (h : zcode 1 pc = some r) : pc < zln 1 := Nat.blt_eq.mp (zcdt (show (bif Nat.blt pc 18 then _ else none) = some r from h))
theorem zln_2 (pc : Nat) (r : Instr × Nat) (h : zcode 2 pc = some r) : pc < zln 2 := Nat.blt_eq.mp (zcdt (show (bif Nat.blt pc 30 then _ else none) = some r from h))
theorem zln_3 (pc : Nat) (r : Instr × Nat) (h : zcode 3 pc = some r) : pc < zln 3 := Nat.blt_eq.mp (zcdt (show (bif Nat.blt pc 31 then _ else none) = some r from h))
theorem zln_4 (pc : Nat) (r : Instr × Nat) (h : zcode 4 pc = some r) : pc < zln 4 := Nat.blt_eq.mp (zcdt (show (bif Nat.blt pc 36 then _ else none) = some r from h))
theorem zln_5 (pc : Nat) (r : Instr × Nat) (h : zcode 5 pc = some r) : pc < zln 5 := Nat.blt_eq.mp (zcdt (show (bif Nat.blt pc 49 then _ else none) = some r from h))
theorem zln_6 (pc : Nat) (r : Instr × Nat) (h : zcode 6 pc = some r) : pc < zln 6 := Nat.blt_eq.mp (zcdt (show (bif Nat.blt pc 65 then _ else none) = some r from h))
theorem zln_7 (pc : Nat) (r : Instr × Nat) (h : zcode 7 pc = some r) : pc < zln 7 := Nat.blt_eq.mp (zcdt (show (bif Nat.blt pc 93 then _ else none) = some r from h))
theorem zln_8 (pc : Nat) (r : Instr × Nat) (h : zcode 8 pc = some r) : pc < zln 8 := Nat.blt_eq.mp (zcdt (show (bif Nat.blt pc 70 then _ else none) = some r from h))
theorem zln_9 (pc : Nat) (r : Instr × Nat) (h : zcode 9 pc = some r) : pc < zln 9 := Nat.blt_eq.mp (zcdt (show (bif Nat.blt pc 85 then _ else none) = some r from h))
theorem zln_10 (pc : Nat) (r : Instr × Nat) (h : zcode 10 pc = some r) : pc < zln 10 := Nat.blt_eq.mp (zcdt (show (bif Nat.blt pc 39 then _ else none) = some r from h))
theorem zln_11 (pc : Nat) (r : Instr × Nat) (h : zcode 11 pc = some r) : pc < zln 11 := Nat.blt_eq.mp (zcdt (show (bif Nat.blt pc 46 then _ else none) = some r from h))
theorem zln_12 (pc : Nat) (r : Instr × Nat) (h : zcode 12 pc = some r) : pc < zln 12 := Nat.blt_eq.mp (zcdt (show (bif Nat.blt pc 44 then _ else none) = some r from h))
theorem zln_13 (pc : Nat) (r : Instr × Nat) (h : zcode 13 pc = some r) : pc < zln 13 := Nat.blt_eq.mp (zcdt (show (bif Nat.blt pc 32 then _ else none) = some r from h))
theorem zln_14 (pc : Nat) (r : Instr × Nat) (h : zcode 14 pc = some r) : pc < zln 14 := Nat.blt_eq.mp (zcdt (show (bif Nat.blt pc 63 then _ else none) = some r from h))
theorem zln_15 (pc : Nat) (r : Instr × Nat) (h : zcode 15 pc = some r) : pc < zln 15 := Nat.blt_eq.mp (zcdt (show (bif Nat.blt pc 77 then _ else none) = some r from h))
theorem zln_16 (pc : Nat) (r : Instr × Nat) (h : zcode 16 pc = some r) : pc < zln 16 := Nat.blt_eq.mp (zcdt (show (bif Nat.blt pc 82 then _ else none) = some r from h))
theorem zln_17 (pc : Nat) (r : Instr × Nat) (h : zcode 17 pc = some r) : pc < zln 17 := Nat.blt_eq.mp (zcdt (show (bif Nat.blt pc 51 then _ else none) = some r from h))
theorem zln_18 (pc : Nat) (r : Instr × Nat) (h : zcode 18 pc = some r) : pc < zln 18 := Nat.blt_eq.mp (zcdt (show (bif Nat.blt pc 75 then _ else none) = some r from h))
theorem zln_19 (pc : Nat) (r : Instr × Nat) (h : zcode 19 pc = some r) : pc < zln 19 := Nat.blt_eq.mp (zcdt (show (bif Nat.blt pc 23 then _ else none) = some r from h))
theorem zln_20 (pc : Nat) (r : Instr × Nat) (h : zcode 20 pc = some r) : pc < zln 20 := Nat.blt_eq.mp (zcdt (show (bif Nat.blt pc 63 then _ else none) = some r from h))
theorem zln_21 (pc : Nat) (r : Instr × Nat) (h : zcode 21 pc = some r) : pc < zln 21 := Nat.blt_eq.mp (zcdt (show (bif Nat.blt pc 52 then _ else none) = some r from h))
theorem zln_22 (pc : Nat) (r : Instr × Nat) (h : zcode 22 pc = some r) : pc < zln 22 := Nat.blt_eq.mp (zcdt (show (bif Nat.blt pc 43 then _ else none) = some r from h))
theorem zln_23 (pc : Nat) (r : Instr × Nat) (h : zcode 23 pc = some r) : pc < zln 23 := Nat.blt_eq.mp (zcdt (show (bif Nat.blt pc 26 then _ else none) = some r from h))
theorem zln_24 (pc : Nat) (r : Instr × Nat) (h : zcode 24 pc = some r) : pc < zln 24 := Nat.blt_eq.mp (zcdt (show (bif Nat.blt pc 139 then _ else none) = some r from h))
theorem zln_25 (pc : Nat) (r : Instr × Nat) (h : zcode 25 pc = some r) : pc < zln 25 := Nat.blt_eq.mp (zcdt (show (bif Nat.blt pc 90 then _ else none) = some r from h))
theorem zln_26 (pc : Nat) (r : Instr × Nat) (h : zcode 26 pc = some r) : pc < zln 26 := Nat.blt_eq.mp (zcdt (show (bif Nat.blt pc 37 then _ else none) = some r from h))
theorem zln_27 (pc : Nat) (r : Instr × Nat) (h : zcode 27 pc = some r) : pc < zln 27 := Nat.blt_eq.mp (zcdt (show (bif Nat.blt pc 91 then _ else none) = some r from h))
theorem zln_28 (pc : Nat) (r : Instr × Nat) (h : zcode 28 pc = some r) : pc < zln 28 := Nat.blt_eq.mp (zcdt (show (bif Nat.blt pc 53 then _ else none) = some r from h))
theorem zln_29 (pc : Nat) (r : Instr × Nat) (h : zcode 29 pc = some r) : pc < zln 29 := Nat.blt_eq.mp (zcdt (show (bif Nat.blt pc 27 then _ else none) = some r from h))
theorem zln_30 (pc : Nat) (r : Instr × Nat) (h : zcode 30 pc = some r) : pc < zln 30 := Nat.blt_eq.mp (zcdt (show (bif Nat.blt pc 100 then _ else none) = some r from h))
theorem zln_31 (pc : Nat) (r : Instr × Nat) (h : zcode 31 pc = some r) : pc < zln 31 := Nat.blt_eq.mp (zcdt (show (bif Nat.blt pc 92 then _ else none) = some r from h))
theorem zln_32 (pc : Nat) (r : Instr × Nat) (h : zcode 32 pc = some r) : pc < zln 32 := Nat.blt_eq.mp (zcdt (show (bif Nat.blt pc 32 then _ else none) = some r from h))
theorem zln_33 (pc : Nat) (r : Instr × Nat) (h : zcode 33 pc = some r) : pc < zln 33 := Nat.blt_eq.mp (zcdt (show (bif Nat.blt pc 28 then _ else none) = some r from h))
theorem zln_34 (pc : Nat) (r : Instr × Nat) (h : zcode 34 pc = some r) : pc < zln 34 := Nat.blt_eq.mp (zcdt (show (bif Nat.blt pc 25 then _ else none) = some r from h))
theorem zln_35 (pc : Nat) (r : Instr × Nat) (h : zcode 35 pc = some r) : pc < zln 35 := Nat.blt_eq.mp (zcdt (show (bif Nat.blt pc 47 then _ else none) = some r from h))
theorem zln_36 (pc : Nat) (r : Instr × Nat) (h : zcode 36 pc = some r) : pc < zln 36 := Nat.blt_eq.mp (zcdt (show (bif Nat.blt pc 22 then _ else none) = some r from h))
theorem zln_37 (pc : Nat) (r : Instr × Nat) (h : zcode 37 pc = some r) : pc < zln 37 := Nat.blt_eq.mp (zcdt (show (bif Nat.blt pc 18 then _ else none) = some r from h))
theorem zln_38 (pc : Nat) (r : Instr × Nat) (h : zcode 38 pc = some r) : pc < zln 38 := Nat.blt_eq.mp (zcdt (show (bif Nat.blt pc 29 then _ else none) = some r from h))
theorem zln_39 (pc : Nat) (r : Instr × Nat) (h : zcode 39 pc = some r) : pc < zln 39 := Nat.blt_eq.mp (zcdt (show (bif Nat.blt pc 22 then _ else none) = some r from h))
theorem zln_40 (pc : Nat) (r : Instr × Nat) (h : zcode 40 pc = some r) : pc < zln 40 := Nat.blt_eq.mp (zcdt (show (bif Nat.blt pc 13 then _ else none) = some r from h))
theorem zln_41 (pc : Nat) (r : Instr × Nat) (h : zcode 41 pc = some r) : pc < zln 41 := Nat.blt_eq.mp (zcdt (show (bif Nat.blt pc 15 then _ else none) = some r from h))
theorem zln_42 (pc : Nat) (r : Instr × Nat) (h : zcode 42 pc = some r) : pc < zln 42 := Nat.blt_eq.mp (zcdt (show (bif Nat.blt pc 36 then _ else none) = some r from h))
theorem zln_43 (pc : Nat) (r : Instr × Nat) (h : zcode 43 pc = some r) : pc < zln 43 := Nat.blt_eq.mp (zcdt (show (bif Nat.blt pc 25 then _ else none) = some r from h))
theorem zln_44 (pc : Nat) (r : Instr × Nat) (h : zcode 44 pc = some r) : pc < zln 44 := Nat.blt_eq.mp (zcdt (show (bif Nat.blt pc 25 then _ else none) = some r from h))
theorem zln_45 (pc : Nat) (r : Instr × Nat) (h : zcode 45 pc = some r) : pc < zln 45 := Nat.blt_eq.mp (zcdt (show (bif Nat.blt pc 34 then _ else none) = some r from h))
theorem zln_46 (pc : Nat) (r : Instr × Nat) (h : zcode 46 pc = some r) : pc < zln 46 := Nat.blt_eq.mp (zcdt (show (bif Nat.blt pc 38 then _ else none) = some r from h))
theorem zln_47 (pc : Nat) (r : Instr × Nat) (h : zcode 47 pc = some r) : pc < zln 47 := Nat.blt_eq.mp (zcdt (show (bif Nat.blt pc 29 then _ else none) = some r from h))
theorem zln_48 (pc : Nat) (r : Instr × Nat) (h : zcode 48 pc = some r) : pc < zln 48 := Nat.blt_eq.mp (zcdt (show (bif Nat.blt pc 123 then _ else none) = some r from h))
theorem zln_49 (pc : Nat) (r : Instr × Nat) (h : zcode 49 pc = some r) : pc < zln 49 := Nat.blt_eq.mp (zcdt (show (bif Nat.blt pc 49 then _ else none) = some r from h))
theorem zln_50 (pc : Nat) (r : Instr × Nat) (h : zcode 50 pc = some r) : pc < zln 50 := Nat.blt_eq.mp (zcdt (show (bif Nat.blt pc 63 then _ else none) = some r from h))
theorem zln_51 (pc : Nat) (r : Instr × Nat) (h : zcode 51 pc = some r) : pc < zln 51 := Nat.blt_eq.mp (zcdt (show (bif Nat.blt pc 48 then _ else none) = some r from h))
theorem zln_52 (pc : Nat) (r : Instr × Nat) (h : zcode 52 pc = some r) : pc < zln 52 := Nat.blt_eq.mp (zcdt (show (bif Nat.blt pc 59 then _ else none) = some r from h))
theorem zln_53 (pc : Nat) (r : Instr × Nat) (h : zcode 53 pc = some r) : pc < zln 53 := Nat.blt_eq.mp (zcdt (show (bif Nat.blt pc 127 then _ else none) = some r from h))
theorem zln_54 (pc : Nat) (r : Instr × Nat) (h : zcode 54 pc = some r) : pc < zln 54 := Nat.blt_eq.mp (zcdt (show (bif Nat.blt pc 32 then _ else none) = some r from h))
theorem zln_55 (pc : Nat) (r : Instr × Nat) (h : zcode 55 pc = some r) : pc < zln 55 := Nat.blt_eq.mp (zcdt (show (bif Nat.blt pc 89 then _ else none) = some r from h))
theorem zln_56 (pc : Nat) (r : Instr × Nat) (h : zcode 56 pc = some r) : pc < zln 56 := Nat.blt_eq.mp (zcdt (show (bif Nat.blt pc 15 then _ else none) = some r from h))
theorem zln_57 (pc : Nat) (r : Instr × Nat) (h : zcode 57 pc = some r) : pc < zln 57 := Nat.blt_eq.mp (zcdt (show (bif Nat.blt pc 218 then _ else none) = some r from h))
theorem zln_58 (pc : Nat) (r : Instr × Nat) (h : zcode 58 pc = some r) : pc < zln 58 := Nat.blt_eq.mp (zcdt (show (bif Nat.blt pc 45 then _ else none) = some r from h))
theorem zln_59 (pc : Nat) (r : Instr × Nat) (h : zcode 59 pc = some r) : pc < zln 59 := Nat.blt_eq.mp (zcdt (show (bif Nat.blt pc 13 then _ else none) = some r from h))
theorem zln_60 (pc : Nat) (r : Instr × Nat) (h : zcode 60 pc = some r) : pc < zln 60 := Nat.blt_eq.mp (zcdt (show (bif Nat.blt pc 14 then _ else none) = some r from h))
theorem zln_61 (pc : Nat) (r : Instr × Nat) (h : zcode 61 pc = some r) : pc < zln 61 := Nat.blt_eq.mp (zcdt (show (bif Nat.blt pc 27 then _ else none) = some r from h))
theorem zln_62 (pc : Nat) (r : Instr × Nat) (h : zcode 62 pc = some r) : pc < zln 62 := Nat.blt_eq.mp (zcdt (show (bif Nat.blt pc 14 then _ else none) = some r from h))
theorem zln_63 (pc : Nat) (r : Instr × Nat) (h : zcode 63 pc = some r) : pc < zln 63 := Nat.blt_eq.mp (zcdt (show (bif Nat.blt pc 21 then _ else none) = some r from h))
theorem zln_64 (pc : Nat) (r : Instr × Nat) (h : zcode 64 pc = some r) : pc < zln 64 := Nat.blt_eq.mp (zcdt (show (bif Nat.blt pc 19 then _ else none) = some r from h))
theorem zln_65 (pc : Nat) (r : Instr × Nat) (h : zcode 65 pc = some r) : pc < zln 65 := Nat.blt_eq.mp (zcdt (show (bif Nat.blt pc 110 then _ else none) = some r from h))
theorem zln_66 (pc : Nat) (r : Instr × Nat) (h : zcode 66 pc = some r) : pc < zln 66 := Nat.blt_eq.mp (zcdt (show (bif Nat.blt pc 40 then _ else none) = some r from h))
theorem zln_67 (pc : Nat) (r : Instr × Nat) (h : zcode 67 pc = some r) : pc < zln 67 := Nat.blt_eq.mp (zcdt (show (bif Nat.blt pc 44 then _ else none) = some r from h))
theorem zln_68 (pc : Nat) (r : Instr × Nat) (h : zcode 68 pc = some r) : pc < zln 68 := Nat.blt_eq.mp (zcdt (show (bif Nat.blt pc 134 then _ else none) = some r from h))
theorem zln_69 (pc : Nat) (r : Instr × Nat) (h : zcode 69 pc = some r) : pc < zln 69 := Nat.blt_eq.mp (zcdt (show (bif Nat.blt pc 56 then _ else none) = some r from h))
theorem zln_70 (pc : Nat) (r : Instr × Nat) (h : zcode 70 pc = some r) : pc < zln 70 := Nat.blt_eq.mp (zcdt (show (bif Nat.blt pc 122 then _ else none) = some r from h))
theorem zln_71 (pc : Nat) (r : Instr × Nat) (h : zcode 71 pc = some r) : pc < zln 71 := Nat.blt_eq.mp (zcdt (show (bif Nat.blt pc 116 then _ else none) = some r from h))
theorem zln_72 (pc : Nat) (r : Instr × Nat) (h : zcode 72 pc = some r) : pc < zln 72 := Nat.blt_eq.mp (zcdt (show (bif Nat.blt pc 18 then _ else none) = some r from h))
theorem zln_73 (pc : Nat) (r : Instr × Nat) (h : zcode 73 pc = some r) : pc < zln 73 := Nat.blt_eq.mp (zcdt (show (bif Nat.blt pc 26 then _ else none) = some r from h))
theorem zln_74 (pc : Nat) (r : Instr × Nat) (h : zcode 74 pc = some r) : pc < zln 74 := Nat.blt_eq.mp (zcdt (show (bif Nat.blt pc 26 then _ else none) = some r from h))
theorem zln_75 (pc : Nat) (r : Instr × Nat) (h : zcode 75 pc = some r) : pc < zln 75 := Nat.blt_eq.mp (zcdt (show (bif Nat.blt pc 52 then _ else none) = some r from h))
theorem zln_76 (pc : Nat) (r : Instr × Nat) (h : zcode 76 pc = some r) : pc < zln 76 := Nat.blt_eq.mp (zcdt (show (bif Nat.blt pc 31 then _ else none) = some r from h))
theorem zln_77 (pc : Nat) (r : Instr × Nat) (h : zcode 77 pc = some r) : pc < zln 77 := Nat.blt_eq.mp (zcdt (show (bif Nat.blt pc 100 then _ else none) = some r from h))
theorem zln_78 (pc : Nat) (r : Instr × Nat) (h : zcode 78 pc = some r) : pc < zln 78 := Nat.blt_eq.mp (zcdt (show (bif Nat.blt pc 164 then _ else none) = some r from h))
theorem zln_79 (pc : Nat) (r : Instr × Nat) (h : zcode 79 pc = some r) : pc < zln 79 := Nat.blt_eq.mp (zcdt (show (bif Nat.blt pc 188 then _ else none) = some r from h))
theorem zln_80 (pc : Nat) (r : Instr × Nat) (h : zcode 80 pc = some r) : pc < zln 80 := Nat.blt_eq.mp (zcdt (show (bif Nat.blt pc 54 then _ else none) = some r from h))
theorem zln_81 (pc : Nat) (r : Instr × Nat) (h : zcode 81 pc = some r) : pc < zln 81 := Nat.blt_eq.mp (zcdt (show (bif Nat.blt pc 33 then _ else none) = some r from h))
theorem zln_82 (pc : Nat) (r : Instr × Nat) (h : zcode 82 pc = some r) : pc < zln 82 := Nat.blt_eq.mp (zcdt (show (bif Nat.blt pc 174 then _ else none) = some r from h))
theorem zln_83 (pc : Nat) (r : Instr × Nat) (h : zcode 83 pc = some r) : pc < zln 83 := Nat.blt_eq.mp (zcdt (show (bif Nat.blt pc 86 then _ else none) = some r from h))
theorem zln_84 (pc : Nat) (r : Instr × Nat) (h : zcode 84 pc = some r) : pc < zln 84 := Nat.blt_eq.mp (zcdt (show (bif Nat.blt pc 151 then _ else none) = some r from h))
theorem zln_85 (pc : Nat) (r : Instr × Nat) (h : zcode 85 pc = some r) : pc < zln 85 := Nat.blt_eq.mp (zcdt (show (bif Nat.blt pc 40 then _ else none) = some r from h))
theorem zln_86 (pc : Nat) (r : Instr × Nat) (h : zcode 86 pc = some r) : pc < zln 86 := Nat.blt_eq.mp (zcdt (show (bif Nat.blt pc 102 then _ else none) = some r from h))
theorem zln_87 (pc : Nat) (r : Instr × Nat) (h : zcode 87 pc = some r) : pc < zln 87 := Nat.blt_eq.mp (zcdt (show (bif Nat.blt pc 108 then _ else none) = some r from h))
theorem zln_88 (pc : Nat) (r : Instr × Nat) (h : zcode 88 pc = some r) : pc < zln 88 := Nat.blt_eq.mp (zcdt (show (bif Nat.blt pc 47 then _ else none) = some r from h))
theorem zln_89 (pc : Nat) (r : Instr × Nat) (h : zcode 89 pc = some r) : pc < zln 89 := Nat.blt_eq.mp (zcdt (show (bif Nat.blt pc 26 then _ else none) = some r from h))
theorem zln_90 (pc : Nat) (r : Instr × Nat) (h : zcode 90 pc = some r) : pc < zln 90 := Nat.blt_eq.mp (zcdt (show (bif Nat.blt pc 82 then _ else none) = some r from h))
theorem zln_91 (pc : Nat) (r : Instr × Nat) (h : zcode 91 pc = some r) : pc < zln 91 := Nat.blt_eq.mp (zcdt (show (bif Nat.blt pc 83 then _ else none) = some r from h))
theorem zln_92 (pc : Nat) (r : Instr × Nat) (h : zcode 92 pc = some r) : pc < zln 92 := Nat.blt_eq.mp (zcdt (show (bif Nat.blt pc 38 then _ else none) = some r from h))
theorem zln_93 (pc : Nat) (r : Instr × Nat) (h : zcode 93 pc = some r) : pc < zln 93 := Nat.blt_eq.mp (zcdt (show (bif Nat.blt pc 58 then _ else none) = some r from h))
theorem zln_94 (pc : Nat) (r : Instr × Nat) (h : zcode 94 pc = some r) : pc < zln 94 := Nat.blt_eq.mp (zcdt (show (bif Nat.blt pc 123 then _ else none) = some r from h))
theorem zln_95 (pc : Nat) (r : Instr × Nat) (h : zcode 95 pc = some r) : pc < zln 95 := Nat.blt_eq.mp (zcdt (show (bif Nat.blt pc 51 then _ else none) = some r from h))
theorem zln_96 (pc : Nat) (r : Instr × Nat) (h : zcode 96 pc = some r) : pc < zln 96 := Nat.blt_eq.mp (zcdt (show (bif Nat.blt pc 64 then _ else none) = some r from h))
theorem zln_97 (pc : Nat) (r : Instr × Nat) (h : zcode 97 pc = some r) : pc < zln 97 := Nat.blt_eq.mp (zcdt (show (bif Nat.blt pc 66 then _ else none) = some r from h))
theorem zln_98 (pc : Nat) (r : Instr × Nat) (h : zcode 98 pc = some r) : pc < zln 98 := Nat.blt_eq.mp (zcdt (show (bif Nat.blt pc 23 then _ else none) = some r from h))
theorem zln_99 (pc : Nat) (r : Instr × Nat) (h : zcode 99 pc = some r) : pc < zln 99 := Nat.blt_eq.mp (zcdt (show (bif Nat.blt pc 93 then _ else none) = some r from h))
theorem zln_100 (pc : Nat) (r : Instr × Nat) (h : zcode 100 pc = some r) : pc < zln 100 := Nat.blt_eq.mp (zcdt (show (bif Nat.blt pc 38 then _ else none) = some r from h))
theorem zln_101 (pc : Nat) (r : Instr × Nat) (h : zcode 101 pc = some r) : pc < zln 101 := Nat.blt_eq.mp (zcdt (show (bif Nat.blt pc 11 then _ else none) = some r from h))
theorem zln_102 (pc : Nat) (r : Instr × Nat) (h : zcode 102 pc = some r) : pc < zln 102 := Nat.blt_eq.mp (zcdt (show (bif Nat.blt pc 15 then _ else none) = some r from h))
theorem zln_103 (pc : Nat) (r : Instr × Nat) (h : zcode 103 pc = some r) : pc < zln 103 := Nat.blt_eq.mp (zcdt (show (bif Nat.blt pc 10 then _ else none) = some r from h))
theorem zln_104 (pc : Nat) (r : Instr × Nat) (h : zcode 104 pc = some r) : pc < zln 104 := Nat.blt_eq.mp (zcdt (show (bif Nat.blt pc 11 then _ else none) = some r from h))
theorem zln_105 (pc : Nat) (r : Instr × Nat) (h : zcode 105 pc = some r) : pc < zln 105 := Nat.blt_eq.mp (zcdt (show (bif Nat.blt pc 25 then _ else none) = some r from h))
theorem zln_106 (pc : Nat) (r : Instr × Nat) (h : zcode 106 pc = some r) : pc < zln 106 := Nat.blt_eq.mp (zcdt (show (bif Nat.blt pc 25 then _ else none) = some r from h))
theorem zln_107 (pc : Nat) (r : Instr × Nat) (h : zcode 107 pc = some r) : pc < zln 107 := Nat.blt_eq.mp (zcdt (show (bif Nat.blt pc 32 then _ else none) = some r from h))
theorem zln_108 (pc : Nat) (r : Instr × Nat) (h : zcode 108 pc = some r) : pc < zln 108 := Nat.blt_eq.mp (zcdt (show (bif Nat.blt pc 41 then _ else none) = some r from h))
theorem zln_109 (pc : Nat) (r : Instr × Nat) (h : zcode 109 pc = some r) : pc < zln 109 := Nat.blt_eq.mp (zcdt (show (bif Nat.blt pc 61 then _ else none) = some r from h))
theorem zln_110 (pc : Nat) (r : Instr × Nat) (h : zcode 110 pc = some r) : pc < zln 110 := Nat.blt_eq.mp (zcdt (show (bif Nat.blt pc 92 then _ else none) = some r from h))
theorem zln_111 (pc : Nat) (r : Instr × Nat) (h : zcode 111 pc = some r) : pc < zln 111 := Nat.blt_eq.mp (zcdt (show (bif Nat.blt pc 33 then _ else none) = some r from h))
theorem zln_112 (pc : Nat) (r : Instr × Nat) (h : zcode 112 pc = some r) : pc < zln 112 := Nat.blt_eq.mp (zcdt (show (bif Nat.blt pc 40 then _ else none) = some r from h))
theorem zln_113 (pc : Nat) (r : Instr × Nat) (h : zcode 113 pc = some r) : pc < zln 113 := Nat.blt_eq.mp (zcdt (show (bif Nat.blt pc 14 then _ else none) = some r from h))
theorem zln_114 (pc : Nat) (r : Instr × Nat) (h : zcode 114 pc = some r) : pc < zln 114 := Nat.blt_eq.mp (zcdt (show (bif Nat.blt pc 69 then _ else none) = some r from h))
theorem zln_115 (pc : Nat) (r : Instr × Nat) (h : zcode 115 pc = some r) : pc < zln 115 := Nat.blt_eq.mp (zcdt (show (bif Nat.blt pc 51 then _ else none) = some r from h))
theorem zln_116 (pc : Nat) (r : Instr × Nat) (h : zcode 116 pc = some r) : pc < zln 116 := Nat.blt_eq.mp (zcdt (show (bif Nat.blt pc 102 then _ else none) = some r from h))
theorem zln_117 (pc : Nat) (r : Instr × Nat) (h : zcode 117 pc = some r) : pc < zln 117 := Nat.blt_eq.mp (zcdt (show (bif Nat.blt pc 53 then _ else none) = some r from h))
theorem zln_118 (pc : Nat) (r : Instr × Nat) (h : zcode 118 pc = some r) : pc < zln 118 := Nat.blt_eq.mp (zcdt (show (bif Nat.blt pc 27 then _ else none) = some r from h))
theorem zln_119 (pc : Nat) (r : Instr × Nat) (h : zcode 119 pc = some r) : pc < zln 119 := Nat.blt_eq.mp (zcdt (show (bif Nat.blt pc 43 then _ else none) = some r from h))
theorem zln_120 (pc : Nat) (r : Instr × Nat) (h : zcode 120 pc = some r) : pc < zln 120 := Nat.blt_eq.mp (zcdt (show (bif Nat.blt pc 80 then _ else none) = some r from h))
theorem zln_121 (pc : Nat) (r : Instr × Nat) (h : zcode 121 pc = some r) : pc < zln 121 := Nat.blt_eq.mp (zcdt (show (bif Nat.blt pc 46 then _ else none) = some r from h))
theorem zln_122 (pc : Nat) (r : Instr × Nat) (h : zcode 122 pc = some r) : pc < zln 122 := Nat.blt_eq.mp (zcdt (show (bif Nat.blt pc 41 then _ else none) = some r from h))
theorem zln_123 (pc : Nat) (r : Instr × Nat) (h : zcode 123 pc = some r) : pc < zln 123 := Nat.blt_eq.mp (zcdt (show (bif Nat.blt pc 18 then _ else none) = some r from h))
theorem zln_124 (pc : Nat) (r : Instr × Nat) (h : zcode 124 pc = some r) : pc < zln 124 := Nat.blt_eq.mp (zcdt (show (bif Nat.blt pc 67 then _ else none) = some r from h))
theorem zln_125 (pc : Nat) (r : Instr × Nat) (h : zcode 125 pc = some r) : pc < zln 125 := Nat.blt_eq.mp (zcdt (show (bif Nat.blt pc 48 then _ else none) = some r from h))
theorem zln_126 (pc : Nat) (r : Instr × Nat) (h : zcode 126 pc = some r) : pc < zln 126 := Nat.blt_eq.mp (zcdt (show (bif Nat.blt pc 25 then _ else none) = some r from h))
theorem zln_127 (pc : Nat) (r : Instr × Nat) (h : zcode 127 pc = some r) : pc < zln 127 := Nat.blt_eq.mp (zcdt (show (bif Nat.blt pc 10 then _ else none) = some r from h))
theorem zln_128 (pc : Nat) (r : Instr × Nat) (h : zcode 128 pc = some r) : pc < zln 128 := Nat.blt_eq.mp (zcdt (show (bif Nat.blt pc 178 then _ else none) = some r from h))
theorem zln_129 (pc : Nat) (r : Instr × Nat) (h : zcode 129 pc = some r) : pc < zln 129 := Nat.blt_eq.mp (zcdt (show (bif Nat.blt pc 8 then _ else none) = some r from h))
theorem zln_130 (pc : Nat) (r : Instr × Nat) (h : zcode 130 pc = some r) : pc < zln 130 := Nat.blt_eq.mp (zcdt (show (bif Nat.blt pc 38 then _ else none) = some r from h))
theorem zln_131 (pc : Nat) (r : Instr × Nat) (h : zcode 131 pc = some r) : pc < zln 131 := Nat.blt_eq.mp (zcdt (show (bif Nat.blt pc 79 then _ else none) = some r from h))
theorem zln_132 (pc : Nat) (r : Instr × Nat) (h : zcode 132 pc = some r) : pc < zln 132 := Nat.blt_eq.mp (zcdt (show (bif Nat.blt pc 33 then _ else none) = some r from h))
theorem zln_133 (pc : Nat) (r : Instr × Nat) (h : zcode 133 pc = some r) : pc < zln 133 := Nat.blt_eq.mp (zcdt (show (bif Nat.blt pc 5 then _ else none) = some r from h))
theorem zln_134 (pc : Nat) (r : Instr × Nat) (h : zcode 134 pc = some r) : pc < zln 134 := Nat.blt_eq.mp (zcdt (show (bif Nat.blt pc 16 then _ else none) = some r from h))
theorem zln_135 (pc : Nat) (r : Instr × Nat) (h : zcode 135 pc = some r) : pc < zln 135 := Nat.blt_eq.mp (zcdt (show (bif Nat.blt pc 43 then _ else none) = some r from h))
theorem zln_136 (pc : Nat) (r : Instr × Nat) (h : zcode 136 pc = some r) : pc < zln 136 := Nat.blt_eq.mp (zcdt (show (bif Nat.blt pc 25 then _ else none) = some r from h))
theorem zln_137 (pc : Nat) (r : Instr × Nat) (h : zcode 137 pc = some r) : pc < zln 137 := Nat.blt_eq.mp (zcdt (show (bif Nat.blt pc 12 then _ else none) = some r from h))
theorem zln_138 (pc : Nat) (r : Instr × Nat) (h : zcode 138 pc = some r) : pc < zln 138 := Nat.blt_eq.mp (zcdt (show (bif Nat.blt pc 29 then _ else none) = some r from h))
theorem zln_139 (pc : Nat) (r : Instr × Nat) (h : zcode 139 pc = some r) : pc < zln 139 := Nat.blt_eq.mp (zcdt (show (bif Nat.blt pc 43 then _ else none) = some r from h))
theorem zln_140 (pc : Nat) (r : Instr × Nat) (h : zcode 140 pc = some r) : pc < zln 140 := Nat.blt_eq.mp (zcdt (show (bif Nat.blt pc 99 then _ else none) = some r from h))
theorem zln_141 (pc : Nat) (r : Instr × Nat) (h : zcode 141 pc = some r) : pc < zln 141 := Nat.blt_eq.mp (zcdt (show (bif Nat.blt pc 16 then _ else none) = some r from h))
theorem zln_142 (pc : Nat) (r : Instr × Nat) (h : zcode 142 pc = some r) : pc < zln 142 := Nat.blt_eq.mp (zcdt (show (bif Nat.blt pc 106 then _ else none) = some r from h))
theorem zln_143 (pc : Nat) (r : Instr × Nat) (h : zcode 143 pc = some r) : pc < zln 143 := Nat.blt_eq.mp (zcdt (show (bif Nat.blt pc 36 then _ else none) = some r from h))
theorem zln_144 (pc : Nat) (r : Instr × Nat) (h : zcode 144 pc = some r) : pc < zln 144 := Nat.blt_eq.mp (zcdt (show (bif Nat.blt pc 40 then _ else none) = some r from h))
theorem zln_145 (pc : Nat) (r : Instr × Nat) (h : zcode 145 pc = some r) : pc < zln 145 := Nat.blt_eq.mp (zcdt (show (bif Nat.blt pc 114 then _ else none) = some r from h))
theorem zln_146 (pc : Nat) (r : Instr × Nat) (h : zcode 146 pc = some r) : pc < zln 146 := Nat.blt_eq.mp (zcdt (show (bif Nat.blt pc 24 then _ else none) = some r from h))
theorem zln_147 (pc : Nat) (r : Instr × Nat) (h : zcode 147 pc = some r) : pc < zln 147 := Nat.blt_eq.mp (zcdt (show (bif Nat.blt pc 24 then _ else none) = some r from h))
theorem zln_148 (pc : Nat) (r : Instr × Nat) (h : zcode 148 pc = some r) : pc < zln 148 := Nat.blt_eq.mp (zcdt (show (bif Nat.blt pc 33 then _ else none) = some r from h))
theorem zln_149 (pc : Nat) (r : Instr × Nat) (h : zcode 149 pc = some r) : pc < zln 149 := Nat.blt_eq.mp (zcdt (show (bif Nat.blt pc 24 then _ else none) = some r from h))
theorem zln_150 (pc : Nat) (r : Instr × Nat) (h : zcode 150 pc = some r) : pc < zln 150 := Nat.blt_eq.mp (zcdt (show (bif Nat.blt pc 40 then _ else none) = some r from h))
theorem zln_151 (pc : Nat) (r : Instr × Nat) (h : zcode 151 pc = some r) : pc < zln 151 := Nat.blt_eq.mp (zcdt (show (bif Nat.blt pc 83 then _ else none) = some r from h))
theorem zln_152 (pc : Nat) (r : Instr × Nat) (h : zcode 152 pc = some r) : pc < zln 152 := Nat.blt_eq.mp (zcdt (show (bif Nat.blt pc 35 then _ else none) = some r from h))
theorem zln_153 (pc : Nat) (r : Instr × Nat) (h : zcode 153 pc = some r) : pc < zln 153 := Nat.blt_eq.mp (zcdt (show (bif Nat.blt pc 117 then _ else none) = some r from h))
theorem zln_154 (pc : Nat) (r : Instr × Nat) (h : zcode 154 pc = some r) : pc < zln 154 := Nat.blt_eq.mp (zcdt (show (bif Nat.blt pc 19 then _ else none) = some r from h))
theorem zln_155 (pc : Nat) (r : Instr × Nat) (h : zcode 155 pc = some r) : pc < zln 155 := Nat.blt_eq.mp (zcdt (show (bif Nat.blt pc 25 then _ else none) = some r from h))
theorem zln_156 (pc : Nat) (r : Instr × Nat) (h : zcode 156 pc = some r) : pc < zln 156 := Nat.blt_eq.mp (zcdt (show (bif Nat.blt pc 333 then _ else none) = some r from h))
theorem zln_157 (pc : Nat) (r : Instr × Nat) (h : zcode 157 pc = some r) : pc < zln 157 := Nat.blt_eq.mp (zcdt (show (bif Nat.blt pc 55 then _ else none) = some r from h))
theorem zln_158 (pc : Nat) (r : Instr × Nat) (h : zcode 158 pc = some r) : pc < zln 158 := Nat.blt_eq.mp (zcdt (show (bif Nat.blt pc 192 then _ else none) = some r from h))
theorem zln_159 (pc : Nat) (r : Instr × Nat) (h : zcode 159 pc = some r) : pc < zln 159 := Nat.blt_eq.mp (zcdt (show (bif Nat.blt pc 91 then _ else none) = some r from h))
theorem zln_160 (pc : Nat) (r : Instr × Nat) (h : zcode 160 pc = some r) : pc < zln 160 := Nat.blt_eq.mp (zcdt (show (bif Nat.blt pc 57 then _ else none) = some r from h))
theorem zln_161 (pc : Nat) (r : Instr × Nat) (h : zcode 161 pc = some r) : pc < zln 161 := Nat.blt_eq.mp (zcdt (show (bif Nat.blt pc 127 then _ else none) = some r from h))
theorem zln_162 (pc : Nat) (r : Instr × Nat) (h : zcode 162 pc = some r) : pc < zln 162 := Nat.blt_eq.mp (zcdt (show (bif Nat.blt pc 125 then _ else none) = some r from h))
theorem zln_163 (pc : Nat) (r : Instr × Nat) (h : zcode 163 pc = some r) : pc < zln 163 := Nat.blt_eq.mp (zcdt (show (bif Nat.blt pc 19 then _ else none) = some r from h))
theorem zln_164 (pc : Nat) (r : Instr × Nat) (h : zcode 164 pc = some r) : pc < zln 164 := Nat.blt_eq.mp (zcdt (show (bif Nat.blt pc 372 then _ else none) = some r from h))
theorem zln_165 (pc : Nat) (r : Instr × Nat) (h : zcode 165 pc = some r) : pc < zln 165 := Nat.blt_eq.mp (zcdt (show (bif Nat.blt pc 23 then _ else none) = some r from h))
theorem zln_166 (pc : Nat) (r : Instr × Nat) (h : zcode 166 pc = some r) : pc < zln 166 := Nat.blt_eq.mp (zcdt (show (bif Nat.blt pc 27 then _ else none) = some r from h))
theorem zln_167 (pc : Nat) (r : Instr × Nat) (h : zcode 167 pc = some r) : pc < zln 167 := Nat.blt_eq.mp (zcdt (show (bif Nat.blt pc 15 then _ else none) = some r from h))
theorem zln_168 (pc : Nat) (r : Instr × Nat) (h : zcode 168 pc = some r) : pc < zln 168 := Nat.blt_eq.mp (zcdt (show (bif Nat.blt pc 21 then _ else none) = some r from h))
theorem zln_169 (pc : Nat) (r : Instr × Nat) (h : zcode 169 pc = some r) : pc < zln 169 := Nat.blt_eq.mp (zcdt (show (bif Nat.blt pc 103 then _ else none) = some r from h))
theorem zln_170 (pc : Nat) (r : Instr × Nat) (h : zcode 170 pc = some r) : pc < zln 170 := Nat.blt_eq.mp (zcdt (show (bif Nat.blt pc 90 then _ else none) = some r from h))
theorem zln_171 (pc : Nat) (r : Instr × Nat) (h : zcode 171 pc = some r) : pc < zln 171 := Nat.blt_eq.mp (zcdt (show (bif Nat.blt pc 36 then _ else none) = some r from h))
theorem zln_172 (pc : Nat) (r : Instr × Nat) (h : zcode 172 pc = some r) : pc < zln 172 := Nat.blt_eq.mp (zcdt (show (bif Nat.blt pc 513 then _ else none) = some r from h))
theorem zln_173 (pc : Nat) (r : Instr × Nat) (h : zcode 173 pc = some r) : pc < zln 173 := Nat.blt_eq.mp (zcdt (show (bif Nat.blt pc 350 then _ else none) = some r from h))
theorem zln_174 (pc : Nat) (r : Instr × Nat) (h : zcode 174 pc = some r) : pc < zln 174 := Nat.blt_eq.mp (zcdt (show (bif Nat.blt pc 221 then _ else none) = some r from h))
theorem zln_175 (pc : Nat) (r : Instr × Nat) (h : zcode 175 pc = some r) : pc < zln 175 := Nat.blt_eq.mp (zcdt (show (bif Nat.blt pc 37 then _ else none) = some r from h))
theorem zln_176 (pc : Nat) (r : Instr × Nat) (h : zcode 176 pc = some r) : pc < zln 176 := Nat.blt_eq.mp (zcdt (show (bif Nat.blt pc 54 then _ else none) = some r from h))
theorem zln_177 (pc : Nat) (r : Instr × Nat) (h : zcode 177 pc = some r) : pc < zln 177 := Nat.blt_eq.mp (zcdt (show (bif Nat.blt pc 166 then _ else none) = some r from h))
theorem zln_178 (pc : Nat) (r : Instr × Nat) (h : zcode 178 pc = some r) : pc < zln 178 := Nat.blt_eq.mp (zcdt (show (bif Nat.blt pc 366 then _ else none) = some r from h))
theorem zln_179 (pc : Nat) (r : Instr × Nat) (h : zcode 179 pc = some r) : pc < zln 179 := Nat.blt_eq.mp (zcdt (show (bif Nat.blt pc 216 then _ else none) = some r from h))
theorem zln_180 (pc : Nat) (r : Instr × Nat) (h : zcode 180 pc = some r) : pc < zln 180 := Nat.blt_eq.mp (zcdt (show (bif Nat.blt pc 43 then _ else none) = some r from h))
theorem zln_181 (pc : Nat) (r : Instr × Nat) (h : zcode 181 pc = some r) : pc < zln 181 := Nat.blt_eq.mp (zcdt (show (bif Nat.blt pc 29 then _ else none) = some r from h))
theorem zln_182 (pc : Nat) (r : Instr × Nat) (h : zcode 182 pc = some r) : pc < zln 182 := Nat.blt_eq.mp (zcdt (show (bif Nat.blt pc 28 then _ else none) = some r from h))
theorem zln_183 (pc : Nat) (r : Instr × Nat) (h : zcode 183 pc = some r) : pc < zln 183 := Nat.blt_eq.mp (zcdt (show (bif Nat.blt pc 287 then _ else none) = some r from h))
theorem zln_184 (pc : Nat) (r : Instr × Nat) (h : zcode 184 pc = some r) : pc < zln 184 := Nat.blt_eq.mp (zcdt (show (bif Nat.blt pc 43 then _ else none) = some r from h))
theorem zln_185 (pc : Nat) (r : Instr × Nat) (h : zcode 185 pc = some r) : pc < zln 185 := Nat.blt_eq.mp (zcdt (show (bif Nat.blt pc 37 then _ else none) = some r from h))
theorem zln_186 (pc : Nat) (r : Instr × Nat) (h : zcode 186 pc = some r) : pc < zln 186 := Nat.blt_eq.mp (zcdt (show (bif Nat.blt pc 144 then _ else none) = some r from h))
theorem zln_187 (pc : Nat) (r : Instr × Nat) (h : zcode 187 pc = some r) : pc < zln 187 := Nat.blt_eq.mp (zcdt (show (bif Nat.blt pc 56 then _ else none) = some r from h))
theorem zln_188 (pc : Nat) (r : Instr × Nat) (h : zcode 188 pc = some r) : pc < zln 188 := Nat.blt_eq.mp (zcdt (show (bif Nat.blt pc 308 then _ else none) = some r from h))
theorem zln_189 (pc : Nat) (r : Instr × Nat) (h : zcode 189 pc = some r) : pc < zln 189 := Nat.blt_eq.mp (zcdt (show (bif Nat.blt pc 28 then _ else none) = some r from h))
theorem zln_190 (pc : Nat) (r : Instr × Nat) (h : zcode 190 pc = some r) : pc < zln 190 := Nat.blt_eq.mp (zcdt (show (bif Nat.blt pc 29 then _ else none) = some r from h))
theorem zln_191 (pc : Nat) (r : Instr × Nat) (h : zcode 191 pc = some r) : pc < zln 191 := Nat.blt_eq.mp (zcdt (show (bif Nat.blt pc 101 then _ else none) = some r from h))
theorem zln_192 (pc : Nat) (r : Instr × Nat) (h : zcode 192 pc = some r) : pc < zln 192 := Nat.blt_eq.mp (zcdt (show (bif Nat.blt pc 72 then _ else none) = some r from h))
theorem zln_193 (pc : Nat) (r : Instr × Nat) (h : zcode 193 pc = some r) : pc < zln 193 := Nat.blt_eq.mp (zcdt (show (bif Nat.blt pc 239 then _ else none) = some r from h))
theorem zln_194 (pc : Nat) (r : Instr × Nat) (h : zcode 194 pc = some r) : pc < zln 194 := Nat.blt_eq.mp (zcdt (show (bif Nat.blt pc 133 then _ else none) = some r from h))
theorem zln_195 (pc : Nat) (r : Instr × Nat) (h : zcode 195 pc = some r) : pc < zln 195 := Nat.blt_eq.mp (zcdt (show (bif Nat.blt pc 38 then _ else none) = some r from h))
theorem zln_196 (pc : Nat) (r : Instr × Nat) (h : zcode 196 pc = some r) : pc < zln 196 := Nat.blt_eq.mp (zcdt (show (bif Nat.blt pc 302 then _ else none) = some r from h))
theorem zln_197 (pc : Nat) (r : Instr × Nat) (h : zcode 197 pc = some r) : pc < zln 197 := Nat.blt_eq.mp (zcdt (show (bif Nat.blt pc 38 then _ else none) = some r from h))
theorem zln_198 (pc : Nat) (r : Instr × Nat) (h : zcode 198 pc = some r) : pc < zln 198 := Nat.blt_eq.mp (zcdt (show (bif Nat.blt pc 28 then _ else none) = some r from h))
theorem zln_199 (pc : Nat) (r : Instr × Nat) (h : zcode 199 pc = some r) : pc < zln 199 := Nat.blt_eq.mp (zcdt (show (bif Nat.blt pc 70 then _ else none) = some r from h))
theorem zln_200 (pc : Nat) (r : Instr × Nat) (h : zcode 200 pc = some r) : pc < zln 200 := Nat.blt_eq.mp (zcdt (show (bif Nat.blt pc 174 then _ else none) = some r from h))
theorem zln_201 (pc : Nat) (r : Instr × Nat) (h : zcode 201 pc = some r) : pc < zln 201 := Nat.blt_eq.mp (zcdt (show (bif Nat.blt pc 77 then _ else none) = some r from h))
theorem zln_202 (pc : Nat) (r : Instr × Nat) (h : zcode 202 pc = some r) : pc < zln 202 := Nat.blt_eq.mp (zcdt (show (bif Nat.blt pc 80 then _ else none) = some r from h))
theorem zln_203 (pc : Nat) (r : Instr × Nat) (h : zcode 203 pc = some r) : pc < zln 203 := Nat.blt_eq.mp (zcdt (show (bif Nat.blt pc 275 then _ else none) = some r from h))
theorem zln_204 (pc : Nat) (r : Instr × Nat) (h : zcode 204 pc = some r) : pc < zln 204 := Nat.blt_eq.mp (zcdt (show (bif Nat.blt pc 47 then _ else none) = some r from h))
theorem zln_205 (pc : Nat) (r : Instr × Nat) (h : zcode 205 pc = some r) : pc < zln 205 := Nat.blt_eq.mp (zcdt (show (bif Nat.blt pc 41 then _ else none) = some r from h))
theorem zln_206 (pc : Nat) (r : Instr × Nat) (h : zcode 206 pc = some r) : pc < zln 206 := Nat.blt_eq.mp (zcdt (show (bif Nat.blt pc 17 then _ else none) = some r from h))
theorem zln_207 (pc : Nat) (r : Instr × Nat) (h : zcode 207 pc = some r) : pc < zln 207 := Nat.blt_eq.mp (zcdt (show (bif Nat.blt pc 114 then _ else none) = some r from h))
theorem zln_208 (pc : Nat) (r : Instr × Nat) (h : zcode 208 pc = some r) : pc < zln 208 := Nat.blt_eq.mp (zcdt (show (bif Nat.blt pc 55 then _ else none) = some r from h))
theorem zln_209 (pc : Nat) (r : Instr × Nat) (h : zcode 209 pc = some r) : pc < zln 209 := Nat.blt_eq.mp (zcdt (show (bif Nat.blt pc 24 then _ else none) = some r from h))
theorem zln_210 (pc : Nat) (r : Instr × Nat) (h : zcode 210 pc = some r) : pc < zln 210 := Nat.blt_eq.mp (zcdt (show (bif Nat.blt pc 79 then _ else none) = some r from h))
theorem zln_211 (pc : Nat) (r : Instr × Nat) (h : zcode 211 pc = some r) : pc < zln 211 := Nat.blt_eq.mp (zcdt (show (bif Nat.blt pc 242 then _ else none) = some r from h))
theorem zln_212 (pc : Nat) (r : Instr × Nat) (h : zcode 212 pc = some r) : pc < zln 212 := Nat.blt_eq.mp (zcdt (show (bif Nat.blt pc 1500 then _ else none) = some r from h))
theorem zln_all : ∀ mi, 0 ≤ mi → mi < 213 → ∀ (pc : Nat) (r : Instr × Nat), zcode mi pc = some r → pc < zln mi := (zsp 106 (zsp 53 (zsp 26 (zsp 13 (zsp 6 (zsp 3 (zsp 1 (zon (a := 0) zln_0) (zsp 2 (zon (a := 1) zln_1) (zon (a := 2) zln_2))) (zsp 4 (zon (a := 3) zln_3) (zsp 5 (zon (a := 4) zln_4) (zon (a := 5) zln_5)))) (zsp 9 (zsp 7 (zon (a := 6) zln_6) (zsp 8 (zon (a := 7) zln_7) (zon (a := 8) zln_8))) (zsp 11 (zsp 10 (zon (a := 9) zln_9) (zon (a := 10) zln_10)) (zsp 12 (zon (a := 11) zln_11) (zon (a := 12) zln_12))))) (zsp 19 (zsp 16 (zsp 14 (zon (a := 13) zln_13) (zsp 15 (zon (a := 14) zln_14) (zon (a := 15) zln_15))) (zsp 17 (zon (a := 16) zln_16) (zsp 18 (zon (a := 17) zln_17) (zon (a := 18) zln_18)))) (zsp 22 (zsp 20 (zon (a := 19) zln_19) (zsp 21 (zon (a := 20) zln_20) (zon (a := 21) zln_21))) (zsp 24 (zsp 23 (zon (a := 22) zln_22) (zon (a := 23) zln_23)) (zsp 25 (zon (a := 24) zln_24) (zon (a := 25) zln_25)))))) (zsp 39 (zsp 32 (zsp 29 (zsp 27 (zon (a := 26) zln_26) (zsp 28 (zon (a := 27) zln_27) (zon (a := 28) zln_28))) (zsp 30 (zon (a := 29) zln_29) (zsp 31 (zon (a := 30) zln_30) (zon (a := 31) zln_31)))) (zsp 35 (zsp 33 (zon (a := 32) zln_32) (zsp 34 (zon (a := 33) zln_33) (zon (a := 34) zln_34))) (zsp 37 (zsp 36 (zon (a := 35) zln_35) (zon (a := 36) zln_36)) (zsp 38 (zon (a := 37) zln_37) (zon (a := 38) zln_38))))) (zsp 46 (zsp 42 (zsp 40 (zon (a := 39) zln_39) (zsp 41 (zon (a := 40) zln_40) (zon (a := 41) zln_41))) (zsp 44 (zsp 43 (zon (a := 42) zln_42) (zon (a := 43) zln_43)) (zsp 45 (zon (a := 44) zln_44) (zon (a := 45) zln_45)))) (zsp 49 (zsp 47 (zon (a := 46) zln_46) (zsp 48 (zon (a := 47) zln_47) (zon (a := 48) zln_48))) (zsp 51 (zsp 50 (zon (a := 49) zln_49) (zon (a := 50) zln_50)) (zsp 52 (zon (a := 51) zln_51) (zon (a := 52) zln_52))))))) (zsp 79 (zsp 66 (zsp 59 (zsp 56 (zsp 54 (zon (a := 53) zln_53) (zsp 55 (zon (a := 54) zln_54) (zon (a := 55) zln_55))) (zsp 57 (zon (a := 56) zln_56) (zsp 58 (zon (a := 57) zln_57) (zon (a := 58) zln_58)))) (zsp 62 (zsp 60 (zon (a := 59) zln_59) (zsp 61 (zon (a := 60) zln_60) (zon (a := 61) zln_61))) (zsp 64 (zsp 63 (zon (a := 62) zln_62) (zon (a := 63) zln_63)) (zsp 65 (zon (a := 64) zln_64) (zon (a := 65) zln_65))))) (zsp 72 (zsp 69 (zsp 67 (zon (a := 66) zln_66) (zsp 68 (zon (a := 67) zln_67) (zon (a := 68) zln_68))) (zsp 70 (zon (a := 69) zln_69) (zsp 71 (zon (a := 70) zln_70) (zon (a := 71) zln_71)))) (zsp 75 (zsp 73 (zon (a := 72) zln_72) (zsp 74 (zon (a := 73) zln_73) (zon (a := 74) zln_74))) (zsp 77 (zsp 76 (zon (a := 75) zln_75) (zon (a := 76) zln_76)) (zsp 78 (zon (a := 77) zln_77) (zon (a := 78) zln_78)))))) (zsp 92 (zsp 85 (zsp 82 (zsp 80 (zon (a := 79) zln_79) (zsp 81 (zon (a := 80) zln_80) (zon (a := 81) zln_81))) (zsp 83 (zon (a := 82) zln_82) (zsp 84 (zon (a := 83) zln_83) (zon (a := 84) zln_84)))) (zsp 88 (zsp 86 (zon (a := 85) zln_85) (zsp 87 (zon (a := 86) zln_86) (zon (a := 87) zln_87))) (zsp 90 (zsp 89 (zon (a := 88) zln_88) (zon (a := 89) zln_89)) (zsp 91 (zon (a := 90) zln_90) (zon (a := 91) zln_91))))) (zsp 99 (zsp 95 (zsp 93 (zon (a := 92) zln_92) (zsp 94 (zon (a := 93) zln_93) (zon (a := 94) zln_94))) (zsp 97 (zsp 96 (zon (a := 95) zln_95) (zon (a := 96) zln_96)) (zsp 98 (zon (a := 97) zln_97) (zon (a := 98) zln_98)))) (zsp 102 (zsp 100 (zon (a := 99) zln_99) (zsp 101 (zon (a := 100) zln_100) (zon (a := 101) zln_101))) (zsp 104 (zsp 103 (zon (a := 102) zln_102) (zon (a := 103) zln_103)) (zsp 105 (zon (a := 104) zln_104) (zon (a := 105) zln_105)))))))) (zsp 159 (zsp 132 (zsp 119 (zsp 112 (zsp 109 (zsp 107 (zon (a := 106) zln_106) (zsp 108 (zon (a := 107) zln_107) (zon (a := 108) zln_108))) (zsp 110 (zon (a := 109) zln_109) (zsp 111 (zon (a := 110) zln_110) (zon (a := 111) zln_111)))) (zsp 115 (zsp 113 (zon (a := 112) zln_112) (zsp 114 (zon (a := 113) zln_113) (zon (a := 114) zln_114))) (zsp 117 (zsp 116 (zon (a := 115) zln_115) (zon (a := 116) zln_116)) (zsp 118 (zon (a := 117) zln_117) (zon (a := 118) zln_118))))) (zsp 125 (zsp 122 (zsp 120 (zon (a := 119) zln_119) (zsp 121 (zon (a := 120) zln_120) (zon (a := 121) zln_121))) (zsp 123 (zon (a := 122) zln_122) (zsp 124 (zon (a := 123) zln_123) (zon (a := 124) zln_124)))) (zsp 128 (zsp 126 (zon (a := 125) zln_125) (zsp 127 (zon (a := 126) zln_126) (zon (a := 127) zln_127))) (zsp 130 (zsp 129 (zon (a := 128) zln_128) (zon (a := 129) zln_129)) (zsp 131 (zon (a := 130) zln_130) (zon (a := 131) zln_131)))))) (zsp 145 (zsp 138 (zsp 135 (zsp 133 (zon (a := 132) zln_132) (zsp 134 (zon (a := 133) zln_133) (zon (a := 134) zln_134))) (zsp 136 (zon (a := 135) zln_135) (zsp 137 (zon (a := 136) zln_136) (zon (a := 137) zln_137)))) (zsp 141 (zsp 139 (zon (a := 138) zln_138) (zsp 140 (zon (a := 139) zln_139) (zon (a := 140) zln_140))) (zsp 143 (zsp 142 (zon (a := 141) zln_141) (zon (a := 142) zln_142)) (zsp 144 (zon (a := 143) zln_143) (zon (a := 144) zln_144))))) (zsp 152 (zsp 148 (zsp 146 (zon (a := 145) zln_145) (zsp 147 (zon (a := 146) zln_146) (zon (a := 147) zln_147))) (zsp 150 (zsp 149 (zon (a := 148) zln_148) (zon (a := 149) zln_149)) (zsp 151 (zon (a := 150) zln_150) (zon (a := 151) zln_151)))) (zsp 155 (zsp 153 (zon (a := 152) zln_152) (zsp 154 (zon (a := 153) zln_153) (zon (a := 154) zln_154))) (zsp 157 (zsp 156 (zon (a := 155) zln_155) (zon (a := 156) zln_156)) (zsp 158 (zon (a := 157) zln_157) (zon (a := 158) zln_158))))))) (zsp 186 (zsp 172 (zsp 165 (zsp 162 (zsp 160 (zon (a := 159) zln_159) (zsp 161 (zon (a := 160) zln_160) (zon (a := 161) zln_161))) (zsp 163 (zon (a := 162) zln_162) (zsp 164 (zon (a := 163) zln_163) (zon (a := 164) zln_164)))) (zsp 168 (zsp 166 (zon (a := 165) zln_165) (zsp 167 (zon (a := 166) zln_166) (zon (a := 167) zln_167))) (zsp 170 (zsp 169 (zon (a := 168) zln_168) (zon (a := 169) zln_169)) (zsp 171 (zon (a := 170) zln_170) (zon (a := 171) zln_171))))) (zsp 179 (zsp 175 (zsp 173 (zon (a := 172) zln_172) (zsp 174 (zon (a := 173) zln_173) (zon (a := 174) zln_174))) (zsp 177 (zsp 176 (zon (a := 175) zln_175) (zon (a := 176) zln_176)) (zsp 178 (zon (a := 177) zln_177) (zon (a := 178) zln_178)))) (zsp 182 (zsp 180 (zon (a := 179) zln_179) (zsp 181 (zon (a := 180) zln_180) (zon (a := 181) zln_181))) (zsp 184 (zsp 183 (zon (a := 182) zln_182) (zon (a := 183) zln_183)) (zsp 185 (zon (a := 184) zln_184) (zon (a := 185) zln_185)))))) (zsp 199 (zsp 192 (zsp 189 (zsp 187 (zon (a := 186) zln_186) (zsp 188 (zon (a := 187) zln_187) (zon (a := 188) zln_188))) (zsp 190 (zon (a := 189) zln_189) (zsp 191 (zon (a := 190) zln_190) (zon (a := 191) zln_191)))) (zsp 195 (zsp 193 (zon (a := 192) zln_192) (zsp 194 (zon (a := 193) zln_193) (zon (a := 194) zln_194))) (zsp 197 (zsp 196 (zon (a := 195) zln_195) (zon (a := 196) zln_196)) (zsp 198 (zon (a := 197) zln_197) (zon (a := 198) zln_198))))) (zsp 206 (zsp 202 (zsp 200 (zon (a := 199) zln_199) (zsp 201 (zon (a := 200) zln_200) (zon (a := 201) zln_201))) (zsp 204 (zsp 203 (zon (a := 202) zln_202) (zon (a := 203) zln_203)) (zsp 205 (zon (a := 204) zln_204) (zon (a := 205) zln_205)))) (zsp 209 (zsp 207 (zon (a := 206) zln_206) (zsp 208 (zon (a := 207) zln_207) (zon (a := 208) zln_208))) (zsp 211 (zsp 210 (zon (a := 209) zln_209) (zon (a := 210) zln_210)) (zsp 212 (zon (a := 211) zln_211) (zon (a := 212) zln_212)))))))))
theorem zln_of {mi pc : Nat} {r : Instr × Nat} (hm : mi < 213) (h : zcode mi pc = some r) : pc < zln mi := zln_all mi (Nat.zero_le _) hm pc r h
end
section
/-! THE WORLD of the abstract state: its cells, their contents, what is frozen; locals and stacks -/
abbrev ZPh : Type := Nat → Nat → Nat
def zv (φ : ZPh) : ZV → Value
  | .inl x => .int x
  | .inr (.inl x) => .long x
  | .inr (.inr none) => .null
  | .inr (.inr (some r)) => .ref (φ r.1 r.2)
def zof (φ : ZPh) (o : Option ZR) : Option Nat := match o with
  | none => none
  | some r => some (φ r.1 r.2)
theorem zv_o (φ : ZPh) (o : Option ZR) : zv φ (.inr (.inr o)) = va_rf (zof φ o) := by
  cases o <;> rfl
/-- the value of a field -/
def zav (S : ZS) (t i f : Nat) : ZV := match zfkd t f with
  | 1 => .inr (.inl (S.2.1 t i f))
  | 2 => .inr (.inr (zfin t f i))
  | 3 => .inr (.inr (S.2.2.1 t i f))
  | 5 => .inl (zwv i)
  | _ => .inl (S.1 t i f)
def zfs (φ : ZPh) (S : ZS) (t i : Nat) : List Value := (List.range (zcN t)).map (fun f => zv φ (zav S t i f))
def zarr (φ : ZPh) (S : ZS) (t i : Nat) : (Nat → Int32) ⊕ (Nat → Int64) ⊕ (Nat → UInt32) ⊕ (Nat → UInt64) ⊕ (Nat → Option Nat) := match zaty t with
  | 3 => .inr (.inl (S.2.1 t i))
  | 4 => .inr (.inr (.inr (.inr (fun k => zof φ (S.2.2.1 t i k)))))
  | _ => .inl (S.1 t i)
def zce (φ : ZPh) (cA : Nat → ClassId) (S : ZS) (t i : Nat) : va_E :=
  if t < 12 then .inr (t, zfs φ S t i) else .inl (cA (zaty t), zaln t, zarr φ S t i)
def zw (φ : ZPh) (cA : Nat → ClassId) (S : ZS) : va_W := (zids S.2.2.2.1).map (fun q => (φ q.1 q.2, zce φ cA S q.1 q.2))
def zty (cA : Nat → ClassId) : List (ClassId × FieldType) := [(cA 0, .int), (cA 1, .boolean), (cA 2, .char), (cA 3, .long), (cA 4, .object "TownExchange$Line")]
def zvr (n : Nat) (r : ZR) : Prop := r.2 < zct n r.1
def zvo (n : Nat) (o : Option ZR) : Prop := ∀ r, o = some r → zvr n r
def zvv (n : Nat) (v : ZV) : Prop := match v with
  | .inr (.inr o) => zvo n o
  | _ => True
def zDv (S : ZS) : Prop := ∀ t i k, zvo S.2.2.2.1 (S.2.2.1 t i k)
theorem zlids_mem : ∀ (n i : Nat), i < n → (2, i) ∈ zlids n ∧ (29, i) ∈ zlids n ∧ (30, i) ∈ zlids n
  | 0, i, h => absurd h (Nat.not_lt_zero i)
  | n + 1, i, h => by
    unfold zlids
    simp only [List.mem_append]
    by_cases hi : i = n
    · subst hi
      exact ⟨Or.inr (by simp), Or.inr (by simp), Or.inr (by simp)⟩
    · obtain ⟨a, b, c⟩ := zlids_mem n i (by omega)
      exact ⟨Or.inl a, Or.inl b, Or.inl c⟩
theorem zlids_in : ∀ (n : Nat) (q : Nat × Nat), q ∈ zlids n → (q.1 = 2 ∨ q.1 = 29 ∨ q.1 = 30) ∧ q.2 < n
  | 0, q, h => by simp [zlids] at h
  | n + 1, q, h => by
    unfold zlids at h
    rcases List.mem_append.mp h with h | h
    · obtain ⟨a, b⟩ := zlids_in n q h
      exact ⟨a, by omega⟩
    · simp only [List.mem_cons, List.not_mem_nil, or_false] at h
      rcases h with h | h | h <;> subst h <;> simp
theorem zlids_nodup : ∀ n : Nat, (zlids n).Nodup
  | 0 => List.nodup_nil
  | n + 1 => by
    unfold zlids
    refine List.nodup_append.mpr ⟨zlids_nodup n, by simp, fun a ha b hb => ?_⟩
    obtain ⟨-, h2⟩ := zlids_in n a ha
    simp only [List.mem_cons, List.not_mem_nil, or_false] at hb
    intro e
    subst e
    rcases hb with h | h | h <;> rw [h] at h2 <;> exact absurd h2 (Nat.lt_irrefl n)
theorem zids_nodup (n : Nat) : (zids n).Nodup := by
  refine List.nodup_append.mpr ⟨zbase_nodup, zlids_nodup n, fun a ha b hb => ?_⟩
  obtain ⟨h1, -⟩ := zlids_in n b hb
  obtain ⟨-, -, h3, h4, h5⟩ := zbase_in a ha
  intro e
  subst e
  rcases h1 with h | h | h
  · exact h3 h
  · exact h4 h
  · exact h5 h
theorem zct_2 (n : Nat) : zct n 2 = n ∧ zct n 29 = n ∧ zct n 30 = n := ⟨rfl, rfl, rfl⟩
theorem zids_mem {n t i : Nat} (hw : zwt t = true) (h : i < zct n t) : (t, i) ∈ zids n := by
  by_cases hb : t < zMT
  · by_cases h2 : t = 2 ∨ t = 29 ∨ t = 30
    · refine List.mem_append_right _ ?_
      rcases h2 with rfl | rfl | rfl
      · exact (zlids_mem n i h).1
      · exact (zlids_mem n i h).2.1
      · exact (zlids_mem n i h).2.2
    · refine List.mem_append_left _ ?_
      have e : zct n t = zct 0 t := by
        rcases zct_n n t hb with e | e | e | e
        · exact absurd (Or.inl e) h2
        · exact absurd (Or.inr (Or.inl e)) h2
        · exact absurd (Or.inr (Or.inr e)) h2
        · exact e
      rw [e] at h
      rcases zbase_all t hb with e | e | e | e | e
      · exact absurd (Or.inl e) h2
      · exact absurd (Or.inr (Or.inl e)) h2
      · exact absurd (Or.inr (Or.inr e)) h2
      · rw [hw] at e; cases e
      · exact e i h
  · rw [zct_big n t (Nat.not_lt.mp hb)] at h
    exact absurd h (Nat.not_lt_zero i)
theorem zids_valid {n : Nat} {q : Nat × Nat} (h : q ∈ zids n) : zvr n q ∧ zwt q.1 = true := by
  rcases List.mem_append.mp h with h | h
  · obtain ⟨a, b, c, d, e⟩ := zbase_in q h
    refine ⟨?_, b⟩
    unfold zvr
    by_cases hb : q.1 < zMT
    · rcases zct_n n q.1 hb with e1 | e1 | e1 | e1
      · exact absurd e1 c
      · exact absurd e1 d
      · exact absurd e1 e
      · rw [e1]; exact a
    · rw [zct_big 0 q.1 (Nat.not_lt.mp hb)] at a
      exact absurd a (Nat.not_lt_zero _)
  · obtain ⟨h1, h2⟩ := zlids_in n q h
    unfold zvr
    obtain ⟨t, i⟩ := q
    rcases h1 with h1 | h1 | h1 <;> dsimp only at h1 h2 ⊢ <;> subst h1 <;> exact ⟨h2, rfl⟩
theorem zw_at {φ : ZPh} {cA : Nat → ClassId} {S : ZS} {t i : Nat} (hw : zwt t = true) (h : i < zct S.2.2.2.1 t) :
    ∃ k : Nat, (zids S.2.2.2.1)[k]? = some (t, i) ∧ (zw φ cA S)[k]? = some (φ t i, zce φ cA S t i) := by
  obtain ⟨k, hk⟩ := List.getElem?_of_mem (zids_mem hw h)
  exact ⟨k, hk, by unfold zw; rw [List.getElem?_map, hk]; rfl⟩
theorem zw_set {φ : ZPh} {cA : Nat → ClassId} {S S' : ZS} {t i k : Nat} (hk : (zids S.2.2.2.1)[k]? = some (t, i)) (hn : S'.2.2.2.1 = S.2.2.2.1)
    (hs : ∀ t' i' : Nat, (t', i') ≠ (t, i) → zce φ cA S' t' i' = zce φ cA S t' i') : (zw φ cA S).set k (φ t i, zce φ cA S' t i) = zw φ cA S' := by
  refine List.ext_getElem? fun j => ?_
  unfold zw
  rw [hn]
  have hkl := (List.getElem?_eq_some_iff.mp hk).1
  by_cases hj : j = k
  · subst hj
    rw [List.getElem?_set_self (by rw [List.length_map]; exact hkl), List.getElem?_map, hk]
    rfl
  · rw [List.getElem?_set_ne (Ne.symm hj), List.getElem?_map, List.getElem?_map]
    cases hq : (zids S.2.2.2.1)[j]? with
    | none => rfl
    | some q =>
      obtain ⟨t', i'⟩ := q
      have hne : (t', i') ≠ (t, i) := fun e => hj ((List.getElem?_inj (List.getElem?_eq_some_iff.mp hq).1 (zids_nodup _)).mp (by rw [hq, hk, e]))
      show some (φ t' i', zce φ cA S t' i') = some (φ t' i', zce φ cA S' t' i')
      rw [hs t' i' hne]
theorem zfs_get {φ : ZPh} {S : ZS} {t i f : Nat} (hf : f < zcN t) : (zfs φ S t i)[f]? = some (zv φ (zav S t i f)) := by
  unfold zfs
  rw [List.getElem?_map, List.getElem?_range hf]
  rfl
theorem zfs_len (φ : ZPh) (S : ZS) (t i : Nat) : (zfs φ S t i).length = zcN t := by
  unfold zfs
  rw [List.length_map, List.length_range]
theorem zfs_set {φ : ZPh} {S S' : ZS} {t i f : Nat} (hs : ∀ g, g ≠ f → zav S' t i g = zav S t i g) : (zfs φ S t i).set f (zv φ (zav S' t i f)) = zfs φ S' t i := by
  refine List.ext_getElem? fun j => ?_
  by_cases hj : j < zcN t
  · by_cases hjf : j = f
    · subst hjf
      rw [List.getElem?_set_self (by rw [zfs_len]; exact hj), zfs_get hj]
    · rw [List.getElem?_set_ne (Ne.symm hjf), zfs_get hj, zfs_get hj, hs j hjf]
  · rw [List.getElem?_eq_none (by rw [List.length_set, zfs_len]; omega), List.getElem?_eq_none (by rw [zfs_len]; omega)]
/-! locals -/
def zlv (φ : ZPh) : Nat → ZL → List (Nat × Value)
  | _, [] => []
  | k, none :: r => zlv φ (k + 1) r
  | k, some v :: r => (k, zv φ v) :: zlv φ (k + 1) r
theorem zlv_mem (φ : ZPh) : ∀ (l : ZL) (k : Nat) (q : Nat × Value), q ∈ zlv φ k l ↔ ∃ (j : Nat) (v : ZV), zget j l = some v ∧ q = (k + j, zv φ v)
  | [], k, q => by
    simp only [zlv, List.not_mem_nil, false_iff]
    rintro ⟨j, v, h, -⟩
    cases j <;> simp [zget] at h
  | none :: r, k, q => by
    simp only [zlv]
    rw [zlv_mem φ r (k + 1) q]
    constructor
    · rintro ⟨j, v, h, rfl⟩
      exact ⟨j + 1, v, h, by rw [Nat.add_right_comm]; rfl⟩
    · rintro ⟨j, v, h, rfl⟩
      cases j with
      | zero => simp [zget] at h
      | succ j => exact ⟨j, v, h, by rw [Nat.add_right_comm]; rfl⟩
  | some w :: r, k, q => by
    simp only [zlv, List.mem_cons]
    rw [zlv_mem φ r (k + 1) q]
    constructor
    · rintro (rfl | ⟨j, v, h, rfl⟩)
      · exact ⟨0, w, rfl, rfl⟩
      · exact ⟨j + 1, v, h, by rw [Nat.add_right_comm]; rfl⟩
    · rintro ⟨j, v, h, rfl⟩
      cases j with
      | zero =>
        simp only [zget, Option.some.injEq] at h
        subst h
        exact Or.inl rfl
      | succ j => exact Or.inr ⟨j, v, h, by rw [Nat.add_right_comm]; rfl⟩
def zLo (φ : ZPh) (n nL : Nat) (ls : Array Slot) (l : ZL) : Prop := lv_has ls nL (zlv φ 0 l) ∧ l.length = nL ∧ ∀ (j : Nat) (v : ZV), zget j l = some v → zvv n v
def zSk (n : Nat) (st : List ZV) : Prop := ∀ v ∈ st, zvv n v
theorem zLo.get {φ : ZPh} {n nL i : Nat} {ls : Array Slot} {l : ZL} {v : ZV} (h : zLo φ n nL ls l) (hv : zget i l = some v) : ls[i]? = some (.val (zv φ v)) := by
  have hm : (i, zv φ v) ∈ zlv φ 0 l := (zlv_mem φ l 0 _).mpr ⟨i, v, hv, by rw [Nat.zero_add]⟩
  exact h.1.2.2 _ hm
theorem zget_some_lt : ∀ {l : ZL} {i : Nat} {v : ZV}, zget i l = some v → i < l.length
  | [], i, v, h => by cases i <;> simp [zget] at h
  | _ :: r, 0, v, _ => Nat.zero_lt_succ _
  | _ :: r, i + 1, v, h => Nat.succ_lt_succ (zget_some_lt (l := r) h)
theorem zset_len : ∀ (i : Nat) (v : ZV) (l : ZL), (zset i v l).length = l.length
  | 0, v, [] => rfl
  | 0, v, _ :: r => rfl
  | 1, v, [] => rfl
  | 1, v, [_] => rfl
  | 1, v, _ :: _ :: r => rfl
  | i + 2, v, [] => rfl
  | i + 2, v, a :: r => by
    show (zset (i + 1) v r).length + 1 = r.length + 1
    rw [zset_len (i + 1) v r]
def zlong (v : ZV) : Bool := match v with
  | .inr (.inl _) => true
  | _ => false
theorem zset_get : ∀ (i : Nat) (v : ZV) (l : ZL) (j : Nat) (w : ZV), zget j (zset i v l) = some w → (j = i ∧ w = v) ∨ (j ≠ i ∧ zget j l = some w ∧ ¬ (j + 1 = i ∧ zlong w = true)) ∨ (l.length ≤ i ∧ zget j l = some w)
  | 0, v, [], j, w, h => Or.inr (Or.inr ⟨Nat.zero_le _, h⟩)
  | 0, v, a :: r, 0, w, h => by
    simp only [zset, zget, Option.some.injEq] at h
    exact Or.inl ⟨rfl, h.symm⟩
  | 0, v, a :: r, j + 1, w, h => Or.inr (Or.inl ⟨by omega, h, fun e => by omega⟩)
  | 1, v, [], j, w, h => Or.inr (Or.inr ⟨Nat.zero_le _, h⟩)
  | 1, v, [a], j, w, h => Or.inr (Or.inr ⟨Nat.le_refl _, h⟩)
  | 1, v, a :: b :: r, 0, w, h => by
    simp only [zset, zget] at h
    refine Or.inr (Or.inl ⟨by omega, ?_, ?_⟩)
    · unfold zunl at h
      split at h
      · cases h
      · exact h
    · rintro ⟨-, hw⟩
      unfold zunl at h
      split at h
      · cases h
      · rename_i hne
        subst h
        unfold zlong at hw
        split at hw
        · rename_i x
          exact hne x rfl
        · cases hw
  | 1, v, a :: b :: r, 1, w, h => by
    simp only [zset, zget, Option.some.injEq] at h
    exact Or.inl ⟨rfl, h.symm⟩
  | 1, v, a :: b :: r, j + 2, w, h => Or.inr (Or.inl ⟨by omega, h, fun e => by omega⟩)
  | i + 2, v, [], j, w, h => Or.inr (Or.inr ⟨Nat.zero_le _, h⟩)
  | i + 2, v, a :: r, 0, w, h => by
    by_cases hi : i + 2 = 1
    · omega
    · exact Or.inr (Or.inl ⟨by omega, h, fun e => by omega⟩)
  | i + 2, v, a :: r, j + 1, w, h => by
    rcases zset_get (i + 1) v r j w h with ⟨h1, h2⟩ | ⟨h1, h2, h3⟩ | ⟨h1, h2⟩
    · exact Or.inl ⟨by omega, h2⟩
    · exact Or.inr (Or.inl ⟨by omega, h2, fun e => h3 ⟨by omega, e.2⟩⟩)
    · exact Or.inr (Or.inr ⟨by simp only [List.length_cons]; omega, h2⟩)
theorem zv_cat (φ : ZPh) (v : ZV) : (zv φ v).category = if zlong v = true then 2 else 1 := by
  rcases v with x | x | (_ | r) <;> rfl
theorem zLo.set {φ : ZPh} {n nL i : Nat} {ls ls' : Array Slot} {l : ZL} {v : ZV} (h : zLo φ n nL ls l) (hi : i < nL) (hv : zvv n v)
    (h' : lv_has ls' nL ((i, zv φ v) :: (zlv φ 0 l).filter (fun q => !(q.1 == i) && !(q.1 + 1 == i && q.2.category == 2)))) : zLo φ n nL ls' (zset i v l) := by
  obtain ⟨h1, h2, h3⟩ := h
  refine ⟨⟨h'.1, h'.2.1, fun q hq => ?_⟩, by rw [zset_len]; exact h2, fun j w hw => ?_⟩
  · obtain ⟨j, w, hw, rfl⟩ := (zlv_mem φ _ 0 q).mp hq
    rw [Nat.zero_add]
    rcases zset_get i v l j w hw with ⟨rfl, rfl⟩ | ⟨a, b, c⟩ | ⟨a, b⟩
    · exact h'.2.2 _ List.mem_cons_self
    · refine h'.2.2 _ (List.mem_cons_of_mem _ (List.mem_filter.mpr ⟨(zlv_mem φ l 0 _).mpr ⟨j, w, b, by rw [Nat.zero_add]⟩, ?_⟩))
      rw [zv_cat]
      simp only [Bool.and_eq_true, Bool.not_eq_true', beq_eq_false_iff_ne, ne_eq, Bool.and_eq_false_iff]
      refine ⟨a, ?_⟩
      by_cases hw2 : zlong w = true
      · exact Or.inl fun e => c ⟨e, hw2⟩
      · right; rw [if_neg hw2]; decide
    · omega
  · rcases zset_get i v l j w hw with ⟨rfl, rfl⟩ | ⟨a, b, c⟩ | ⟨a, b⟩
    · exact hv
    · exact h3 j w b
    · exact h3 j w b
theorem zget_set_none : ∀ (l : ZL) (i j : Nat) (w : ZV), zget j (l.set i none) = some w → j ≠ i ∧ zget j l = some w
  | [], i, j, w, h => by cases j <;> simp [zget] at h
  | a :: r, 0, 0, w, h => by simp [zget] at h
  | a :: r, 0, j + 1, w, h => ⟨by omega, h⟩
  | a :: r, i + 1, 0, w, h => ⟨by omega, h⟩
  | a :: r, i + 1, j + 1, w, h => by
    obtain ⟨h1, h2⟩ := zget_set_none r i j w h
    exact ⟨by omega, h2⟩
theorem zLo.setl {φ : ZPh} {n nL i : Nat} {ls ls' : Array Slot} {l : ZL} {v : ZV} (h : zLo φ n nL ls l) (hi : i + 1 < nL) (hv : zvv n v)
    (h' : lv_has ls' nL ((i, zv φ v) :: (zlv φ 0 l).filter (fun q => !(q.1 == i) && (!(q.1 == i + 1) && !(q.1 + 1 == i && q.2.category == 2))))) : zLo φ n nL ls' (zsetl i v l) := by
  obtain ⟨h1, h2, h3⟩ := h
  unfold zsetl
  refine ⟨⟨h'.1, h'.2.1, fun q hq => ?_⟩, by rw [List.length_set, zset_len]; exact h2, fun j w hw => ?_⟩
  · obtain ⟨j, w, hw, rfl⟩ := (zlv_mem φ _ 0 q).mp hq
    obtain ⟨hn, hw⟩ := zget_set_none _ _ _ _ hw
    rw [Nat.zero_add]
    rcases zset_get i v l j w hw with ⟨rfl, rfl⟩ | ⟨a, b, c⟩ | ⟨a, b⟩
    · exact h'.2.2 _ List.mem_cons_self
    · refine h'.2.2 _ (List.mem_cons_of_mem _ (List.mem_filter.mpr ⟨(zlv_mem φ l 0 _).mpr ⟨j, w, b, by rw [Nat.zero_add]⟩, ?_⟩))
      rw [zv_cat]
      simp only [Bool.and_eq_true, Bool.not_eq_true', beq_eq_false_iff_ne, ne_eq, Bool.and_eq_false_iff]
      refine ⟨a, hn, ?_⟩
      by_cases hw2 : zlong w = true
      · exact Or.inl fun e => c ⟨e, hw2⟩
      · right; rw [if_neg hw2]; decide
    · omega
  · obtain ⟨hn, hw⟩ := zget_set_none _ _ _ _ hw
    rcases zset_get i v l j w hw with ⟨rfl, rfl⟩ | ⟨a, b, c⟩ | ⟨a, b⟩
    · exact hv
    · exact h3 j w b
    · exact h3 j w b
/-! what is frozen -/
def zwnm : List String := ["ZONE", "HOUR", "DAY", "LASTED", "UNITS", "LINE", "LET", "UNIT", "EACH", "WHEN", "AND", "OR", "NOT"]
/-- strings: to be said by the string kit -/
def zStr (φ : ZPh) (A : Nat → Prop) (U : State) (H : Heap) : Prop := True
/-- the script: its length and its contents -/
def zFz (φ : ZPh) (L : Nat) (xs : Nat → Int32) (A : Nat → Prop) (U : State) (H : Heap) : Prop :=
  va_En "TownExchange$Word" "LTownExchange$Word;" zwnm [("TownExchange$Word", "value", "I", [0, 1, 2, 3, 4, 5, -1, -1, -1, -1, -1, -1, -1])] (φ 12) A U H ∧
  va_Ef 13 "TownExchange$Word" "text" "Ljava/lang/String;" (fun i => .ref (φ 13 i)) (φ 12) A U H ∧
  va_Z "TownExchange$Word" "ALL" "[LTownExchange$Word;" (.ref (φ 14 0)) A U H ∧ va_T (.object "TownExchange$Word") (φ 14 0) 13 (fun j => .ref (φ 12 j)) A U H ∧
  va_Z "TownExchange" "TENS" "[I" (.ref (φ 15 0)) A U H ∧ va_T .int (φ 15 0) 5 (fun j => .int (zten j)) A U H ∧
  va_T .int (φ 16 0) L (fun j => .int (xs j)) A U H ∧ L < 2 ^ 31 ∧ zStr φ A U H
theorem zFz.moved {φ : ZPh} {L : Nat} {xs : Nat → Int32} {A : Nat → Prop} {u U : State} {H : Heap} (hvm : u.vm.Alike U.vm) (h : zFz φ L xs A u H) : zFz φ L xs A U H := by
  obtain ⟨h1, h2, h3, h4, h5, h6, h7, h8, h9⟩ := h
  exact ⟨h1.moved hvm, h2.moved hvm, h3.moved hvm, h4.moved hvm, h5.moved hvm, h6.moved hvm, h7.moved hvm, h8, h9⟩
theorem zFz.kept {φ : ZPh} {L : Nat} {xs : Nat → Int32} {A : Nat → Prop} {U : State} {H H1 : Heap} (h : zFz φ L xs A U H) (hq : ∀ a : Nat, a < H.size → ¬ A a → H1[a]? = H[a]?) : zFz φ L xs A U H1 := by
  obtain ⟨h1, h2, h3, h4, h5, h6, h7, h8, h9⟩ := h
  exact ⟨h1.kept hq, h2.kept hq, h3.kept hq, h4.kept hq, h5.kept hq, h6.kept hq, h7.kept hq, h8, h9⟩
theorem va_Z.lt {C n d : String} {v : Value} {A : Nat → Prop} {U : State} {H : Heap} {B : Nat → Prop} (h : va_Z C n d v A U H) (hAB : ∀ q : Nat, q < H.size → B q → A q) : va_Z C n d v B U H := by
  obtain ⟨cf, kf, fi, f, a, cell, h1, h2, h3, h4, h5, h6, h7, h8⟩ := h
  exact ⟨cf, kf, fi, f, a, cell, h1, h2, h3, h4, h5, h6, h7, fun z => h8 (hAB a (Array.getElem?_eq_some_iff.mp h5).1 z)⟩
theorem va_T.lt {ty : FieldType} {t N : Nat} {f : Nat → Value} {A B : Nat → Prop} {U : State} {H : Heap} (h : va_T ty t N f A U H) (hAB : ∀ q : Nat, q < H.size → B q → A q) : va_T ty t N f B U H := by
  obtain ⟨cell, h1, h2, h3, h4, h5, h6, h7⟩ := h
  exact ⟨cell, h1, h2, h3, h4, h5, h6, fun z => h7 (hAB t (Array.getElem?_eq_some_iff.mp h1).1 z)⟩
theorem va_OF.lt {o n d : String} {v : Value} {t : Nat} {A B : Nat → Prop} {U : State} {H : Heap} (h : va_OF o n d v t A U H) (hAB : ∀ q : Nat, q < H.size → B q → A q) : va_OF o n d v t B U H := by
  obtain ⟨cf, k, i, f, cell, h1, h2, h3, h4, h5, h6⟩ := h
  exact ⟨cf, k, i, f, cell, h1, h2, h3, h4, h5, fun z => h6 (hAB t (Array.getElem?_eq_some_iff.mp h3).1 z)⟩
theorem va_O.lt {E : String} {t : Nat} {A B : Nat → Prop} {U : State} {H : Heap} (h : va_O E t A U H) (hAB : ∀ q : Nat, q < H.size → B q → A q) : va_O E t B U H := by
  obtain ⟨cell, h1, h2, h3, h4⟩ := h
  exact ⟨cell, h1, h2, h3, fun z => h4 (hAB t (Array.getElem?_eq_some_iff.mp h1).1 z)⟩
/-- cells that are not there yet don't matter -/
theorem zFz.narrow {φ : ZPh} {L : Nat} {xs : Nat → Int32} {A B : Nat → Prop} {U : State} {H : Heap} (h : zFz φ L xs A U H) (hAB : ∀ q : Nat, q < H.size → B q → A q) : zFz φ L xs B U H := by
  obtain ⟨h1, h2, h3, h4, h5, h6, h7, h8, h9⟩ := h
  exact ⟨⟨fun i hi => ⟨(h1.1 i hi).1.lt hAB, (h1.1 i hi).2.1.lt hAB, fun q h => ((h1.1 i hi).2.2 q h).lt hAB⟩, h1.2⟩, fun i hi => (h2 i hi).lt hAB, h3.lt hAB, h4.lt hAB, h5.lt hAB, h6.lt hAB, h7.lt hAB, h8, h9⟩
/-- more lines, the rest the same -/
def zEx (n : Nat) (φ φ' : ZPh) : Prop := (∀ t, t ≠ 2 → t ≠ 29 → t ≠ 30 → φ' t = φ t) ∧ ∀ t i, i < zct n t → φ' t i = φ t i
theorem zEx.rf (n : Nat) (φ : ZPh) : zEx n φ φ := ⟨fun _ _ _ _ => rfl, fun _ _ _ => rfl⟩
theorem zFz.ex {n : Nat} {φ φ' : ZPh} {L : Nat} {xs : Nat → Int32} {A : Nat → Prop} {U : State} {H : Heap} (hE : zEx n φ φ') (h : zFz φ L xs A U H) : zFz φ' L xs A U H := by
  obtain ⟨h1, h2, h3, h4, h5, h6, h7, h8, h9⟩ := h
  have e := hE.1
  unfold zFz
  rw [e 12 (by decide) (by decide) (by decide), e 13 (by decide) (by decide) (by decide), e 14 (by decide) (by decide) (by decide), e 15 (by decide) (by decide) (by decide), e 16 (by decide) (by decide) (by decide)]
  exact ⟨h1, h2, h3, h4, h5, h6, h7, h8, trivial⟩
end
section
/-! INSTRUCTIONS: what the abstract machine does, the machine does -/
section INV
variable {α β : Type}
theorem zli_inv {n : Nat} {ls : ZL} {k : Int32 → Option α} {r : α} (h : zli n ls k = some r) : ∃ x, zget n ls = some (.inl x) ∧ k x = some r := by
  unfold zli at h
  split at h
  · rename_i x hx; exact ⟨x, hx, h⟩
  · cases h
theorem zll_inv {n : Nat} {ls : ZL} {k : Int64 → Option α} {r : α} (h : zll n ls k = some r) : ∃ x, zget n ls = some (.inr (.inl x)) ∧ k x = some r := by
  unfold zll at h
  split at h
  · rename_i x hx; exact ⟨x, hx, h⟩
  · cases h
theorem zlo_inv {n : Nat} {ls : ZL} {k : Option ZR → Option α} {r : α} (h : zlo n ls k = some r) : ∃ x, zget n ls = some (.inr (.inr x)) ∧ k x = some r := by
  unfold zlo at h
  split at h
  · rename_i x hx; exact ⟨x, hx, h⟩
  · cases h
theorem zpi_inv {st : List ZV} {k : Int32 → List ZV → Option α} {r : α} (h : zpi st k = some r) : ∃ x t, st = .inl x :: t ∧ k x t = some r := by
  unfold zpi at h
  split at h
  · exact ⟨_, _, rfl, h⟩
  · cases h
theorem zpl_inv {st : List ZV} {k : Int64 → List ZV → Option α} {r : α} (h : zpl st k = some r) : ∃ x t, st = .inr (.inl x) :: t ∧ k x t = some r := by
  unfold zpl at h
  split at h
  · exact ⟨_, _, rfl, h⟩
  · cases h
theorem zpo_inv {st : List ZV} {k : Option ZR → List ZV → Option α} {r : α} (h : zpo st k = some r) : ∃ x t, st = .inr (.inr x) :: t ∧ k x t = some r := by
  unfold zpo at h
  split at h
  · exact ⟨_, _, rfl, h⟩
  · cases h
theorem zpr_inv {st : List ZV} {k : Nat → Nat → List ZV → Option α} {r : α} (h : zpr st k = some r) : ∃ t i u, st = .inr (.inr (some (t, i))) :: u ∧ k t i u = some r := by
  unfold zpr at h
  split at h
  · exact ⟨_, _, _, rfl, h⟩
  · cases h
theorem zob_inv {o : Option β} {k : β → Option α} {r : α} (h : zob o k = some r) : ∃ x, o = some x ∧ k x = some r := by
  unfold zob at h
  split at h
  · exact ⟨_, rfl, h⟩
  · cases h
theorem zder_inv {o : Option ZR} {t : Nat} {k : Nat → Option α} {r : α} (h : zder o t k = some r) : ∃ i, o = some (t, i) ∧ k i = some r := by
  unfold zder at h
  split at h
  · rename_i t' i
    cases hb : Nat.beq t' t with
    | false => rw [hb] at h; cases h
    | true =>
      rw [hb] at h
      have e := Nat.eq_of_beq_eq_true hb
      subst e
      exact ⟨i, rfl, h⟩
  · cases h
theorem zg_inv {b : Bool} {k : Option α} {r : α} (h : zg b k = some r) : b = true ∧ k = some r := by
  cases b
  · rw [zg_f rfl] at h; cases h
  · rw [zg_t rfl] at h; exact ⟨rfl, h⟩
theorem zcd_t {b : Bool} {k : Option α} {r : α} (h : (bif b then k else none) = some r) : b = true ∧ k = some r := by
  cases b
  · cases h
  · exact ⟨rfl, h⟩
theorem zcd_f {b : Bool} {k : Option α} {r : α} (h : (bif b then none else k) = some r) : b = false ∧ k = some r := by
  cases b
  · exact ⟨rfl, h⟩
  · cases h
theorem zgb_inv {x : Int32} {k : Option α} {r : α} (h : zgb x k = some r) : zbl x = true ∧ k = some r := by
  unfold zgb at h
  exact zcd_t h
theorem zcm_inv {o : Option ZR} {k : Option α} {r : α} (h : zcm o k = some r) : zcmb o = true ∧ k = some r := by
  unfold zcm at h
  exact zcd_t h
theorem zif_inv {c : Prop} {a b : Option α} {r : α} (h : zif c a b = some r) : (c ∧ a = some r) ∨ (¬ c ∧ b = some r) := by
  by_cases hc : c
  · rw [zif_pos hc] at h; exact Or.inl ⟨hc, h⟩
  · rw [zif_neg hc] at h; exact Or.inr ⟨hc, h⟩
end INV
theorem zSk.tail {n : Nat} {v : ZV} {st : List ZV} (h : zSk n (v :: st)) : zSk n st := fun w hw => h w (List.mem_cons_of_mem _ hw)
theorem zSk.head {n : Nat} {v : ZV} {st : List ZV} (h : zSk n (v :: st)) : zvv n v := h v List.mem_cons_self
theorem zSk.push {n : Nat} {v : ZV} {st : List ZV} (hv : zvv n v) (h : zSk n st) : zSk n (v :: st) := fun w hw => (List.mem_cons.mp hw).elim (fun e => e ▸ hv) (h w)
theorem zSk.pushi {n : Nat} {x : Int32} {st : List ZV} (h : zSk n st) : zSk n (.inl x :: st) := zSk.push trivial h
theorem zSk.pushl {n : Nat} {x : Int64} {st : List ZV} (h : zSk n st) : zSk n (.inr (.inl x) :: st) := zSk.push trivial h
/-- what stays the same in a method -/
def zC (p : Program) (s : State) (m : MethodId) (args : Array Value) (c : Code) (mi : Nat) (cA : Nat → ClassId) (D : va_G) : Prop :=
  p.tables.exec = Jvm.exec ∧ c.code = zby mi ∧ c.maxLocals = zmx mi ∧ mi < 213 ∧ zoc mi < 14 ∧ s.vm.findClass (zRn (zoc mi)) = some m.cls ∧ (∀ w ∈ zgd, w.before args s = true) ∧ (∀ w ∈ zns, va_Nw w s) ∧ va_K D vwCl (zty cA) s
/-- heap and abstract state -/
def zHp (φ : ZPh) (cA : Nat → ClassId) (D : va_G) (A : Nat → Prop) (s : State) (L : Nat) (xs : Nat → Int32) (H : Heap) (locs : List Loc) (S : ZS) : Prop :=
  va_P D vwCl (zw φ cA S) H ∧ va_D A (zw φ cA S) ∧ va_S A s.heap H locs ∧ zDv S ∧ zFz φ L xs A s s.heap ∧ (∀ q, s.heap.size ≤ q → A q) ∧ S.1 16 0 = xs ∧ S.1 16 1 0 = Int32.ofNat L
theorem zdec {mi pc : Nat} {ins : Instr} {len : Nat} (h : zcode mi pc = some (ins, len)) : decode (zby mi) pc = .ok (ins, len) ∧ zchk mi pc ins len = true := by
  have hmi : mi < 213 := by
    unfold zcode at h
    exact Nat.blt_eq.mp (zcd_t h).1
  have hpc : pc < zln mi := zln_of hmi h
  have h1 := zdk_all mi (Nat.zero_le _) hmi pc hpc
  rw [h] at h1
  unfold zckb at h1
  simp only [Bool.and_eq_true, decide_eq_true_eq] at h1
  exact h1
section INS
variable {p : Program} {l : Launch} {e : Env} {R : Room} {s : State} {m : MethodId} {args : Array Value} {below : List Frame} {meth : Method} {c : Code} {H : Heap} {locs : List Loc} {cells slots : Nat} {Q : State → Prop}
variable {mi pc n : Nat} {cA : Nat → ClassId} {D : va_G} {A : Nat → Prop} {φ : ZPh} {L : Nat} {xs : Nat → Int32} {ls : Array Slot} {lz : ZL} {st : List ZV} {S : ZS} {ins : Instr} {len : Nat}
set_option maxHeartbeats 4000000 in
/-- plain instructions: locals and stack alone -/
theorem zop_ok (hC : zC p s m args c mi cA D) (hc : zcode mi pc = some (ins, len)) (hL : zLo φ n (zmx mi) ls lz) (hS : zSk n st)
    (hns : ∀ n, ins ≠ .getstatic n) (hna : ins ≠ .arraylength) (hnl : ∀ n i, ins = .ldc n → zldc (zoc mi) n ≠ some (.inr i))
    {l' : ZL} {st' : List ZV} {S' : ZS} (h : zop (zoc mi) ins lz st S = some (l', st', S'))
    (kk : ∀ ls' : Array Slot, S' = S → zLo φ n (zmx mi) ls' l' → zSk n st' → W p l e R s m args below meth c H locs cells slots Q (F0 m (pc + len) ls' (st'.map (zv φ)))) :
    W p l e R s m args below meth c H locs cells slots Q (F0 m pc ls (st.map (zv φ))) := by
  obtain ⟨hx, hb, hml, hmi, hoc, hown, hts, htn, hK⟩ := hC
  obtain ⟨hdg, hck⟩ := zdec hc
  unfold zop at h
  cases ins
  case iload i =>
    obtain ⟨x, hx1, h⟩ := zli_inv h
    cases h
    simp only [zchk, Nat.beq_eq] at hck
    subst hck
    exact lv_iload hx hb hdg (hL.get hx1) (kk ls rfl hL hS.pushi)
  case iload_n i =>
    obtain ⟨x, hx1, h⟩ := zli_inv h
    cases h
    simp only [zchk, Nat.beq_eq] at hck
    subst hck
    exact lv_iload_n hx hb hdg rfl (hL.get hx1) (kk ls rfl hL hS.pushi)
  case lload i =>
    obtain ⟨x, hx1, h⟩ := zll_inv h
    cases h
    simp only [zchk, Nat.beq_eq] at hck
    subst hck
    exact lv_lload hx hb hdg (hL.get hx1) (kk ls rfl hL hS.pushl)
  case lload_n i =>
    obtain ⟨x, hx1, h⟩ := zll_inv h
    cases h
    simp only [zchk, Nat.beq_eq] at hck
    subst hck
    exact lv_lload_n hx hb hdg rfl (hL.get hx1) (kk ls rfl hL hS.pushl)
  case aload i =>
    obtain ⟨x, hx1, h⟩ := zlo_inv h
    cases h
    simp only [zchk, Nat.beq_eq] at hck
    subst hck
    have hk := kk ls rfl hL (zSk.push (hL.2.2 _ _ hx1) hS)
    have hg := hL.get hx1
    cases x with
    | none => exact lv_aloadN hx hb hdg hg hk
    | some x => exact lv_aload hx hb hdg hg hk
  case aload_n i =>
    obtain ⟨x, hx1, h⟩ := zlo_inv h
    cases h
    simp only [zchk, Nat.beq_eq] at hck
    subst hck
    have hk := kk ls rfl hL (zSk.push (hL.2.2 _ _ hx1) hS)
    have hg := hL.get hx1
    cases x with
    | none => exact lv_aload_nN hx hb hdg rfl hg hk
    | some x => exact lv_aload_n hx hb hdg rfl hg hk
  case istore i =>
    obtain ⟨x, t, est, hh⟩ := zpi_inv h; clear h; subst est; have h := hh; clear hh
    cases h
    simp only [zchk, Bool.and_eq_true, Nat.beq_eq, Nat.blt_eq] at hck
    obtain ⟨rfl, hlt⟩ := hck
    exact lv_istore hx hb hdg hL.1 hlt rfl (fun ls' h' => kk ls' rfl (hL.set hlt trivial h') hS.tail)
  case istore_n i =>
    obtain ⟨x, t, est, hh⟩ := zpi_inv h; clear h; subst est; have h := hh; clear hh
    cases h
    simp only [zchk, Bool.and_eq_true, Nat.beq_eq, Nat.blt_eq] at hck
    obtain ⟨rfl, hlt⟩ := hck
    exact lv_istore_n hx hb hdg rfl hL.1 hlt rfl (fun ls' h' => kk ls' rfl (hL.set hlt trivial h') hS.tail)
  case lstore i =>
    obtain ⟨x, t, est, hh⟩ := zpl_inv h; clear h; subst est; have h := hh; clear hh
    cases h
    simp only [zchk, Bool.and_eq_true, Nat.beq_eq, Nat.blt_eq] at hck
    obtain ⟨rfl, hlt⟩ := hck
    exact lv_lstore hx hb hdg hL.1 hlt rfl (fun ls' h' => kk ls' rfl (hL.setl (v := .inr (.inl x)) hlt trivial h') hS.tail)
  case lstore_n i =>
    obtain ⟨x, t, est, hh⟩ := zpl_inv h; clear h; subst est; have h := hh; clear hh
    cases h
    simp only [zchk, Bool.and_eq_true, Nat.beq_eq, Nat.blt_eq] at hck
    obtain ⟨rfl, hlt⟩ := hck
    exact lv_lstore_n hx hb hdg rfl hL.1 hlt rfl (fun ls' h' => kk ls' rfl (hL.setl (v := .inr (.inl x)) hlt trivial h') hS.tail)
  case astore i =>
    obtain ⟨x, t, est, hh⟩ := zpo_inv h; clear h; subst est; have h := hh; clear hh
    cases h
    simp only [zchk, Bool.and_eq_true, Nat.beq_eq, Nat.blt_eq] at hck
    obtain ⟨rfl, hlt⟩ := hck
    cases x with
    | none => exact lv_astoreN hx hb hdg hL.1 hlt rfl (fun ls' h' => kk ls' rfl (hL.set (v := .inr (.inr none)) hlt hS.head h') hS.tail)
    | some x => exact lv_astore hx hb hdg hL.1 hlt rfl (fun ls' h' => kk ls' rfl (hL.set (v := .inr (.inr (some x))) hlt hS.head h') hS.tail)
  case astore_n i =>
    obtain ⟨x, t, est, hh⟩ := zpo_inv h; clear h; subst est; have h := hh; clear hh
    cases h
    simp only [zchk, Bool.and_eq_true, Nat.beq_eq, Nat.blt_eq] at hck
    obtain ⟨rfl, hlt⟩ := hck
    cases x with
    | none => exact lv_astore_nN hx hb hdg rfl hL.1 hlt rfl (fun ls' h' => kk ls' rfl (hL.set (v := .inr (.inr none)) hlt hS.head h') hS.tail)
    | some x => exact lv_astore_n hx hb hdg rfl hL.1 hlt rfl (fun ls' h' => kk ls' rfl (hL.set (v := .inr (.inr (some x))) hlt hS.head h') hS.tail)
  case iinc i k =>
    obtain ⟨x, hx1, h⟩ := zli_inv h
    cases h
    simp only [zchk, Bool.and_eq_true, Nat.beq_eq, Nat.blt_eq, decide_eq_true_eq] at hck
    obtain ⟨⟨rfl, hlt⟩, hz⟩ := hck
    have hm : (i, zv φ (.inl x)) ∈ zlv φ 0 lz := (zlv_mem φ lz 0 _).mpr ⟨i, _, hx1, by rw [Nat.zero_add]⟩
    obtain ⟨k9, hk9⟩ := List.getElem?_of_mem hm
    exact lv_iinc hx hb hdg hL.1 hk9 (by rw [hz]) hlt rfl (fun ls' h' => kk ls' rfl (hL.set (v := .inl (x + zcst k)) hlt trivial h') hS)
  case iconst k =>
    cases h
    simp only [zchk, Bool.and_eq_true, Nat.beq_eq, decide_eq_true_eq] at hck
    obtain ⟨rfl, hz⟩ := hck
    exact lv_iconst hx hb hdg hz (kk ls rfl hL hS.pushi)
  case bipush k =>
    cases h
    simp only [zchk, Bool.and_eq_true, Nat.beq_eq, decide_eq_true_eq] at hck
    obtain ⟨rfl, hz⟩ := hck
    exact lv_bipush hx hb hdg hz (kk ls rfl hL hS.pushi)
  case sipush k =>
    cases h
    simp only [zchk, Bool.and_eq_true, Nat.beq_eq, decide_eq_true_eq] at hck
    obtain ⟨rfl, hz⟩ := hck
    exact lv_sipush hx hb hdg hz (kk ls rfl hL hS.pushi)
  case lconst k =>
    cases h
    simp only [zchk, Nat.beq_eq] at hck
    subst hck
    exact lv_lconst hx hb hdg rfl (kk ls rfl hL hS.pushl)
  case aconst_null =>
    cases h
    simp only [zchk, Nat.beq_eq] at hck
    subst hck
    exact lv_null hx hb hdg (kk ls rfl hL (zSk.push (fun r h => by cases h) hS))
  case ldc k =>
    obtain ⟨v, hv, h⟩ := zob_inv h
    simp only [zchk, Bool.and_eq_true, Nat.beq_eq, Nat.blt_eq] at hck
    obtain ⟨rfl, hk⟩ := hck
    cases v with
    | inl v =>
      cases h
      have hw := zlcc hoc hk
      unfold zlcb at hw
      unfold zldc at hv
      rw [hv] at hw
      simp only [Bool.and_eq_true, decide_eq_true_eq] at hw
      have hw1 := hts _ (zgd_of hw.1 hw.2)
      rw [show (zoc mi * 1024 + k) / 1024 = zoc mi by omega, show (zoc mi * 1024 + k) % 1024 = k by omega] at hw1
      exact lv_ldc hx hb hown hw1 hdg (kk ls rfl hL hS.pushi)
    | inr i => exact absurd hv (hnl k i rfl)
  case ldc_w k =>
    obtain ⟨v, hv, h⟩ := zob_inv h
    simp only [zchk, Bool.and_eq_true, Nat.beq_eq, Nat.blt_eq] at hck
    obtain ⟨rfl, hk⟩ := hck
    cases v with
    | inl v =>
      cases h
      have hw := zlcc hoc hk
      unfold zlcb at hw
      unfold zldc at hv
      rw [hv] at hw
      simp only [Bool.and_eq_true, decide_eq_true_eq] at hw
      have hw1 := hts _ (zgd_of hw.1 hw.2)
      rw [show (zoc mi * 1024 + k) / 1024 = zoc mi by omega, show (zoc mi * 1024 + k) % 1024 = k by omega] at hw1
      exact lv_ldcw hx hb hown hw1 hdg (kk ls rfl hL hS.pushi)
    | inr i => cases h
  case ldc2_w k =>
    obtain ⟨v, hv, h⟩ := zob_inv h
    simp only [zchk, Bool.and_eq_true, Nat.beq_eq, Nat.blt_eq] at hck
    obtain ⟨rfl, hk⟩ := hck
    cases h
    have hw := zllc hoc hk
    unfold zllb at hw
    unfold zldl at hv
    rw [hv] at hw
    simp only [Bool.and_eq_true, decide_eq_true_eq] at hw
    have hw1 := hts _ (zgd_of hw.1 hw.2)
    rw [show (zoc mi * 1024 + k) / 1024 = zoc mi by omega, show (zoc mi * 1024 + k) % 1024 = k by omega] at hw1
    exact lv_ldc2 hx hb hown hw1 hdg (kk ls rfl hL hS.pushl)
  case getstatic k => exact absurd rfl (hns k)
  case arraylength => exact absurd rfl hna
  case dup =>
    simp only [zchk, Nat.beq_eq] at hck
    subst hck
    rcases st with _ | ⟨v, t⟩
    · cases h
    · rcases v with x | x | x
      · cases h
        exact lv_dup hx hb hdg rfl (kk ls rfl hL hS.pushi)
      · cases h
      · cases h
        exact lv_dup hx hb hdg (by rw [zv_cat]; rfl) (kk ls rfl hL (zSk.push hS.head hS))
  case dup2 =>
    simp only [zchk, Nat.beq_eq] at hck
    subst hck
    obtain ⟨x, t, est, hh⟩ := zpi_inv h; clear h; subst est; have h := hh; clear hh
    obtain ⟨t1, i1, t2, est, hh⟩ := zpr_inv h; clear h; subst est; have h := hh; clear hh
    cases h
    exact lv_dup2_11 hx hb hdg rfl rfl (kk ls rfl hL (zSk.pushi (zSk.push hS.tail.head hS)))
  case pop =>
    simp only [zchk, Nat.beq_eq] at hck
    subst hck
    rcases st with _ | ⟨v, t⟩
    · cases h
    · rcases v with x | x | x
      · cases h
        exact lv_pop hx hb hdg rfl (kk ls rfl hL hS.tail)
      · cases h
      · cases h
        exact lv_pop hx hb hdg (by rw [zv_cat]; rfl) (kk ls rfl hL hS.tail)
  case iadd =>
    simp only [zchk, Nat.beq_eq] at hck
    subst hck
    obtain ⟨y, t, est, hh⟩ := zpi_inv h; clear h; subst est; have h := hh; clear hh
    obtain ⟨x, t, est, hh⟩ := zpi_inv h; clear h; subst est; have h := hh; clear hh
    cases h
    exact lv_iadd hx hb hdg (kk ls rfl hL hS.tail.tail.pushi)
  case isub =>
    simp only [zchk, Nat.beq_eq] at hck
    subst hck
    obtain ⟨y, t, est, hh⟩ := zpi_inv h; clear h; subst est; have h := hh; clear hh
    obtain ⟨x, t, est, hh⟩ := zpi_inv h; clear h; subst est; have h := hh; clear hh
    cases h
    exact lv_isub hx hb hdg (kk ls rfl hL hS.tail.tail.pushi)
  case imul =>
    simp only [zchk, Nat.beq_eq] at hck
    subst hck
    obtain ⟨y, t, est, hh⟩ := zpi_inv h; clear h; subst est; have h := hh; clear hh
    obtain ⟨x, t, est, hh⟩ := zpi_inv h; clear h; subst est; have h := hh; clear hh
    cases h
    exact lv_imul hx hb hdg (kk ls rfl hL hS.tail.tail.pushi)
  case iand =>
    simp only [zchk, Nat.beq_eq] at hck
    subst hck
    obtain ⟨y, t, est, hh⟩ := zpi_inv h; clear h; subst est; have h := hh; clear hh
    obtain ⟨x, t, est, hh⟩ := zpi_inv h; clear h; subst est; have h := hh; clear hh
    cases h
    exact lv_iand hx hb hdg (kk ls rfl hL hS.tail.tail.pushi)
  case ladd =>
    simp only [zchk, Nat.beq_eq] at hck
    subst hck
    obtain ⟨y, t, est, hh⟩ := zpl_inv h; clear h; subst est; have h := hh; clear hh
    obtain ⟨x, t, est, hh⟩ := zpl_inv h; clear h; subst est; have h := hh; clear hh
    cases h
    exact lv_ladd hx hb hdg (kk ls rfl hL hS.tail.tail.pushl)
  case lsub =>
    simp only [zchk, Nat.beq_eq] at hck
    subst hck
    obtain ⟨y, t, est, hh⟩ := zpl_inv h; clear h; subst est; have h := hh; clear hh
    obtain ⟨x, t, est, hh⟩ := zpl_inv h; clear h; subst est; have h := hh; clear hh
    cases h
    exact lv_lsub hx hb hdg (kk ls rfl hL hS.tail.tail.pushl)
  case lmul =>
    simp only [zchk, Nat.beq_eq] at hck
    subst hck
    obtain ⟨y, t, est, hh⟩ := zpl_inv h; clear h; subst est; have h := hh; clear hh
    obtain ⟨x, t, est, hh⟩ := zpl_inv h; clear h; subst est; have h := hh; clear hh
    cases h
    exact lv_lmul hx hb hdg (kk ls rfl hL hS.tail.tail.pushl)
  case land =>
    simp only [zchk, Nat.beq_eq] at hck
    subst hck
    obtain ⟨y, t, est, hh⟩ := zpl_inv h; clear h; subst est; have h := hh; clear hh
    obtain ⟨x, t, est, hh⟩ := zpl_inv h; clear h; subst est; have h := hh; clear hh
    cases h
    exact lv_land hx hb hdg (kk ls rfl hL hS.tail.tail.pushl)
  case lor =>
    simp only [zchk, Nat.beq_eq] at hck
    subst hck
    obtain ⟨y, t, est, hh⟩ := zpl_inv h; clear h; subst est; have h := hh; clear hh
    obtain ⟨x, t, est, hh⟩ := zpl_inv h; clear h; subst est; have h := hh; clear hh
    cases h
    exact lv_lor hx hb hdg (kk ls rfl hL hS.tail.tail.pushl)
  case lshl =>
    simp only [zchk, Nat.beq_eq] at hck
    subst hck
    obtain ⟨y, t, est, hh⟩ := zpi_inv h; clear h; subst est; have h := hh; clear hh
    obtain ⟨x, t, est, hh⟩ := zpl_inv h; clear h; subst est; have h := hh; clear hh
    cases h
    exact lv_lshl hx hb hdg rfl (kk ls rfl hL hS.tail.tail.pushl)
  case lushr =>
    simp only [zchk, Nat.beq_eq] at hck
    subst hck
    obtain ⟨y, t, est, hh⟩ := zpi_inv h; clear h; subst est; have h := hh; clear hh
    obtain ⟨x, t, est, hh⟩ := zpl_inv h; clear h; subst est; have h := hh; clear hh
    cases h
    exact lv_lushr hx hb hdg rfl (kk ls rfl hL hS.tail.tail.pushl)
  case lcmp =>
    simp only [zchk, Nat.beq_eq] at hck
    subst hck
    obtain ⟨y, t, est, hh⟩ := zpl_inv h; clear h; subst est; have h := hh; clear hh
    obtain ⟨x, t, est, hh⟩ := zpl_inv h; clear h; subst est; have h := hh; clear hh
    cases h
    exact W.lcmp hx hb hdg (kk ls rfl hL hS.tail.tail.pushi)
  case i2l =>
    simp only [zchk, Nat.beq_eq] at hck
    subst hck
    obtain ⟨x, t, est, hh⟩ := zpi_inv h; clear h; subst est; have h := hh; clear hh
    cases h
    exact lv_i2l hx hb hdg rfl (kk ls rfl hL hS.tail.pushl)
  case l2i =>
    simp only [zchk, Nat.beq_eq] at hck
    subst hck
    obtain ⟨x, t, est, hh⟩ := zpl_inv h; clear h; subst est; have h := hh; clear hh
    cases h
    exact lv_l2i hx hb hdg rfl (kk ls rfl hL hS.tail.pushi)
  case i2c =>
    simp only [zchk, Nat.beq_eq] at hck
    subst hck
    obtain ⟨x, t, est, hh⟩ := zpi_inv h; clear h; subst est; have h := hh; clear hh
    cases h
    exact lv_i2c hx hb hdg rfl (kk ls rfl hL hS.tail.pushi)
  all_goals cases h
end INS
end
section
/-! INSTRUCTIONS that read and write the heap -/
theorem zaty_big : ∀ t, 122 ≤ t → zaty t = 9 := by
  intro t h
  have hb : ∀ k : Nat, k < 122 → Nat.blt t k = false := fun k hk => by
    cases hx : Nat.blt t k with
    | false => rfl
    | true => have := Nat.blt_eq.mp hx; omega
  have he : ∀ k : Nat, k < 122 → Nat.beq t k = false := fun k hk => by
    cases hx : Nat.beq t k with
    | false => rfl
    | true => have := Nat.eq_of_beq_eq_true hx; omega
  unfold zaty zH zE
  simp only [hb, he, cond_false, Nat.reduceLT]
theorem zaty_sm : ∀ t, t < 122 → (zaty t ≤ 4 → 17 ≤ t) ∧ (zaty t = 5 → t = 14) ∧ (zaty t = 6 → t = 15) ∧ (zaty t = 7 → t = 16) ∧ (zaty t ≠ 9 → zaty t ≤ 4 ∨ zaty t = 5 ∨ zaty t = 6 ∨ zaty t = 7) := by decide +kernel
theorem zaty_17 (t : Nat) (h : zaty t ≤ 4) : 17 ≤ t := by
  by_cases hb : t < 122
  · exact (zaty_sm t hb).1 h
  · omega
theorem zaty_5 (t : Nat) (h : zaty t = 5) : t = 14 := by
  by_cases hb : t < 122
  · exact (zaty_sm t hb).2.1 h
  · rw [zaty_big t (by omega)] at h; cases h
theorem zaty_6 (t : Nat) (h : zaty t = 6) : t = 15 := by
  by_cases hb : t < 122
  · exact (zaty_sm t hb).2.2.1 h
  · rw [zaty_big t (by omega)] at h; cases h
theorem zaty_7 (t : Nat) (h : zaty t = 7) : t = 16 := by
  by_cases hb : t < 122
  · exact (zaty_sm t hb).2.2.2.1 h
  · rw [zaty_big t (by omega)] at h; cases h
theorem zaty_cases (t : Nat) (h : zaty t ≠ 9) : zaty t ≤ 4 ∨ zaty t = 5 ∨ zaty t = 6 ∨ zaty t = 7 := by
  by_cases hb : t < 122
  · exact (zaty_sm t hb).2.2.2.2 h
  · exact absurd (zaty_big t (by omega)) h
theorem zwv_list : ∀ i, i < 13 → (([0, 1, 2, 3, 4, 5, -1, -1, -1, -1, -1, -1, -1] : List Int32).getD i 0) = zwv i := by decide +kernel
theorem zu_ne {α : Type} {f : ZMp α} {t i k t' i' : Nat} {v : α} (h : (t', i') ≠ (t, i)) : zu f t i k v t' i' = f t' i' := by
  funext k'
  unfold zu
  rw [if_neg]
  rintro ⟨rfl, rfl, -⟩
  exact h rfl
theorem zu_self {α : Type} {f : ZMp α} {t i k : Nat} {v : α} : zu f t i k v t i = fun k' => if k' = k then v else f t i k' := by
  funext k'
  unfold zu
  by_cases h : k' = k
  · rw [if_pos ⟨rfl, rfl, h⟩, if_pos h]
  · rw [if_neg (fun e => h e.2.2), if_neg h]
theorem zu_k {α : Type} {f : ZMp α} {t i k k' : Nat} {v : α} (h : k' ≠ k) : zu f t i k v t i k' = f t i k' := by
  rw [zu_self]
  exact if_neg h
theorem zu_at {α : Type} {f : ZMp α} {t i k : Nat} {v : α} : zu f t i k v t i k = v := by
  rw [zu_self]
  exact if_pos rfl
/-- S' is S but in the cell (t, i) -/
def zOff (t i : Nat) (S S' : ZS) : Prop := S'.2.2.2.1 = S.2.2.2.1 ∧ ∀ t' i' : Nat, (t', i') ≠ (t, i) → S'.1 t' i' = S.1 t' i' ∧ S'.2.1 t' i' = S.2.1 t' i' ∧ S'.2.2.1 t' i' = S.2.2.1 t' i'
theorem zce_congr {φ : ZPh} {cA : Nat → ClassId} {S S' : ZS} {t i : Nat} (h : S'.1 t i = S.1 t i ∧ S'.2.1 t i = S.2.1 t i ∧ S'.2.2.1 t i = S.2.2.1 t i) : zce φ cA S' t i = zce φ cA S t i := by
  obtain ⟨h1, h2, h3⟩ := h
  have e1 : zfs φ S' t i = zfs φ S t i := by
    unfold zfs zav
    rw [h1, h2, h3]
  have e2 : zarr φ S' t i = zarr φ S t i := by
    unfold zarr
    rw [h1, h2, h3]
  unfold zce
  rw [e1, e2]
theorem zOff.I {t i k : Nat} {v : Int32} {S : ZS} : zOff t i S (zu S.1 t i k v, S.2) := ⟨rfl, fun t' i' h => ⟨zu_ne h, rfl, rfl⟩⟩
theorem zOff.L {t i k : Nat} {v : Int64} {S : ZS} : zOff t i S (S.1, zu S.2.1 t i k v, S.2.2) := ⟨rfl, fun t' i' h => ⟨rfl, zu_ne h, rfl⟩⟩
theorem zOff.D {t i k : Nat} {v : Option ZR} {S : ZS} : zOff t i S (S.1, S.2.1, zu S.2.2.1 t i k v, S.2.2.2) := ⟨rfl, fun t' i' h => ⟨rfl, rfl, zu_ne h⟩⟩
theorem zDv.D {t i k : Nat} {v : Option ZR} {S : ZS} (h : zDv S) (hv : zvo S.2.2.2.1 v) : zDv (S.1, S.2.1, zu S.2.2.1 t i k v, S.2.2.2) := by
  intro t' i' k'
  show zvo S.2.2.2.1 (zu S.2.2.1 t i k v t' i' k')
  unfold zu
  split
  · exact hv
  · exact h t' i' k'
section HEAP
variable {p : Program} {l : Launch} {e : Env} {R : Room} {s : State} {m : MethodId} {args : Array Value} {below : List Frame} {meth : Method} {c : Code} {H : Heap} {locs : List Loc} {cells slots : Nat} {Q : State → Prop}
variable {mi pc n : Nat} {cA : Nat → ClassId} {D : va_G} {A : Nat → Prop} {φ : ZPh} {L : Nat} {xs : Nat → Int32} {ls : Array Slot} {lz : ZL} {st : List ZV} {S S' : ZS} {ins : Instr} {len t i f ty k : Nat}
theorem zHp.put {H1 : Heap} {locs1 : List Loc} (h : zHp φ cA D A s L xs H locs S) (hO : zOff t i S S') (ht : t ≠ 16) (hd : zDv S') (hk : (zids S.2.2.2.1)[k]? = some (t, i))
    (hP : va_P D vwCl ((zw φ cA S).set k (φ t i, zce φ cA S' t i)) H1) (hD : va_D A ((zw φ cA S).set k (φ t i, zce φ cA S' t i))) (hS : va_S A s.heap H1 locs1) : zHp φ cA D A s L xs H1 locs1 S' := by
  have e := zw_set (φ := φ) (cA := cA) hk hO.1 (fun t' i' hne => zce_congr (hO.2 t' i' hne))
  rw [e] at hP hD
  obtain ⟨-, -, -, -, hF, hA, hx, hl⟩ := h
  have e16 : ∀ j, (16, j) ≠ (t, i) := fun j hj => ht (congrArg Prod.fst hj).symm
  exact ⟨hP, hD, hS, hd, hF, hA, by rw [(hO.2 16 0 (e16 0)).1]; exact hx, by rw [(hO.2 16 1 (e16 1)).1]; exact hl⟩
/-- the link of a field -/
theorem zlink (hC : zC p s m args c mi cA D) (hk : k < 1024) (h : zfld (zoc mi) k = some (t, f, ty)) : f < zcN t ∧ t < 13 ∧ zfkd t f = ty ∧ (zcT t f).1 = zcn t ∧ zftyk ty (zcty t f) = true ∧
    ((Cond.fieldLink (zRn (zoc mi)) k (zcn t) (zcT t f).2.1 (zcT t f).2.2.1).before args s = true ∨ (Cond.fieldLinkNest (zRn (zoc mi)) k (zcn t) (zcT t f).2.1 (zcT t f).2.2.1 "TownExchange").before args s = true) := by
  obtain ⟨hx, hb, hml, hmi, hoc, hown, hts, htn, hK⟩ := hC
  have hw := zfc hoc hk h
  unfold zfcb at hw
  unfold zfld at h
  rw [h] at hw
  simp only [Bool.and_eq_true, decide_eq_true_eq, Nat.blt_eq, Nat.beq_eq] at hw
  obtain ⟨⟨⟨⟨⟨⟨h1, h2⟩, h3⟩, h4⟩, h5⟩, h6⟩, h7⟩ := hw
  refine ⟨h3, h4, h5, h6, h7, ?_⟩
  unfold zfw at h1 h2
  rw [show (zoc mi * 1024 + k) / 1024 = zoc mi by omega, show (zoc mi * 1024 + k) % 1024 = k by omega] at h1 h2
  cases hz : zfnk (zoc mi * 1024 + k) with
  | false =>
    rw [hz] at h1 h2
    exact Or.inl (hts _ (zgd_of h1 h2))
  | true =>
    rw [hz] at h1 h2
    exact Or.inr (va_Nw.use rfl (htn _ (zns_of h1 h2)))
theorem zav_ok (hv : zDv S) (hf : f < zcN t) (ht : t < 13) (hi : i < zct S.2.2.2.1 t) : zvv S.2.2.2.1 (zav S t i f) := by
  unfold zav
  split
  · exact trivial
  · rename_i h2
    obtain ⟨r, h3, h4⟩ := zfin_all t (Nat.zero_le _) ht f (Nat.zero_le _) hf _ i h2 hi
    show zvo _ _
    rw [h3]
    intro r' e
    cases e
    exact h4
  · exact hv _ _ _
  · exact trivial
  · exact trivial
set_option maxHeartbeats 1000000 in
theorem zgetf_ok (hC : zC p s m args c mi cA D) (hH : zHp φ cA D A s L xs H locs S) (hc : zcode mi pc = some (.getfield k, len)) (hfl : zfld (zoc mi) k = some (t, f, ty)) (hi : i < zct S.2.2.2.1 t)
    (kk : zvv S.2.2.2.1 (zav S t i f) → zfkd t f = ty → W p l e R s m args below meth c H locs cells slots Q (F0 m (pc + len) ls (zv φ (zav S t i f) :: st.map (zv φ)))) :
    W p l e R s m args below meth c H locs cells slots Q (F0 m pc ls (.ref (φ t i) :: st.map (zv φ))) := by
  obtain ⟨hdg, hck⟩ := zdec hc
  simp only [zchk, Bool.and_eq_true, Nat.beq_eq, Nat.blt_eq] at hck
  obtain ⟨rfl, hk⟩ := hck
  obtain ⟨hf, ht, hty, hcl, -, hlk⟩ := zlink hC hk hfl
  obtain ⟨hx, hb, hml, hmi, hoc, hown, hts, htn, hK⟩ := hC
  obtain ⟨hP, hD, hS, hv, hF, hA, -, -⟩ := hH
  have kk := kk (zav_ok hv hf ht hi) hty
  by_cases h12 : t < 12
  · obtain ⟨k0, hk0, hw0⟩ := zw_at (φ := φ) (cA := cA) (S := S) (t := t) (i := i) (by unfold zwt; rw [Bool.or_eq_true]; exact Or.inl (Nat.blt_eq.mpr h12)) hi
    unfold zce at hw0
    rw [if_pos h12] at hw0
    rcases hlk with hlk | hlk
    · exact va_get hx hb hts (zcl_ws t (Nat.zero_le _) h12) hown hK hP k0 hw0 (zCl_at t (Nat.zero_le _) h12) f hf hlk (fun x h => by rw [hcl] at h; exact h) (zfs_get hf) hdg kk
    · exact va_getN hx hb hts (zcl_ws t (Nat.zero_le _) h12) hown hK hP k0 hw0 (zCl_at t (Nat.zero_le _) h12) f hf hlk (fun x h => by rw [hcl] at h; exact h) (zfs_get hf) hdg kk
  · have e12 : t = 12 := by omega
    subst e12
    have hi13 : i < 13 := hi
    have hf2 : f < 2 := hf
    have hof : va_OF "TownExchange$Word" (zcT 12 f).2.1 (zcT 12 f).2.2.1 (zv φ (zav S 12 i f)) (φ 12 i) A s H := by
      have hb1 : f = 0 ∨ f = 1 := by omega
      rcases hb1 with rfl | rfl
      · exact (hF.2.1 i hi13).kept hS.2.1
      · have h2 := ((hF.1.1 i hi13).2.2 _ List.mem_cons_self).kept hS.2.1
        have e2 : (([0, 1, 2, 3, 4, 5, -1, -1, -1, -1, -1, -1, -1] : List Int32).getD i 0) = zwv i := zwv_list i hi13
        dsimp only at h2
        rw [e2] at h2
        exact h2
    obtain ⟨cf, kf, fi, fd, cell, h1, h2, h3, h4, h5, h6⟩ := hof
    rcases hlk with hlk | hlk
    · exact W.getf hx hb hown hlk h1 h2 h3 h4 (v := zv φ (zav S 12 i f)) h5 rfl rfl hdg kk
    · exact va_Wgetf hx hb hown hlk h1 h2 h3 h4 (v := zv φ (zav S 12 i f)) h5 rfl rfl hdg kk
set_option maxHeartbeats 1000000 in
theorem zputf_ok (hC : zC p s m args c mi cA D) (hH : zHp φ cA D A s L xs H locs S) (hc : zcode mi pc = some (.putfield k, len)) (hfl : zfld (zoc mi) k = some (t, f, ty)) (h12 : t < 12) (hi : i < zct S.2.2.2.1 t)
    (hO : zOff t i S S') (hd : zDv S') (hg : ∀ g, g ≠ f → zav S' t i g = zav S t i g) {v : ZV} (hv : zav S' t i f = v) (hn : zfkd t f = ty → zftyk ty (zcty t f) = true → narrow (zcty t f) (zv φ v) = zv φ v ∧ fits (zcty t f) (zv φ v) = true)
    (kk : ∀ (H1 : Heap) (locs1 : List Loc), zHp φ cA D A s L xs H1 locs1 S' → W p l e R s m args below meth c H1 locs1 cells slots Q (F0 m (pc + len) ls (st.map (zv φ)))) :
    W p l e R s m args below meth c H locs cells slots Q (F0 m pc ls (zv φ v :: .ref (φ t i) :: st.map (zv φ))) := by
  obtain ⟨hdg, hck⟩ := zdec hc
  simp only [zchk, Bool.and_eq_true, Nat.beq_eq, Nat.blt_eq] at hck
  obtain ⟨⟨rfl, hk⟩, hfin⟩ := hck
  obtain ⟨hf, ht, hty, hcl, htk, hlk⟩ := zlink hC hk hfl
  rw [hfl] at hfin
  dsimp only at hfin
  have hfin : (zcT t f).2.2.2 = false := by simpa using hfin
  obtain ⟨hn1, hn2⟩ := hn hty htk
  have hH0 := hH
  obtain ⟨hx, hb, hml, hmi, hoc, hown, hts, htn, hK⟩ := hC
  obtain ⟨hP, hD, hS, hdv, hF, hA, -, -⟩ := hH
  obtain ⟨k0, hk0, hw0⟩ := zw_at (φ := φ) (cA := cA) (S := S) (t := t) (i := i) (by unfold zwt; rw [Bool.or_eq_true]; exact Or.inl (Nat.blt_eq.mpr h12)) hi
  have hw1 := hw0
  unfold zce at hw1
  rw [if_pos h12] at hw1
  have hce : (Sum.inr (t, (zfs φ S t i).set f (zv φ v)) : va_E) = zce φ cA S' t i := by
    unfold zce
    rw [if_pos h12, ← zfs_set (f := f) hg, hv]
  rcases hlk with hlk | hlk
  · refine va_put hx hb hts (zcl_ws t (Nat.zero_le _) h12) (zcty t) (zcl_ty t (Nat.zero_le _) h12) (zcl_nm t (Nat.zero_le _) h12) hown hK hP hD hS k0 hw1 (zCl_at t (Nat.zero_le _) h12) f hf hlk (fun x h => by rw [hcl] at h; exact h) hfin (zcl_ty t (Nat.zero_le _) h12 f hf) hn1 hn2 (by rw [zfs_len]; exact hf) hdg (fun H1 locs1 q1 q2 q3 => ?_)
    rw [hce] at q1 q2
    exact kk H1 locs1 (hH0.put hO (by omega) hd hk0 q1 q2 q3)
  · refine va_putN hx hb hts (zcl_ws t (Nat.zero_le _) h12) (zcty t) (zcl_ty t (Nat.zero_le _) h12) (zcl_nm t (Nat.zero_le _) h12) hown hK hP hD hS k0 hw1 (zCl_at t (Nat.zero_le _) h12) f hf hlk (fun x h => by rw [hcl] at h; exact h) hfin (zcl_ty t (Nat.zero_le _) h12 f hf) hn1 hn2 (by rw [zfs_len]; exact hf) hdg (fun H1 locs1 q1 q2 q3 => ?_)
    rw [hce] at q1 q2
    exact kk H1 locs1 (hH0.put hO (by omega) hd hk0 q1 q2 q3)
/-- an array of the world -/
theorem zarr_at (ht : zaty t ≤ 4) (hi : i < zct S.2.2.2.1 t) : ∃ k0 : Nat, (zids S.2.2.2.1)[k0]? = some (t, i) ∧ (zw φ cA S)[k0]? = some (φ t i, .inl (cA (zaty t), zaln t, zarr φ S t i)) ∧ t ≠ 16 ∧ ¬ t < 12 := by
  have h17 : 17 ≤ t := zaty_17 t ht
  obtain ⟨k0, hk0, hw0⟩ := zw_at (φ := φ) (cA := cA) (S := S) (t := t) (i := i) (by unfold zwt; rw [Bool.or_eq_true]; exact Or.inr (Nat.ble_eq.mpr h17)) hi
  unfold zce at hw0
  rw [if_neg (by omega)] at hw0
  exact ⟨k0, hk0, hw0, by omega, by omega⟩
theorem zin_vp {x : Int32} {n : Nat} (h : zin x n = true) : vp_in x n := by
  unfold zin at h
  unfold vp_in
  exact of_decide_eq_true h
theorem zlen_a (ht : t ≠ 16) (S : ZS) : zlen t S = zaln t := by
  unfold zlen
  have e : Nat.beq t 16 = false := by
    cases hb : Nat.beq t 16 with
    | false => rfl
    | true => exact absurd (Nat.eq_of_beq_eq_true hb) ht
  rw [e]
  rfl
theorem zlen_16 (hH : zHp φ cA D A s L xs H locs S) : zlen 16 S = L := by
  obtain ⟨-, -, -, -, hF, -, -, hl⟩ := hH
  unfold zlen
  show (S.1 16 1 0).toNatClampNeg = L
  rw [hl]
  exact Int32.toNatClampNeg_ofNat_of_lt hF.2.2.2.2.2.2.2.1
variable {x : Int32}
set_option maxHeartbeats 1000000 in
/-- reading an array of ints, booleans or chars -/
theorem zald_ok (hC : zC p s m args c mi cA D) (hH : zHp φ cA D A s L xs H locs S) (hin : ins = .iaload ∧ (zaty t = 0 ∨ zaty t = 7) ∨ ins = .baload ∧ zaty t = 1 ∨ ins = .caload ∧ zaty t = 2) (hc : zcode mi pc = some (ins, len)) (hi : i < zct S.2.2.2.1 t) (hx0 : zin x (zlen t S) = true)
    (kk : W p l e R s m args below meth c H locs cells slots Q (F0 m (pc + len) ls (.int (S.1 t i (zx x)) :: st.map (zv φ)))) :
    W p l e R s m args below meth c H locs cells slots Q (F0 m pc ls (.int x :: .ref (φ t i) :: st.map (zv φ))) := by
  obtain ⟨hdg, hck⟩ := zdec hc
  have hlen := zlen_16 hH
  have hC0 := hC
  obtain ⟨hx, hb, hml, hmi, hoc, hown, hts, htn, hK⟩ := hC
  have hH0 := hH
  obtain ⟨hP, hD, hS, hdv, hF, hA, hxs, hl⟩ := hH
  rcases hin with ⟨rfl, h | h⟩ | ⟨rfl, h⟩ | ⟨rfl, h⟩ <;> simp only [zchk, Nat.beq_eq] at hck <;> subst hck
  · obtain ⟨k0, -, hw0, h16, -⟩ := zarr_at (φ := φ) (cA := cA) (S := S) (by omega : zaty t ≤ 4) hi
    rw [zlen_a h16] at hx0
    rw [h] at hw0
    unfold zarr at hw0
    rw [h] at hw0
    exact va_iald hx hb hK hP k0 0 hw0 rfl (zin_vp hx0) hdg kk
  · have e := zaty_7 t h
    subst e
    have hi0 : i < 1 := hi
    have e0 : i = 0 := by omega
    subst e0
    rw [hlen] at hx0
    obtain ⟨cell, h1, h2, h3, h4, h5, h6, h7⟩ := hF.2.2.2.2.2.2.1.kept hS.2.1
    have hvp := zin_vp hx0
    have hlt : x.toNatClampNeg < L := Nat.not_le.mp fun q => hvp (Or.inr q)
    rw [hxs] at kk
    exact W.iald (v := .int (xs x.toNatClampNeg)) hx hb h1 h2 h3 (fun q => hvp (q.imp id (fun q => Nat.le_trans h4 q))) (h6 _ hlt) rfl rfl hdg kk
  · obtain ⟨k0, -, hw0, h16, -⟩ := zarr_at (φ := φ) (cA := cA) (S := S) (by omega : zaty t ≤ 4) hi
    rw [zlen_a h16] at hx0
    rw [h] at hw0
    unfold zarr at hw0
    rw [h] at hw0
    exact va_zald hx hb hK hP k0 1 hw0 rfl (zin_vp hx0) hdg kk
  · obtain ⟨k0, -, hw0, h16, -⟩ := zarr_at (φ := φ) (cA := cA) (S := S) (by omega : zaty t ≤ 4) hi
    rw [zlen_a h16] at hx0
    rw [h] at hw0
    unfold zarr at hw0
    rw [h] at hw0
    exact va_cald hx hb hK hP k0 2 hw0 rfl (zin_vp hx0) hdg kk
set_option maxHeartbeats 1000000 in
theorem zald6_ok (hC : zC p s m args c mi cA D) (hH : zHp φ cA D A s L xs H locs S) (hat : zaty t = 6) (hc : zcode mi pc = some (.iaload, len)) (hi : i < zct S.2.2.2.1 t) (hx0 : zin x (zlen t S) = true)
    (kk : W p l e R s m args below meth c H locs cells slots Q (F0 m (pc + len) ls (.int (zten (zx x)) :: st.map (zv φ)))) :
    W p l e R s m args below meth c H locs cells slots Q (F0 m pc ls (.int x :: .ref (φ t i) :: st.map (zv φ))) := by
  obtain ⟨hdg, hck⟩ := zdec hc
  obtain ⟨hx, hb, hml, hmi, hoc, hown, hts, htn, hK⟩ := hC
  obtain ⟨hP, hD, hS, hdv, hF, hA, hxs, hl⟩ := hH
  simp only [zchk, Nat.beq_eq] at hck
  subst hck
  have e := zaty_6 t hat
  subst e
  have hi0 : i < 1 := hi
  have e0 : i = 0 := by omega
  subst e0
  rw [zlen_a (by decide)] at hx0
  obtain ⟨cell, h1, h2, h3, h4, h5, h6, h7⟩ := hF.2.2.2.2.2.1.kept hS.2.1
  have hvp : vp_in x 5 := zin_vp hx0
  have hlt : x.toNatClampNeg < 5 := Nat.not_le.mp fun q => hvp (Or.inr q)
  exact W.iald (v := .int (zten x.toNatClampNeg)) hx hb h1 h2 h3 (fun q => hvp (q.imp id (fun q => Nat.le_trans h4 q))) (h6 _ hlt) rfl rfl hdg kk
set_option maxHeartbeats 1000000 in
theorem zaldl_ok (hC : zC p s m args c mi cA D) (hH : zHp φ cA D A s L xs H locs S) (hat : zaty t = 3) (hc : zcode mi pc = some (.laload, len)) (hi : i < zct S.2.2.2.1 t) (hx0 : zin x (zlen t S) = true)
    (kk : W p l e R s m args below meth c H locs cells slots Q (F0 m (pc + len) ls (.long (S.2.1 t i (zx x)) :: st.map (zv φ)))) :
    W p l e R s m args below meth c H locs cells slots Q (F0 m pc ls (.int x :: .ref (φ t i) :: st.map (zv φ))) := by
  obtain ⟨hdg, hck⟩ := zdec hc
  obtain ⟨hx, hb, hml, hmi, hoc, hown, hts, htn, hK⟩ := hC
  obtain ⟨hP, hD, hS, hdv, hF, hA, hxs, hl⟩ := hH
  simp only [zchk, Nat.beq_eq] at hck
  subst hck
  obtain ⟨k0, -, hw0, h16, -⟩ := zarr_at (φ := φ) (cA := cA) (S := S) (by omega : zaty t ≤ 4) hi
  rw [zlen_a h16] at hx0
  rw [hat] at hw0
  unfold zarr at hw0
  rw [hat] at hw0
  exact va_lald hx hb hK hP k0 3 hw0 rfl (zin_vp hx0) hdg kk
set_option maxHeartbeats 1000000 in
theorem zaldo_ok (hC : zC p s m args c mi cA D) (hH : zHp φ cA D A s L xs H locs S) (hc : zcode mi pc = some (.aaload, len)) (hi : i < zct S.2.2.2.1 t) (hx0 : zin x (zlen t S) = true) {o : Option ZR} (ho : zaty t = 4 ∧ o = S.2.2.1 t i (zx x) ∨ zaty t = 5 ∧ o = some (12, zx x))
    (kk : zvo S.2.2.2.1 o → W p l e R s m args below meth c H locs cells slots Q (F0 m (pc + len) ls (zv φ (.inr (.inr o)) :: st.map (zv φ)))) :
    W p l e R s m args below meth c H locs cells slots Q (F0 m pc ls (.int x :: .ref (φ t i) :: st.map (zv φ))) := by
  obtain ⟨hdg, hck⟩ := zdec hc
  obtain ⟨hx, hb, hml, hmi, hoc, hown, hts, htn, hK⟩ := hC
  obtain ⟨hP, hD, hS, hdv, hF, hA, hxs, hl⟩ := hH
  simp only [zchk, Nat.beq_eq] at hck
  subst hck
  rcases ho with ⟨hat, rfl⟩ | ⟨hat, rfl⟩
  · obtain ⟨k0, -, hw0, h16, -⟩ := zarr_at (φ := φ) (cA := cA) (S := S) (by omega : zaty t ≤ 4) hi
    rw [zlen_a h16] at hx0
    rw [hat] at hw0
    unfold zarr at hw0
    rw [hat] at hw0
    have kk := kk (hdv _ _ _)
    rw [zv_o] at kk
    exact va_aldq hx hb hK hP k0 4 hw0 rfl (zin_vp hx0) hdg kk
  · have e := zaty_5 t hat
    subst e
    have hi0 : i < 1 := hi
    have e0 : i = 0 := by omega
    subst e0
    rw [zlen_a (by decide)] at hx0
    obtain ⟨cell, h1, h2, h3, h4, h5, h6, h7⟩ := hF.2.2.2.1.kept hS.2.1
    have hvp : vp_in x 13 := zin_vp hx0
    have hlt : x.toNatClampNeg < 13 := Nat.not_le.mp fun q => hvp (Or.inr q)
    have kk := kk (fun r hr => by cases hr; exact hlt)
    exact W.aald (v := .ref (φ 12 x.toNatClampNeg)) (ty := .object "TownExchange$Word") hx hb h1 h2 rfl h3 (fun q => hvp (q.imp id (fun q => Nat.le_trans h4 q))) (h6 _ hlt) rfl rfl hdg kk
set_option maxHeartbeats 1000000 in
theorem zalen_ok (hC : zC p s m args c mi cA D) (hH : zHp φ cA D A s L xs H locs S) (hc : zcode mi pc = some (.arraylength, len)) (hi : i < zct S.2.2.2.1 t) (hat : zaty t ≠ 9)
    (kk : W p l e R s m args below meth c H locs cells slots Q (F0 m (pc + len) ls (.int (Int32.ofNat (zlen t S)) :: st.map (zv φ)))) :
    W p l e R s m args below meth c H locs cells slots Q (F0 m pc ls (.ref (φ t i) :: st.map (zv φ))) := by
  obtain ⟨hdg, hck⟩ := zdec hc
  have hlen := zlen_16 hH
  obtain ⟨hx, hb, hml, hmi, hoc, hown, hts, htn, hK⟩ := hC
  obtain ⟨hP, hD, hS, hdv, hF, hA, hxs, hl⟩ := hH
  simp only [zchk, Nat.beq_eq] at hck
  subst hck
  rcases zaty_cases t hat with h | h | h | h
  · obtain ⟨k0, -, hw0, h16, -⟩ := zarr_at (φ := φ) (cA := cA) (S := S) h hi
    rw [zlen_a h16] at kk
    have ht5 : ∃ ty, (zty cA)[zaty t]? = some (cA (zaty t), ty) := by
      have : zaty t = 0 ∨ zaty t = 1 ∨ zaty t = 2 ∨ zaty t = 3 ∨ zaty t = 4 := by omega
      rcases this with h | h | h | h | h <;> rw [h] <;> exact ⟨_, rfl⟩
    obtain ⟨ty, hty⟩ := ht5
    exact va_alen hx hb hK hP k0 (zaty t) hw0 hty rfl hdg kk
  · have e := zaty_5 t h
    subst e
    have hi0 : i < 1 := hi
    have e0 : i = 0 := by omega
    subst e0
    rw [zlen_a (by decide)] at kk
    obtain ⟨cell, h1, h2, h3, h4, h5, h6, h7⟩ := hF.2.2.2.1.kept hS.2.1
    exact W.alen hx hb h1 h2 h5 rfl rfl hdg kk
  · have e := zaty_6 t h
    subst e
    have hi0 : i < 1 := hi
    have e0 : i = 0 := by omega
    subst e0
    rw [zlen_a (by decide)] at kk
    obtain ⟨cell, h1, h2, h3, h4, h5, h6, h7⟩ := hF.2.2.2.2.2.1.kept hS.2.1
    exact W.alen hx hb h1 h2 h5 rfl rfl hdg kk
  · have e := zaty_7 t h
    subst e
    have hi0 : i < 1 := hi
    have e0 : i = 0 := by omega
    subst e0
    rw [hlen] at kk
    obtain ⟨cell, h1, h2, h3, h4, h5, h6, h7⟩ := hF.2.2.2.2.2.2.1.kept hS.2.1
    exact W.alen hx hb h1 h2 h5 rfl rfl hdg kk
theorem zce_arr (h12 : ¬ t < 12) (φ : ZPh) (cA : Nat → ClassId) (S : ZS) : zce φ cA S t i = .inl (cA (zaty t), zaln t, zarr φ S t i) := by
  unfold zce
  rw [if_neg h12]
variable {v : Int32}
set_option maxHeartbeats 1000000 in
/-- writing an array of ints, booleans or chars -/
theorem zast_ok (hC : zC p s m args c mi cA D) (hH : zHp φ cA D A s L xs H locs S) {w : Int32} (hin : ins = .iastore ∧ zaty t = 0 ∧ w = v ∨ ins = .bastore ∧ zaty t = 1 ∧ zbl v = true ∧ w = v ∨ ins = .castore ∧ zaty t = 2 ∧ w = (v.toUInt32 % 65536).toInt32) (hc : zcode mi pc = some (ins, len)) (hi : i < zct S.2.2.2.1 t) (hx0 : zin x (zlen t S) = true)
    (kk : ∀ (H1 : Heap) (locs1 : List Loc), zHp φ cA D A s L xs H1 locs1 (zu S.1 t i (zx x) w, S.2) → W p l e R s m args below meth c H1 locs1 cells slots Q (F0 m (pc + len) ls (st.map (zv φ)))) :
    W p l e R s m args below meth c H locs cells slots Q (F0 m pc ls (.int v :: .int x :: .ref (φ t i) :: st.map (zv φ))) := by
  obtain ⟨hdg, hck⟩ := zdec hc
  have hH0 := hH
  obtain ⟨hx, hb, hml, hmi, hoc, hown, hts, htn, hK⟩ := hC
  obtain ⟨hP, hD, hS, hdv, hF, hA, hxs, hl⟩ := hH
  have hat : zaty t ≤ 4 := by rcases hin with ⟨-, h, -⟩ | ⟨-, h, -⟩ | ⟨-, h, -⟩ <;> omega
  obtain ⟨k0, hk0, hw0, h16, h12⟩ := zarr_at (φ := φ) (cA := cA) (S := S) hat hi
  rw [zlen_a h16] at hx0
  have hce : zaty t = 0 ∨ zaty t = 1 ∨ zaty t = 2 → zce φ cA (zu S.1 t i (zx x) w, S.2) t i = .inl (cA (zaty t), zaln t, .inl (upd (S.1 t i) x.toNatClampNeg w)) := by
    intro h
    rw [zce_arr h12]
    unfold zarr
    rcases h with h | h | h <;> rw [h] <;> simp only [zu_self] <;> rfl
  have fin : ∀ (H1 : Heap) (locs1 : List Loc), zaty t = 0 ∨ zaty t = 1 ∨ zaty t = 2 → va_P D vwCl ((zw φ cA S).set k0 (φ t i, .inl (cA (zaty t), zaln t, .inl (upd (S.1 t i) x.toNatClampNeg w)))) H1 → va_D A ((zw φ cA S).set k0 (φ t i, .inl (cA (zaty t), zaln t, .inl (upd (S.1 t i) x.toNatClampNeg w)))) → va_S A s.heap H1 locs1 → zHp φ cA D A s L xs H1 locs1 (zu S.1 t i (zx x) w, S.2) := by
    intro H1 locs1 h q1 q2 q3
    rw [← hce h] at q1 q2
    exact hH0.put zOff.I h16 hdv hk0 q1 q2 q3
  rcases hin with ⟨rfl, h, rfl⟩ | ⟨rfl, h, hbl, rfl⟩ | ⟨rfl, h, rfl⟩ <;> simp only [zchk, Nat.beq_eq] at hck <;> subst hck
  · have hw1 := hw0
    unfold zarr at hw1
    rw [h] at hw1 fin
    exact va_iast hx hb hK hP hD hS k0 0 hw1 rfl (zin_vp hx0) hdg (fun H1 locs1 q1 q2 q3 => kk H1 locs1 (fin H1 locs1 (Or.inl rfl) q1 q2 q3))
  · have hw1 := hw0
    unfold zarr at hw1
    rw [h] at hw1 fin
    have hnar : vp_nar .boolean w = w := by
      have hbl : w = 0 ∨ w = 1 := of_decide_eq_true hbl
      rcases hbl with rfl | rfl <;> decide
    refine va_zast hx hb hK hP hD hS k0 1 hw1 rfl (zin_vp hx0) hdg (fun H1 locs1 q1 q2 q3 => ?_)
    rw [hnar] at q1 q2
    exact kk H1 locs1 (fin H1 locs1 (Or.inr (Or.inl rfl)) q1 q2 q3)
  · have hw1 := hw0
    unfold zarr at hw1
    rw [h] at hw1 fin
    refine va_cast hx hb hK hP hD hS k0 2 hw1 rfl (zin_vp hx0) hdg (fun H1 locs1 q1 q2 q3 => ?_)
    have hnar : vp_nar .char v = (v.toUInt32 % 65536).toInt32 := rfl
    rw [hnar] at q1 q2
    exact kk H1 locs1 (fin H1 locs1 (Or.inr (Or.inr rfl)) q1 q2 q3)
set_option maxHeartbeats 1000000 in
theorem zastl_ok (hC : zC p s m args c mi cA D) (hH : zHp φ cA D A s L xs H locs S) {w : Int64} (hat : zaty t = 3) (hc : zcode mi pc = some (.lastore, len)) (hi : i < zct S.2.2.2.1 t) (hx0 : zin x (zlen t S) = true)
    (kk : ∀ (H1 : Heap) (locs1 : List Loc), zHp φ cA D A s L xs H1 locs1 (S.1, zu S.2.1 t i (zx x) w, S.2.2) → W p l e R s m args below meth c H1 locs1 cells slots Q (F0 m (pc + len) ls (st.map (zv φ)))) :
    W p l e R s m args below meth c H locs cells slots Q (F0 m pc ls (.long w :: .int x :: .ref (φ t i) :: st.map (zv φ))) := by
  obtain ⟨hdg, hck⟩ := zdec hc
  have hH0 := hH
  obtain ⟨hx, hb, hml, hmi, hoc, hown, hts, htn, hK⟩ := hC
  obtain ⟨hP, hD, hS, hdv, hF, hA, hxs, hl⟩ := hH
  simp only [zchk, Nat.beq_eq] at hck
  subst hck
  obtain ⟨k0, hk0, hw0, h16, h12⟩ := zarr_at (φ := φ) (cA := cA) (S := S) (by omega : zaty t ≤ 4) hi
  rw [zlen_a h16] at hx0
  have hce : zce φ cA (S.1, zu S.2.1 t i (zx x) w, S.2.2) t i = .inl (cA 3, zaln t, .inr (.inl (vp_updL (S.2.1 t i) x.toNatClampNeg w))) := by
    rw [zce_arr h12]
    unfold zarr
    rw [hat]
    simp only [zu_self]
    rfl
  unfold zarr at hw0
  rw [hat] at hw0
  refine va_last hx hb hK hP hD hS k0 3 hw0 rfl (zin_vp hx0) hdg (fun H1 locs1 q1 q2 q3 => ?_)
  rw [← hce] at q1 q2
  exact kk H1 locs1 (hH0.put zOff.L h16 hdv hk0 q1 q2 q3)
set_option maxHeartbeats 1000000 in
/-- a line into the array of lines -/
theorem zasto_ok (hC : zC p s m args c mi cA D) (hH : zHp φ cA D A s L xs H locs S) {j : Nat} (hat : zaty t = 4) (hc : zcode mi pc = some (.aastore, len)) (hi : i < zct S.2.2.2.1 t) (hj : j < zct S.2.2.2.1 2) (hx0 : zin x (zlen t S) = true)
    (kk : ∀ (H1 : Heap) (locs1 : List Loc), zHp φ cA D A s L xs H1 locs1 (S.1, S.2.1, zu S.2.2.1 t i (zx x) (some (2, j)), S.2.2.2) → W p l e R s m args below meth c H1 locs1 cells slots Q (F0 m (pc + len) ls (st.map (zv φ)))) :
    W p l e R s m args below meth c H locs cells slots Q (F0 m pc ls (.ref (φ 2 j) :: .int x :: .ref (φ t i) :: st.map (zv φ))) := by
  obtain ⟨hdg, hck⟩ := zdec hc
  have hH0 := hH
  obtain ⟨hx, hb, hml, hmi, hoc, hown, hts, htn, hK⟩ := hC
  obtain ⟨hP, hD, hS, hdv, hF, hA, hxs, hl⟩ := hH
  simp only [zchk, Nat.beq_eq] at hck
  subst hck
  obtain ⟨k0, hk0, hw0, h16, h12⟩ := zarr_at (φ := φ) (cA := cA) (S := S) (by omega : zaty t ≤ 4) hi
  obtain ⟨k2, hk2, hw2⟩ := zw_at (φ := φ) (cA := cA) (S := S) (t := 2) (i := j) rfl hj
  have hce2 : zce φ cA S 2 j = .inr (2, zfs φ S 2 j) := by
    unfold zce
    rw [if_pos (by decide)]
  rw [hce2] at hw2
  rw [zlen_a h16] at hx0
  have hce : zce φ cA (S.1, S.2.1, zu S.2.2.1 t i (zx x) (some (2, j)), S.2.2.2) t i = .inl (cA 4, zaln t, .inr (.inr (.inr (.inr (va_up (fun k => zof φ (S.2.2.1 t i k)) x.toNatClampNeg (some (φ 2 j))))))) := by
    rw [zce_arr h12]
    unfold zarr
    rw [hat]
    simp only [zu_self]
    refine congrArg (fun g => (Sum.inl (cA 4, zaln t, Sum.inr (Sum.inr (Sum.inr (Sum.inr g)))) : va_E)) (funext fun k => ?_)
    unfold va_up
    by_cases hk : k = x.toNatClampNeg
    · rw [if_pos hk, if_pos hk]; rfl
    · rw [if_neg hk, if_neg hk]
  unfold zarr at hw0
  rw [hat] at hw0
  refine va_astq hx hb hK hP hD hS k0 4 k2 2 (r := (zcn 2, zcT 2, zcN 2)) hw0 rfl hw2 (zCl_at 2 (Nat.zero_le _) (by decide)) (zin_vp hx0) hdg (fun H1 locs1 q1 q2 q3 => ?_)
  rw [← hce] at q1 q2
  exact kk H1 locs1 (hH0.put zOff.D h16 (hdv.D (fun r hr => by cases hr; exact hj)) hk0 q1 q2 q3)
end HEAP
end
section
/-! MONOTONY of the counters, and that plain instructions leave the state as it is -/
abbrev zkc (S : ZS) : Nat := S.2.2.2.2.1
abbrev zks (S : ZS) : Nat := S.2.2.2.2.2
def zle (S S' : ZS) : Prop := S.2.2.2.1 ≤ S'.2.2.2.1 ∧ zkc S ≤ zkc S' ∧ zks S ≤ zks S'
theorem zle.rf (S : ZS) : zle S S := ⟨Nat.le_refl _, Nat.le_refl _, Nat.le_refl _⟩
theorem zle.tr {S S1 S2 : ZS} (h : zle S S1) (h2 : zle S1 S2) : zle S S2 := ⟨Nat.le_trans h.1 h2.1, Nat.le_trans h.2.1 h2.2.1, Nat.le_trans h.2.2 h2.2.2⟩
set_option maxHeartbeats 1000000 in
theorem zop_S {oc : Nat} {ins : Instr} {ls : ZL} {st : List ZV} {S : ZS} {q : ZL × List ZV × ZS} (h : zop oc ins ls st S = some q) : q.2.2 = S := by
  unfold zop at h
  cases ins
  case iload => obtain ⟨_, _, h⟩ := zli_inv h; cases h; rfl
  case iload_n => obtain ⟨_, _, h⟩ := zli_inv h; cases h; rfl
  case lload => obtain ⟨_, _, h⟩ := zll_inv h; cases h; rfl
  case lload_n => obtain ⟨_, _, h⟩ := zll_inv h; cases h; rfl
  case aload => obtain ⟨_, _, h⟩ := zlo_inv h; cases h; rfl
  case aload_n => obtain ⟨_, _, h⟩ := zlo_inv h; cases h; rfl
  case istore => obtain ⟨_, _, _, h⟩ := zpi_inv h; cases h; rfl
  case istore_n => obtain ⟨_, _, _, h⟩ := zpi_inv h; cases h; rfl
  case lstore => obtain ⟨_, _, _, h⟩ := zpl_inv h; cases h; rfl
  case lstore_n => obtain ⟨_, _, _, h⟩ := zpl_inv h; cases h; rfl
  case astore => obtain ⟨_, _, _, h⟩ := zpo_inv h; cases h; rfl
  case astore_n => obtain ⟨_, _, _, h⟩ := zpo_inv h; cases h; rfl
  case iinc => obtain ⟨_, _, h⟩ := zli_inv h; cases h; rfl
  case iconst => cases h; rfl
  case bipush => cases h; rfl
  case sipush => cases h; rfl
  case lconst => cases h; rfl
  case aconst_null => cases h; rfl
  case ldc => obtain ⟨v, _, h⟩ := zob_inv h; cases v <;> cases h <;> rfl
  case ldc_w => obtain ⟨v, _, h⟩ := zob_inv h; cases v <;> cases h <;> rfl
  case ldc2_w => obtain ⟨v, _, h⟩ := zob_inv h; cases h; rfl
  case dup => rcases st with _ | ⟨v, t⟩ <;> first | cases h | (rcases v with x | x | x <;> cases h <;> rfl)
  case dup2 => obtain ⟨_, _, _, h⟩ := zpi_inv h; obtain ⟨_, _, _, _, h⟩ := zpr_inv h; cases h; rfl
  case pop => rcases st with _ | ⟨v, t⟩ <;> first | cases h | (rcases v with x | x | x <;> cases h <;> rfl)
  case getstatic => obtain ⟨v, _, h⟩ := zob_inv h; cases h; rfl
  case arraylength => obtain ⟨_, _, _, _, h⟩ := zpr_inv h; obtain ⟨_, h⟩ := zcd_f h; cases h; rfl
  case iadd => obtain ⟨_, _, _, h⟩ := zpi_inv h; obtain ⟨_, _, _, h⟩ := zpi_inv h; cases h; rfl
  case isub => obtain ⟨_, _, _, h⟩ := zpi_inv h; obtain ⟨_, _, _, h⟩ := zpi_inv h; cases h; rfl
  case imul => obtain ⟨_, _, _, h⟩ := zpi_inv h; obtain ⟨_, _, _, h⟩ := zpi_inv h; cases h; rfl
  case iand => obtain ⟨_, _, _, h⟩ := zpi_inv h; obtain ⟨_, _, _, h⟩ := zpi_inv h; cases h; rfl
  case ladd => obtain ⟨_, _, _, h⟩ := zpl_inv h; obtain ⟨_, _, _, h⟩ := zpl_inv h; cases h; rfl
  case lsub => obtain ⟨_, _, _, h⟩ := zpl_inv h; obtain ⟨_, _, _, h⟩ := zpl_inv h; cases h; rfl
  case lmul => obtain ⟨_, _, _, h⟩ := zpl_inv h; obtain ⟨_, _, _, h⟩ := zpl_inv h; cases h; rfl
  case land => obtain ⟨_, _, _, h⟩ := zpl_inv h; obtain ⟨_, _, _, h⟩ := zpl_inv h; cases h; rfl
  case lor => obtain ⟨_, _, _, h⟩ := zpl_inv h; obtain ⟨_, _, _, h⟩ := zpl_inv h; cases h; rfl
  case lcmp => obtain ⟨_, _, _, h⟩ := zpl_inv h; obtain ⟨_, _, _, h⟩ := zpl_inv h; cases h; rfl
  case lshl => obtain ⟨_, _, _, h⟩ := zpi_inv h; obtain ⟨_, _, _, h⟩ := zpl_inv h; cases h; rfl
  case lushr => obtain ⟨_, _, _, h⟩ := zpi_inv h; obtain ⟨_, _, _, h⟩ := zpl_inv h; cases h; rfl
  case i2l => obtain ⟨_, _, _, h⟩ := zpi_inv h; cases h; rfl
  case l2i => obtain ⟨_, _, _, h⟩ := zpl_inv h; cases h; rfl
  case i2c => obtain ⟨_, _, _, h⟩ := zpi_inv h; cases h; rfl
  all_goals cases h
theorem zbind_inv {α β : Type} {o : Option α} {k : α → Option β} {r : β} (h : o.bind k = some r) : ∃ x, o = some x ∧ k x = some r := by
  cases o with
  | none => cases h
  | some x => exact ⟨x, rfl, h⟩
/-- a call: what was called, with what, what came back, what goes on -/
theorem zcal_inv {α : Type} {cl : Nat → List ZV → ZS → Option ZX} {oc n : Nat} {st : List ZV} {S : ZS} {k : List ZV → ZS → Option α} {r : α} (h : zcal cl oc n st S k = some r) :
    ∃ (q : Nat × Nat × Nat) (w : List ZV × List ZV) (v : Option ZV) (S' : ZS), zmth oc n = some q ∧ zpop q.2.1 [] st = some w ∧ w.2.length ≤ 4 ∧ cl q.1 w.1 S = some (v, S') ∧ k (v.toList ++ w.2) S' = some r ∧
      (q.2.2 = 0 → v = none) ∧ (q.2.2 = 1 → ∃ x, v = some (.inl x)) ∧ (q.2.2 = 2 → ∃ x, v = some (.inr (.inl x))) ∧ (q.2.2 ≠ 0 → q.2.2 ≠ 1 → q.2.2 ≠ 2 → ∃ x, v = some (.inr (.inr x))) := by
  unfold zcal at h
  obtain ⟨q, hq, h⟩ := zob_inv h
  obtain ⟨w, hw, h⟩ := zob_inv h
  obtain ⟨hb, h⟩ := zcd_t h
  have hb := Nat.ble_eq.mp hb
  obtain ⟨mj, na, rk⟩ := q
  dsimp only at h hw ⊢
  split at h
  · obtain ⟨S', hS', h⟩ := zbind_inv h
    unfold zcv at hS'
    obtain ⟨⟨v, S1⟩, h1, h2⟩ := zbind_inv hS'
    unfold zov at h2
    split at h2
    · rename_i S2 e
      cases h2
      cases e
      exact ⟨_, w, none, S', hq, hw, hb, h1, h, fun _ => rfl, fun e => (by cases e), fun e => (by cases e), fun e => absurd rfl e⟩
    · cases h2
  · obtain ⟨⟨x, S'⟩, hS', h⟩ := zbind_inv h
    unfold zci at hS'
    obtain ⟨⟨v, S1⟩, h1, h2⟩ := zbind_inv hS'
    unfold zoi at h2
    split at h2
    · rename_i x2 S2 e
      cases h2
      cases e
      exact ⟨_, w, some (.inl x), S', hq, hw, hb, h1, h, fun e => (by cases e), fun _ => ⟨_, rfl⟩, fun e => (by cases e), fun _ e => absurd rfl e⟩
    · cases h2
  · obtain ⟨⟨x, S'⟩, hS', h⟩ := zbind_inv h
    unfold zcl at hS'
    obtain ⟨⟨v, S1⟩, h1, h2⟩ := zbind_inv hS'
    unfold zol at h2
    split at h2
    · rename_i x2 S2 e
      cases h2
      cases e
      exact ⟨_, w, some (.inr (.inl x)), S', hq, hw, hb, h1, h, fun e => (by cases e), fun e => (by cases e), fun _ => ⟨_, rfl⟩, fun _ _ e => absurd rfl e⟩
    · cases h2
  · rename_i n0 n1 n2
    obtain ⟨⟨x, S'⟩, hS', h⟩ := zbind_inv h
    unfold zco at hS'
    obtain ⟨⟨v, S1⟩, h1, h2⟩ := zbind_inv hS'
    unfold zoo at h2
    split at h2
    · rename_i x2 S2 e
      cases h2
      cases e
      exact ⟨_, w, some (.inr (.inr x)), S', hq, hw, hb, h1, h, fun e => absurd e n0, fun e => absurd e n1, fun e => absurd e n2, fun _ _ _ => ⟨_, rfl⟩⟩
    · cases h2
theorem zsw_inv {α : Type} {x : Int32} {k : Nat → Option α} {df : Nat} {r : α} : ∀ {ts : List Nat} {lo : Int}, zsw x k df ts lo = some r → ∃ p, k p = some r
  | [], _, h => ⟨df, h⟩
  | t :: ts, lo, h => by
    unfold zsw at h
    rcases zif_inv h with ⟨-, h⟩ | ⟨-, h⟩
    · exact ⟨t, h⟩
    · exact zsw_inv h
def zGl {α : Type} (κ : Nat → ZL → List ZV → ZS → Option α) (ρ : Option ZV → ZS → Option α) (r : α) (S : ZS) : Prop :=
  (∃ (pc : Nat) (ls : ZL) (st : List ZV) (S' : ZS), κ pc ls st S' = some r ∧ zle S S') ∨ (∃ (v : Option ZV) (S' : ZS), ρ v S' = some r ∧ zle S S')
theorem zGl.up {α : Type} {κ : Nat → ZL → List ZV → ZS → Option α} {ρ : Option ZV → ZS → Option α} {r : α} {S S1 : ZS} (hle : zle S S1) (h : zGl κ ρ r S1) : zGl κ ρ r S := by
  rcases h with ⟨a, b, c, d, h1, h2⟩ | ⟨a, d, h1, h2⟩
  · exact Or.inl ⟨a, b, c, d, h1, hle.tr h2⟩
  · exact Or.inr ⟨a, d, h1, hle.tr h2⟩
set_option maxHeartbeats 4000000 in
set_option maxRecDepth 100000 in
theorem zgo_mono {α : Type} (cl : Nat → List ZV → ZS → Option ZX) (hcl : ∀ mj a S v S', cl mj a S = some (v, S') → zle S S') (mi oc : Nat) (κ : Nat → ZL → List ZV → ZS → Option α) (ρ : Option ZV → ZS → Option α) (r : α) :
    ∀ (j : Nat) (b : Bool) (pc : Nat) (ls : ZL) (st : List ZV) (S : ZS), zgo cl mi oc κ ρ j b pc ls st S = some r → zGl κ ρ r S
  | 0, _, _, _, _, _, h => by unfold zgo at h; cases h
  | j + 1, b, pc, ls, st, S, h => by
    have ih := zgo_mono cl hcl mi oc κ ρ r j
    unfold zgo at h
    unfold zel at h
    split at h
    · exact Or.inl ⟨_, _, _, _, h, zle.rf S⟩
    · obtain ⟨⟨ins, len⟩, hc, h⟩ := zob_inv h
      have dflt : zob (zop oc ins ls st S) (fun q => zgo cl mi oc κ ρ j true (pc + len) q.1 q.2.1 q.2.2) = some r → zGl κ ρ r S := by
        intro h
        obtain ⟨q, hq, h⟩ := zob_inv h
        have e := zop_S hq
        have h2 := ih _ _ _ _ _ h
        rw [e] at h2
        exact h2
      have call : ∀ {n : Nat}, zcal cl oc n st S (fun st' S' => zgo cl mi oc κ ρ j true (pc + len) ls st' S') = some r → zGl κ ρ r S := by
        intro n h
        obtain ⟨q, w, v, S', -, -, -, h1, h2, -⟩ := zcal_inv h
        exact (ih _ _ _ _ _ h2).up (hcl _ _ _ _ _ h1)
      cases ins
      case goto o => exact ih _ _ _ _ _ h
      case ifCond c o =>
        obtain ⟨x, t, -, h⟩ := zpi_inv h
        cases c <;> (rcases zif_inv h with ⟨-, h⟩ | ⟨-, h⟩ <;> exact ih _ _ _ _ _ h)
      case if_icmp c o =>
        obtain ⟨x, t, -, h⟩ := zpi_inv h
        obtain ⟨y, t, -, h⟩ := zpi_inv h
        cases c <;> (rcases zif_inv h with ⟨-, h⟩ | ⟨-, h⟩ <;> exact ih _ _ _ _ _ h)
      case if_acmp c o =>
        obtain ⟨x, t, -, h⟩ := zpo_inv h
        obtain ⟨y, t, -, h⟩ := zpo_inv h
        obtain ⟨-, h⟩ := zcm_inv h
        obtain ⟨-, h⟩ := zcm_inv h
        cases c <;> (rcases zif_inv h with ⟨-, h⟩ | ⟨-, h⟩ <;> exact ih _ _ _ _ _ h)
      case ifnonnull o =>
        obtain ⟨x, t, -, h⟩ := zpo_inv h
        rcases zif_inv h with ⟨-, h⟩ | ⟨-, h⟩ <;> exact ih _ _ _ _ _ h
      case tableswitch df lo hi offs =>
        obtain ⟨x, t, -, h⟩ := zpi_inv h
        obtain ⟨p, h⟩ := zsw_inv h
        exact ih _ _ _ _ _ h
      case invokevirtual n => exact call h
      case invokestatic n => exact call h
      case invokespecial n => exact call h
      case ireturn =>
        obtain ⟨x, t, -, h⟩ := zpi_inv h
        obtain ⟨-, h⟩ := zcd_t h
        cases hz : zrz mi with
        | false => rw [hz] at h; exact Or.inr ⟨_, _, h, zle.rf S⟩
        | true =>
          rw [hz] at h
          obtain ⟨-, h⟩ := zgb_inv h
          exact Or.inr ⟨_, _, h, zle.rf S⟩
      case lreturn =>
        obtain ⟨x, t, -, h⟩ := zpl_inv h
        obtain ⟨-, h⟩ := zcd_t h
        exact Or.inr ⟨_, _, h, zle.rf S⟩
      case areturn =>
        obtain ⟨x, t, -, h⟩ := zpo_inv h
        obtain ⟨-, h⟩ := zcd_t h
        exact Or.inr ⟨_, _, h, zle.rf S⟩
      case return_ =>
        obtain ⟨-, h⟩ := zcd_t h
        exact Or.inr ⟨_, _, h, zle.rf S⟩
      case new k =>
        obtain ⟨-, h⟩ := zcd_t h
        obtain ⟨x, -, h⟩ := zli_inv h
        obtain ⟨y, -, h⟩ := zlo_inv h
        obtain ⟨i0, -, h⟩ := zder_inv h
        exact (ih _ _ _ _ _ h).up ⟨Nat.le_succ _, Nat.le_add_right _ _, Nat.le_add_right _ _⟩
      case idiv =>
        obtain ⟨x, t, -, h⟩ := zpi_inv h
        obtain ⟨y, t, -, h⟩ := zpi_inv h
        obtain ⟨-, h⟩ := zcd_f h
        exact ih _ _ _ _ _ h
      case irem =>
        obtain ⟨x, t, -, h⟩ := zpi_inv h
        obtain ⟨y, t, -, h⟩ := zpi_inv h
        obtain ⟨-, h⟩ := zcd_f h
        exact ih _ _ _ _ _ h
      case getfield n =>
        obtain ⟨q, -, h⟩ := zob_inv h
        obtain ⟨o, t, -, h⟩ := zpo_inv h
        obtain ⟨i, -, h⟩ := zder_inv h
        split at h <;> exact ih _ _ _ _ _ h
      case putfield n =>
        obtain ⟨q, -, h⟩ := zob_inv h
        split at h
        · obtain ⟨x, t, -, h⟩ := zpi_inv h
          obtain ⟨o, t, -, h⟩ := zpo_inv h
          obtain ⟨i, -, h⟩ := zder_inv h
          exact (ih _ _ _ _ _ h).up (zle.rf _)
        · obtain ⟨x, t, -, h⟩ := zpl_inv h
          obtain ⟨o, t, -, h⟩ := zpo_inv h
          obtain ⟨i, -, h⟩ := zder_inv h
          exact (ih _ _ _ _ _ h).up (zle.rf _)
        · obtain ⟨x, t, -, h⟩ := zpo_inv h
          obtain ⟨o, t, -, h⟩ := zpo_inv h
          obtain ⟨i, -, h⟩ := zder_inv h
          exact (ih _ _ _ _ _ h).up (zle.rf _)
        · obtain ⟨x, t, -, h⟩ := zpi_inv h
          obtain ⟨o, t, -, h⟩ := zpo_inv h
          obtain ⟨i, -, h⟩ := zder_inv h
          obtain ⟨-, h⟩ := zg_inv h
          exact (ih _ _ _ _ _ h).up (zle.rf _)
        · cases h
      case iaload =>
        obtain ⟨x, t, -, h⟩ := zpi_inv h
        obtain ⟨t1, i1, t2, -, h⟩ := zpr_inv h
        cases hb : (Nat.beq (zaty t1) 0 || Nat.beq (zaty t1) 7) with
        | true =>
          rw [hb] at h
          obtain ⟨-, h⟩ := zg_inv h
          exact ih _ _ _ _ _ h
        | false =>
          rw [hb] at h
          obtain ⟨-, h⟩ := zcd_t h
          obtain ⟨-, h⟩ := zg_inv h
          exact ih _ _ _ _ _ h
      case baload =>
        obtain ⟨x, t, -, h⟩ := zpi_inv h
        obtain ⟨t1, i1, t2, -, h⟩ := zpr_inv h
        obtain ⟨-, h⟩ := zcd_t h
        obtain ⟨-, h⟩ := zg_inv h
        exact ih _ _ _ _ _ h
      case caload =>
        obtain ⟨x, t, -, h⟩ := zpi_inv h
        obtain ⟨t1, i1, t2, -, h⟩ := zpr_inv h
        obtain ⟨-, h⟩ := zcd_t h
        obtain ⟨-, h⟩ := zg_inv h
        exact ih _ _ _ _ _ h
      case laload =>
        obtain ⟨x, t, -, h⟩ := zpi_inv h
        obtain ⟨t1, i1, t2, -, h⟩ := zpr_inv h
        obtain ⟨-, h⟩ := zcd_t h
        obtain ⟨-, h⟩ := zg_inv h
        exact ih _ _ _ _ _ h
      case aaload =>
        obtain ⟨x, t, -, h⟩ := zpi_inv h
        obtain ⟨t1, i1, t2, -, h⟩ := zpr_inv h
        cases hb : Nat.beq (zaty t1) 4 with
        | true =>
          rw [hb] at h
          obtain ⟨-, h⟩ := zg_inv h
          exact ih _ _ _ _ _ h
        | false =>
          rw [hb] at h
          obtain ⟨-, h⟩ := zcd_t h
          obtain ⟨-, h⟩ := zg_inv h
          exact ih _ _ _ _ _ h
      case iastore =>
        obtain ⟨v, t, -, h⟩ := zpi_inv h
        obtain ⟨x, t, -, h⟩ := zpi_inv h
        obtain ⟨t1, i1, t2, -, h⟩ := zpr_inv h
        obtain ⟨-, h⟩ := zcd_t h
        obtain ⟨-, h⟩ := zg_inv h
        exact (ih _ _ _ _ _ h).up (zle.rf _)
      case bastore =>
        obtain ⟨v, t, -, h⟩ := zpi_inv h
        obtain ⟨x, t, -, h⟩ := zpi_inv h
        obtain ⟨t1, i1, t2, -, h⟩ := zpr_inv h
        obtain ⟨-, h⟩ := zcd_t h
        obtain ⟨-, h⟩ := zg_inv h
        obtain ⟨-, h⟩ := zg_inv h
        exact (ih _ _ _ _ _ h).up (zle.rf _)
      case castore =>
        obtain ⟨v, t, -, h⟩ := zpi_inv h
        obtain ⟨x, t, -, h⟩ := zpi_inv h
        obtain ⟨t1, i1, t2, -, h⟩ := zpr_inv h
        obtain ⟨-, h⟩ := zcd_t h
        obtain ⟨-, h⟩ := zg_inv h
        exact (ih _ _ _ _ _ h).up (zle.rf _)
      case lastore =>
        obtain ⟨v, t, -, h⟩ := zpl_inv h
        obtain ⟨x, t, -, h⟩ := zpi_inv h
        obtain ⟨t1, i1, t2, -, h⟩ := zpr_inv h
        obtain ⟨-, h⟩ := zcd_t h
        obtain ⟨-, h⟩ := zg_inv h
        exact (ih _ _ _ _ _ h).up (zle.rf _)
      case aastore =>
        obtain ⟨v, t, -, h⟩ := zpo_inv h
        obtain ⟨x, t, -, h⟩ := zpi_inv h
        obtain ⟨t1, i1, t2, -, h⟩ := zpr_inv h
        obtain ⟨-, h⟩ := zcd_t h
        obtain ⟨-, h⟩ := zg_inv h
        obtain ⟨_, -, h⟩ := zder_inv h
        exact (ih _ _ _ _ _ h).up (zle.rf _)
      all_goals exact dflt h
theorem zlim_mono' {cl : Nat → List ZV → ZS → Option ZX} (hcl : ∀ mj a S v S', cl mj a S = some (v, S') → zle S S') (mi oc : Nat) : ∀ (n : Nat) (f : ZF) (v : Option ZV) (S' : ZS), zlim (zP cl mi oc) n f = some (v, S') → zle f.2.2.2 S'
  | 0, f, v, S', h => by unfold zlim at h; cases h
  | n + 1, f, v, S', h => by
    unfold zlim at h
    obtain ⟨x, hx, h⟩ := zbind_inv h
    have hm := zgo_mono cl hcl mi oc _ _ x _ _ _ _ _ _ hx
    rcases hm with ⟨pc, ls, st, S1, h1, h2⟩ | ⟨w, S1, h1, h2⟩
    · cases h1
      exact h2.tr (zlim_mono' hcl mi oc n _ v S' h)
    · cases h1
      cases h
      exact h2
theorem zrun_lim {cl : Nat → List ZV → ZS → Option ZX} {mi oc pc : Nat} {ls : ZL} {st : List ZV} {S : ZS} {x : ZX} (h : zrun cl mi oc pc ls st S = some x) : ∃ n, zlim (zP cl mi oc) n (pc, ls, st, S) = some x := (zfix_spec _ _ _).mp h
theorem zprim_mono {cl : Nat → List ZV → ZS → Option ZX} (hcl : ∀ mj a S v S', cl mj a S = some (v, S') → zle S S') {mj : Nat} {a : List ZV} {S : ZS} {v : Option ZV} {S' : ZS} (h : zprim cl mj a S = some (v, S')) : zle S S' := by
  unfold zprim at h
  have step : ∀ {b : Bool} {x y : Option ZX}, (bif b then x else y) = some (v, S') → (x = some (v, S') → zle S S') → (y = some (v, S') → zle S S') → zle S S' := by
    intro b x y h h1 h2
    cases b
    · exact h2 h
    · exact h1 h
  refine step h (fun h => ?_) fun h => step h (fun h => ?_) fun h => step h (fun h => ?_) fun h => step h (fun h => ?_) fun h => step h (fun h => ?_) fun h => step h (fun h => ?_) fun h => step h (fun h => ?_) fun h => step h (fun h => ?_) fun h => by cases h
  · split at h <;> cases h; exact zle.rf S
  · split at h <;> cases h; exact zle.rf S
  · split at h
    · obtain ⟨-, h⟩ := zcd_t h
      cases h
      exact zle.rf S
    · cases h
  · split at h
    · obtain ⟨-, h⟩ := zcd_t h
      obtain ⟨-, h⟩ := zg_inv h
      cases h
      exact zle.rf S
    · cases h
  · split at h <;> cases h; exact zle.rf S
  · split at h
    · obtain ⟨-, h⟩ := zg_inv h
      cases h
      exact zle.rf S
    · cases h
  · split at h <;> cases h; exact zle.rf S
  · split at h
    · split at h
      · obtain ⟨⟨y, S1⟩, h1, h2⟩ := zbind_inv h
        cases h2
        unfold zci at h1
        obtain ⟨⟨w, S2⟩, h3, h4⟩ := zbind_inv h1
        unfold zoi at h4
        split at h4
        · rename_i e
          cases h4
          cases e
          have h9 : zle S S1 := hcl _ _ _ _ _ h3
          exact h9
        · cases h4
      · cases h
        exact ⟨Nat.le_refl _, Nat.le_add_right _ _, Nat.le_add_right _ _⟩
    · cases h
theorem zcall_mono : ∀ (d mj : Nat) (a : List ZV) (S : ZS) (v : Option ZV) (S' : ZS), zcall d mj a S = some (v, S') → zle S S'
  | 0, _, _, _, _, _, h => by unfold zcall at h; cases h
  | d + 1, mj, a, S, v, S', h => by
    have ih := zcall_mono d
    unfold zcall at h
    cases hb : Nat.ble 1000 mj with
    | true =>
      rw [hb] at h
      exact zprim_mono ih h
    | false =>
      rw [hb] at h
      obtain ⟨-, h⟩ := zcd_t h
      obtain ⟨n, hn⟩ := zrun_lim h
      exact zlim_mono' ih _ _ n _ v S' hn
end
section
/-! CALLS: contracts of all methods of the machine -/
theorem zct_mono {n n' t : Nat} (h : n ≤ n') : zct n t ≤ zct n' t := by
  by_cases hb : t < 122
  · rcases zct_n n t hb with e | e | e | e
    · subst e; exact h
    · subst e; exact h
    · subst e; exact h
    · rcases zct_n n' t hb with e' | e' | e' | e'
      · subst e'; exact h
      · subst e'; exact h
      · subst e'; exact h
      · rw [e, e']; exact Nat.le_refl _
  · rw [zct_big n t (by omega)]
    exact Nat.zero_le _
theorem zvr.mono {n n' : Nat} {r : ZR} (h : n ≤ n') (hr : zvr n r) : zvr n' r := Nat.lt_of_lt_of_le hr (zct_mono h)
theorem zvo.mono {n n' : Nat} {o : Option ZR} (h : n ≤ n') (hr : zvo n o) : zvo n' o := fun r e => (hr r e).mono h
theorem zvv.mono {n n' : Nat} {v : ZV} (h : n ≤ n') (hr : zvv n v) : zvv n' v := by
  rcases v with x | x | o
  · exact trivial
  · exact trivial
  · exact zvo.mono (o := o) h hr
theorem zSk.mono {n n' : Nat} {st : List ZV} (h : n ≤ n') (hr : zSk n st) : zSk n' st := fun v hv => (hr v hv).mono h
theorem zv_ex {n : Nat} {φ φ' : ZPh} (hE : zEx n φ φ') {v : ZV} (hv : zvv n v) : zv φ' v = zv φ v := by
  rcases v with x | x | (_ | ⟨t, i⟩)
  · rfl
  · rfl
  · rfl
  · show Value.ref (φ' t i) = Value.ref (φ t i)
    rw [hE.2 t i (hv (t, i) rfl)]
theorem zmap_ex {n : Nat} {φ φ' : ZPh} (hE : zEx n φ φ') {st : List ZV} (hv : zSk n st) : st.map (zv φ') = st.map (zv φ) := List.map_congr_left fun v h => zv_ex hE (hv v h)
theorem zLo.ex {n n' nL : Nat} {φ φ' : ZPh} {ls : Array Slot} {l : ZL} (hE : zEx n φ φ') (hn : n ≤ n') (h : zLo φ n nL ls l) : zLo φ' n' nL ls l := by
  obtain ⟨h1, h2, h3⟩ := h
  refine ⟨⟨h1.1, h1.2.1, fun q hq => ?_⟩, h2, fun j v hv => (h3 j v hv).mono hn⟩
  obtain ⟨j, v, hv, rfl⟩ := (zlv_mem φ' l 0 q).mp hq
  rw [zv_ex hE (h3 j v hv)]
  exact h1.2.2 _ ((zlv_mem φ l 0 _).mpr ⟨j, v, hv, rfl⟩)
theorem zget_mask : ∀ (ms : List Bool) (l : ZL) (j : Nat) (v : ZV), zget j (zmask ms l) = some v → zget j l = some v
  | [], l, j, v, h => h
  | _ :: _, [], j, v, h => h
  | b :: bs, x :: r, 0, v, h => by
    unfold zmask at h
    cases b
    · simp [zget] at h
    · exact h
  | b :: bs, x :: r, j + 1, v, h => zget_mask bs r j v h
theorem zmask_len : ∀ (ms : List Bool) (l : ZL), (zmask ms l).length = l.length
  | [], l => rfl
  | _ :: _, [] => rfl
  | b :: bs, x :: r => by
    unfold zmask
    rw [List.length_cons, List.length_cons, zmask_len bs r]
theorem zLo.mask {φ : ZPh} {n nL : Nat} {ls : Array Slot} {l : ZL} (ms : List Bool) (h : zLo φ n nL ls l) : zLo φ n nL ls (zmask ms l) := by
  obtain ⟨h1, h2, h3⟩ := h
  refine ⟨⟨h1.1, h1.2.1, fun q hq => ?_⟩, by rw [zmask_len]; exact h2, fun j v hv => h3 j v (zget_mask ms l j v hv)⟩
  obtain ⟨j, v, hv, rfl⟩ := (zlv_mem φ _ 0 q).mp hq
  exact h1.2.2 _ ((zlv_mem φ l 0 _).mpr ⟨j, v, zget_mask ms l j v hv, rfl⟩)
theorem zpop_spec : ∀ (n : Nat) (acc st : List ZV) (w : List ZV × List ZV), zpop n acc st = some w → ∃ xs, st = xs ++ w.2 ∧ w.1 = xs.reverse ++ acc ∧ xs.length = n
  | 0, acc, st, w, h => by
    unfold zpop at h
    cases h
    exact ⟨[], rfl, rfl, rfl⟩
  | n + 1, acc, [], w, h => by unfold zpop at h; cases h
  | n + 1, acc, x :: r, w, h => by
    unfold zpop at h
    obtain ⟨xs, h1, h2, h3⟩ := zpop_spec n (x :: acc) r w h
    exact ⟨x :: xs, by rw [h1]; rfl, by rw [h2, List.reverse_cons, List.append_assoc]; rfl, by rw [List.length_cons, h3]⟩
def zwsm (mj : Nat) : List Cond := .code (zyn mj) (zby mj) (zmx mj) (zrt mj) :: zgd
def zrm (d : Nat) (S S' : ZS) : Room := { frames := d + 8, cells := zkc S' - zkc S, slots := zks S' - zks S, locals := 40 * d + 400 }
def zPre (φ : ZPh) (cA : Nat → ClassId) (D : va_G) (L : Nat) (xs : Nat → Int32) (S : ZS) (sz : Nat) (U : State) : Prop :=
  U.heap.size = sz ∧ va_P D vwCl (zw φ cA S) U.heap ∧ va_K D vwCl (zty cA) U ∧ va_D (fun _ => True) (zw φ cA S) ∧ zDv S ∧ zFz φ L xs (va_A (zw φ cA S) sz) U U.heap ∧ (∀ w ∈ zns, va_Nw w U) ∧ S.1 16 0 = xs ∧ S.1 16 1 0 = Int32.ofNat L
def zQm (φ : ZPh) (cA : Nat → ClassId) (D : va_G) (L : Nat) (xs : Nat → Int32) (S S' : ZS) (v : Option ZV) (A : Nat → Prop) : Array Value → State → Outcome → State → Prop := fun _ st oc t =>
  (∃ φ' : ZPh, oc = .returned (v.map (zv φ')) ∧ zEx S.2.2.2.1 φ φ' ∧ va_P D vwCl (zw φ' cA S') t.heap ∧ va_D A (zw φ' cA S') ∧ zDv S' ∧ S'.1 16 0 = xs ∧ S'.1 16 1 0 = Int32.ofNat L ∧ ∀ w, v = some w → zvv S'.2.2.2.1 w) ∧ va_F A st t
/-- every method that comes to an end in cl keeps its contract -/
def zMt (l : Launch) (d : Nat) (cl : Nat → List ZV → ZS → Option ZX) : Prop := ∀ (mj : Nat) (av : List ZV) (S : ZS) (v : Option ZV) (S' : ZS), mj < 212 → cl mj av S = some (v, S') → ∀ (φ : ZPh) (cA : Nat → ClassId) (D : va_G) (L : Nat) (xs : Nat → Int32) (sz : Nat), zSk S.2.2.2.1 av →
  Met l (zyn mj) (zwsm mj) (zrm d S S') (va_Pc (av.map (zv φ)) (zPre φ cA D L xs S sz)) (zQm φ cA D L xs S S' v (va_A (zw φ cA S) sz)) (zkc S' - zkc S) (zks S' - zks S) (va_A (zw φ cA S) sz)
theorem zNw_warm {s U : State} (hW : s.WarmedH U.vm) (h : ∀ w ∈ zns, va_Nw w s) : ∀ w ∈ zns, va_Nw w U := by
  intro w hw
  have h1 := h w hw
  have h2 := (List.mem_filter.mp hw).2
  unfold zisn at h2
  split at h2
  · exact va_Nw.warmF hW h1
  · exact va_Nw.warmM hW h1
  · cases h2
theorem zNw_same {u U : State} (hvm : u.vm = U.vm) (h : ∀ w ∈ zns, va_Nw w u) : ∀ w ∈ zns, va_Nw w U := by
  intro w hw
  have h1 := h w hw
  have h2 := (List.mem_filter.mp hw).2
  unfold zisn at h2
  split at h2
  · exact va_Nw.same rfl hvm h1
  · exact va_Nw.same rfl hvm h1
  · cases h2
theorem zcode_word {mj : Nat} (h : mj < 212) : lw_tbl[zcp mj]? = some (.code (zyn mj) (zby mj) (zmx mj) (zrt mj)) := by
  have hm := zmm h
  unfold zmmb at hm
  simp only [Bool.and_eq_true] at hm
  have h1 := hm.1.1.1.1.1.1.1.1
  have hne : Nat.beq mj 212 = false := by
    cases hb : Nat.beq mj 212 with
    | false => rfl
    | true => have := Nat.eq_of_beq_eq_true hb; omega
  split at h1
  · rename_i y b mx rt e
    simp only [Bool.and_eq_true, decide_eq_true_eq] at h1
    obtain ⟨⟨h2, h3⟩, h4⟩ := h1
    have e2 : zby mj = b := by
      unfold zby
      rw [hne, e]
      rfl
    rw [e, h2, h3, h4, e2]
  · cases h1
theorem zgood_code (mj : Nat) : goodWord (.code (zyn mj) (zby mj) (zmx mj) (zrt mj)) = true := by
  first | rfl | simp [goodWord, Cond.onTables, Cond.keeps, Cond.steady]
theorem zgd_good : ∀ w ∈ zgd, goodWord w = true := fun w h => (List.mem_filter.mp h).2
theorem zgoodIn {ws : List Cond} (h : ∀ w ∈ ws, w ∈ zgd) : GoodIn zgd ws := fun w hw => ⟨h w hw, good_of_word (zgd_good w (h w hw))⟩
theorem zwsm_in {mj : Nat} (h : mj < 212) : ∀ w ∈ zwsm mj, w ∈ zgd := by
  intro w hw
  rcases List.mem_cons.mp hw with rfl | hw
  · exact zgd_of (zcode_word h) (zgood_code mj)
  · exact hw
set_option maxRecDepth 20000 in
theorem zroomle {a d r : Nat} (h : a ≤ 16) (h2 : 40 * (d + 1) + 400 ≤ r) : 8 + (a + 11) + (40 * d + 400) ≤ r := by omega
section CALL
variable {p : Program} {l : Launch} {e : Env} {R : Room} {s : State} {m : MethodId} {args : Array Value} {below : List Frame} {meth : Method} {c : Code} {H : Heap} {locs : List Loc} {cells slots : Nat} {Q : State → Prop}
variable {mi pc n : Nat} {cA : Nat → ClassId} {D : va_G} {A : Nat → Prop} {φ : ZPh} {L : Nat} {xs : Nat → Int32} {ls : Array Slot} {lz : ZL} {st : List ZV} {S S' : ZS} {ins : Instr} {len : Nat}
/-- behind a call -/
theorem zrun_W {st0 rest : List Value} {mc ms : Nat} {a : Array Value} {v : Option ZV} (hH : zHp φ cA D A s L xs H locs S)
    (hr : va_Run p l e R s m args below meth c H locs cells slots mc ms (F0 m pc ls st0) rest (zQm φ cA D L xs S S' v (va_A (zw φ cA S) H.size) a) (va_A (zw φ cA S) H.size))
    (kk : ∀ (φ' : ZPh) (H1 : Heap) (locs1 : List Loc), zEx S.2.2.2.1 φ φ' → zHp φ' cA D A s L xs H1 locs1 S' → (∀ w, v = some w → zvv S'.2.2.2.1 w) → W p l e R s m args below meth c H1 locs1 (cells + mc) (slots + ms) Q (F0 m (pc + 3) ls ((v.map (zv φ')).toList ++ rest))) : W p l e R s m args below meth c H locs cells slots Q (F0 m pc ls st0) := by
  obtain ⟨hP, hD, hS, hdv, hF, hA, hxs, hl⟩ := hH
  intro T hT X
  obtain ⟨v0, st₀, t, T', L0, h0, X', hL0, e1, e2, ⟨⟨φ', hv, hE, hP1, hD1, hd1, hx1, hl1, hv1⟩, hz, hk⟩, st⟩ := hr T hT X
  cases hv
  rw [h0] at hz hk
  have hfr : ∀ q, va_A (zw φ cA S) H.size q → A q := by
    intro q hq
    rcases hq with ⟨k, ee, hq⟩ | hq
    · exact hD.2 k (q, ee) hq
    · exact hA q (Nat.le_trans hS.1 hq)
  have hS1 : va_S A s.heap T'.heap (locs ++ L0) := ⟨Nat.le_trans hS.1 (by rw [e1]; exact hz), fun q h1 h2 => by rw [e1, hk q (Nat.lt_of_lt_of_le h1 hS.1) (fun z => h2 (hfr q z))]; exact hS.2.1 q h1 h2, fun q hq => by
      rcases List.mem_append.mp hq with h | h
      · exact hS.2.2 q h
      · exact hfr _ (hL0 q h)⟩
  obtain ⟨t2, a1, b1⟩ := kk φ' T'.heap (locs ++ L0) hE ⟨by rw [e1]; exact hP1, hD1.weaken (fun k q _ h => hfr q.1 h), hS1, hd1, hF.ex hE, hA, hx1, hl1⟩ hv1 T' rfl X'
  exact ⟨t2, st t2 a1, b1⟩
/-- what the caller has, is what the called one wants -/
theorem zpre_of (hC : zC p s m args c mi cA D) (hH : zHp φ cA D A s L xs H locs S) {U : State} (hU : U.heap = H) (hW : s.WarmedH U.vm) : zPre φ cA D L xs S H.size U := by
  obtain ⟨hx, hb, hml, hmi, hoc, hown, hts, htn, hK⟩ := hC
  obtain ⟨hP, hD, hS, hdv, hF, hA, hxs, hl⟩ := hH
  refine ⟨by rw [hU], by rw [hU]; exact hP, hK.moved hW.alike, hD.weaken (fun _ _ _ _ => trivial), hdv, ?_, zNw_warm hW htn, hxs, hl⟩
  rw [hU]
  refine ((hF.kept hS.2.1).moved hW.alike).narrow fun q hq hq2 => ?_
  rcases hq2 with ⟨k, ee, hq2⟩ | hq2
  · exact hD.2 k (q, ee) hq2
  · omega
theorem zpre_blind {av : List Value} {sz : Nat} : FrameBlind (va_Pc av (zPre φ cA D L xs S sz)) := by
  intro a U g mk h
  obtain ⟨h0, h1, h2, h3, h4, h5, h6, h7, h8, h9⟩ := h
  exact ⟨h0, h1, h2, va_K.moved (u := U) (U := U.calling g mk a) (Vm.Alike.refl U.vm) h3, h4, h5, zFz.moved (u := U) (U := U.calling g mk a) (Vm.Alike.refl U.vm) h6, zNw_same (u := U) (U := U.calling g mk a) rfl h7, h8, h9⟩
theorem zcat_le : ∀ (st : List ZV), ((st.map (zv φ)).map (fun v => v.category)).sum ≤ 2 * st.length
  | [] => Nat.le_refl _
  | v :: r => by
    have h := zcat_le r
    have h1 := zv_cat φ v
    simp only [List.map_cons, List.sum_cons, List.length_cons] at h ⊢
    rw [h1]
    split <;> omega
set_option maxHeartbeats 2000000 in
theorem zinv_ok {d c0 s0 k : Nat} {cl : Nat → List ZV → ZS → Option ZX} (hC : zC p s m args c mi cA D) (hH : zHp φ cA D A s L xs H locs S) (hMt : zMt l d cl) (hRf : d + 9 ≤ R.frames) (hRl : 40 * (d + 1) + 400 ≤ R.locals)
    (hc : zcode mi pc = some (ins, len)) (hin : ins = .invokevirtual k ∨ ins = .invokestatic k) {q : Nat × Nat × Nat} (hq : zmth (zoc mi) k = some q) (hlt : q.1 < 1000) {w : List ZV × List ZV} (hw : zpop q.2.1 [] st = some w) (hw4 : w.2.length ≤ 4) {v : Option ZV} (hcl : cl q.1 w.1 S = some (v, S')) (hrc : zrcv (zsg q.1) w.1 = true)
    (hSk : zSk S.2.2.2.1 st) (hle : zle S S') (h0 : c0 ≤ zkc S) (h1 : s0 ≤ zks S) (hB : zkc S' ≤ c0 + R.cells ∧ zks S' ≤ s0 + R.slots) (hls : ls.size = zmx mi)
    (kk : ∀ (φ' : ZPh) (H1 : Heap) (locs1 : List Loc), zEx S.2.2.2.1 φ φ' → zHp φ' cA D A s L xs H1 locs1 S' → (∀ w, v = some w → zvv S'.2.2.2.1 w) → W p l e R s m args below meth c H1 locs1 (zkc S' - c0) (zks S' - s0) Q (F0 m (pc + len) ls ((v.toList ++ w.2).map (zv φ')))) :
    W p l e R s m args below meth c H locs (zkc S - c0) (zks S - s0) Q (F0 m pc ls (st.map (zv φ))) := by
  obtain ⟨hdg, hck⟩ := zdec hc
  have hC0 := hC
  obtain ⟨hx, hb, hml, hmi, hoc, hown, hts, htn, hK⟩ := hC
  obtain ⟨ar, hst, hw1, har⟩ := zpop_spec _ _ _ _ hw
  rw [List.append_nil] at hw1
  have har2 : ar = w.1.reverse := by rw [hw1, List.reverse_reverse]
  have hSkr : zSk S.2.2.2.1 w.2 := fun v hv => hSk v (by rw [hst]; exact List.mem_append_right _ hv)
  have hSka : zSk S.2.2.2.1 w.1 := fun v hv => hSk v (by rw [hst, har2]; exact List.mem_append_left _ (List.mem_reverse.mpr hv))
  have hlen3 : len = 3 ∧ k < 1024 ∧ (ins = .invokevirtual k → (zsg q.1).isSome = true) ∧ (ins = .invokestatic k → (zsg q.1).isNone = true) := by
    have hb0 : Nat.ble 1000 q.1 = false := by
      cases hbb : Nat.ble 1000 q.1 with
      | false => rfl
      | true => have := Nat.ble_eq.mp hbb; omega
    rcases hin with rfl | rfl
    · simp only [zchk, Bool.and_eq_true, Nat.beq_eq, Nat.blt_eq, hq, hb0, Bool.false_or] at hck
      exact ⟨hck.1.1, hck.1.2, fun _ => hck.2, fun e => by cases e⟩
    · simp only [zchk, Bool.and_eq_true, Nat.beq_eq, Nat.blt_eq, hq, hb0, Bool.false_or] at hck
      exact ⟨hck.1.1, hck.1.2, fun e => (by cases e), fun _ => hck.2⟩
  obtain ⟨rfl, hk, hiv, his⟩ := hlen3
  have hwd := zmc hoc hk hq
  have hq' := hq
  unfold zmcb at hwd
  unfold zmth at hq'
  rw [hq'] at hwd
  obtain ⟨mj, na, rk⟩ := q
  dsimp only at hwd hlt hw hcl hrc hiv his har hw1
  have hb0 : Nat.ble 1000 mj = false := by
    cases hbb : Nat.ble 1000 mj with
    | false => rfl
    | true => have := Nat.ble_eq.mp hbb; omega
  rw [hb0, Bool.false_or] at hwd
  simp only [Bool.and_eq_true, Nat.blt_eq, Nat.beq_eq, decide_eq_true_eq] at hwd
  obtain ⟨⟨⟨⟨⟨⟨hmj, hlw⟩, hgw⟩, hna⟩, hrk⟩, hns⟩, hos⟩ := hwd
  unfold zmw at hlw hgw
  rw [show (zoc mi * 1024 + k) / 1024 = zoc mi by omega, show (zoc mi * 1024 + k) % 1024 = k by omega] at hlw hgw
  have hmm := zmm hmj
  unfold zmmb at hmm
  simp only [Bool.and_eq_true, Nat.blt_eq, Nat.ble_eq, decide_eq_true_eq] at hmm
  obtain ⟨⟨⟨⟨⟨⟨⟨⟨-, hi1⟩, hi2⟩, hkd⟩, hn1⟩, hn2⟩, hoc1⟩, hoc2⟩, hmx⟩ := hmm
  have hmp := zmp hmj
  unfold zmpb at hmp
  simp only [Bool.and_eq_true, decide_eq_true_eq] at hmp
  have hpar := hmp.1.1
  have hM := hMt mj w.1 S v S' hmj hcl φ cA D L xs H.size hSka
  have hini := hts _ (zgd_of hi1 hi2)
  have hG := zgoodIn (zwsm_in hmj)
  have hcat : 2 * (F0 m pc ls (st.map (zv φ))).monitorRoom + ((w.2.map (zv φ)).map fun v => v.category).sum ≤ 8 := by
    have h2 := zcat_le (φ := φ) w.2
    show 2 * 0 + _ ≤ 8
    omega
  have hroom : (zrm d S S').frames + 1 ≤ R.frames ∧ 8 + (zmx mj + 11) + (zrm d S S').locals ≤ R.locals := ⟨hRf, zroomle hmx hRl⟩
  have hfit : zkc S - c0 + (zkc S' - zkc S) ≤ R.cells ∧ zks S - s0 + (zks S' - zks S) ≤ R.slots := by
    have := hle.2.1
    have := hle.2.2
    omega
  have ecs : zkc S - c0 + (zkc S' - zkc S) = zkc S' - c0 ∧ zks S - s0 + (zks S' - zks S) = zks S' - s0 := by
    have := hle.2.1
    have := hle.2.2
    omega
  have fin : ∀ (a : Array Value), va_Run p l e R s m args below meth c H locs (zkc S - c0) (zks S - s0) (zkc S' - zkc S) (zks S' - zks S) (F0 m pc ls (st.map (zv φ))) (w.2.map (zv φ)) (zQm φ cA D L xs S S' v (va_A (zw φ cA S) H.size) a) (va_A (zw φ cA S) H.size) →
      W p l e R s m args below meth c H locs (zkc S - c0) (zks S - s0) Q (F0 m pc ls (st.map (zv φ))) := by
    intro a hr
    refine zrun_W hH hr fun φ' H1 locs1 hE hH1 hv1 => ?_
    rw [ecs.1, ecs.2]
    have := kk φ' H1 locs1 hE hH1 hv1
    rw [List.map_append, zmap_ex hE hSkr] at this
    have e9 : v.toList.map (zv φ') = (v.map (zv φ')).toList := by cases v <;> rfl
    rw [e9] at this
    exact this
  cases hsg : zsg mj with
  | none =>
    rw [hsg] at hkd hpar hiv
    have hstat : ins = .invokestatic k := by
      rcases hin with h | h
      · have := hiv h; cases this
      · exact h
    subst hstat
    simp only [Bool.and_eq_true, decide_eq_true_eq] at hkd
    have hstt := hts _ (zgd_of hkd.1 hkd.2)
    have hstk : st.map (zv φ) = (w.1.map (zv φ)).reverse ++ w.2.map (zv φ) := by rw [hst, har2, List.map_append, List.map_reverse]
    have hnl : (w.1.map (zv φ)).length = zna mj := by rw [List.length_map, hw1, List.length_reverse, har, hna]
    cases hnk : zmnk (zoc mi * 1024 + k) with
    | false =>
      rw [hnk] at hlw hgw hos
      rw [hsg] at hos
      have hos : zoc mj = zoc mi := by
        have h3 : Nat.beq (zoc mj) ((zoc mi * 1024 + k) / 1024) = true := by simpa using hos
        have h4 := Nat.eq_of_beq_eq_true h3
        omega
      have hlk := hts _ (zgd_of hlw hgw)
      refine fin _ (va_runS (Ts := zgd) (own := zRn (zoc mi)) (nL := zmx mi) ⟨hx, hb, hml, hown, hts⟩ hM ⟨callB_of (zna mj) hts hG rfl rfl rfl hini hlk ⟨hn1, hn2, hpar⟩ hroom, hstt⟩ ⟨zpre_blind, fun U hU hW => ⟨rfl, zpre_of hC0 hH hU hW⟩⟩ rfl hnl hls hstk hcat hdg hfit)
    | true =>
      rw [hnk] at hlw hgw
      have hlk := htn _ (zns_of hlw hgw)
      refine fin _ (va_runSN (Ts := zgd) (own := zRn (zoc mi)) (nL := zmx mi) ⟨hx, hb, hml, hown, hts⟩ hM ⟨va_cnB (zna mj) hts hG rfl rfl rfl hlk hini ⟨hn1, hn2, hpar⟩ hroom, hstt, trivial⟩ ⟨zpre_blind, fun U hU hW => ⟨rfl, zpre_of hC0 hH hU hW⟩⟩ rfl hnl hls hstk hcat hdg hfit)
  | some t =>
    rw [hsg] at hkd hpar his hrc hns
    have hvirt : ins = .invokevirtual k := by
      rcases hin with h | h
      · exact h
      · have := his h; cases this
    subst hvirt
    simp only [Bool.and_eq_true, decide_eq_true_eq, Nat.blt_eq] at hkd
    obtain ⟨⟨⟨⟨⟨g1, g2⟩, g3⟩, g4⟩, g5⟩, g6⟩ := hkd
    have hinst := hts _ (zgd_of g1 g2)
    have hsel := hts _ (zgd_of g3 g4)
    have hnk : zmnk (zoc mi * 1024 + k) = false := by
      cases hb : zmnk (zoc mi * 1024 + k) with
      | false => rfl
      | true => rw [hb] at hns; cases hns
    rw [hnk] at hlw hgw
    have hlk := hts _ (zgd_of hlw hgw)
    unfold zrcv at hrc
    dsimp only at hrc
    split at hrc
    · rename_i t' i as hwa
      have et : t' = t := Nat.eq_of_beq_eq_true hrc
      subst et
      have hval : i < zct S.2.2.2.1 t' := hSka (.inr (.inr (some (t', i)))) (by rw [hwa]; exact List.mem_cons_self) (t', i) rfl
      have hstk : st.map (zv φ) = (as.map (zv φ)).reverse ++ .ref (φ t' i) :: w.2.map (zv φ) := by
        rw [hst, har2, hwa, List.map_append, List.reverse_cons, List.map_append, List.map_reverse, List.append_assoc]
        rfl
      have hnl : (as.map (zv φ)).length = zna mj - 1 := by
        have h5 : w.1.length = zna mj := by rw [hw1, List.length_reverse, har, hna]
        rw [hwa, List.length_cons] at h5
        rw [List.length_map]
        omega
      obtain ⟨hP, hD, hS, hdv, hF, hA, hxs, hl⟩ := id hH
      obtain ⟨k0, -, hw0⟩ := zw_at (φ := φ) (cA := cA) (S := S) (t := t') (i := i) (by unfold zwt; rw [Bool.or_eq_true]; exact Or.inl (Nat.blt_eq.mpr g6)) hval
      unfold zce at hw0
      rw [if_pos g6] at hw0
      have hrcv := va_recv hK hP (zCl_at t' (Nat.zero_le _) g6) hw0
      dsimp only at hrcv
      rw [← g5] at hrcv
      have hcb : (w.1.map (zv φ)) = Value.ref (φ t' i) :: as.map (zv φ) := by rw [hwa]; rfl
      refine fin _ (va_runV (Ts := zgd) (own := zRn (zoc mi)) (nL := zmx mi) (As := as.map (zv φ)) ⟨hx, hb, hml, hown, hts⟩ hM ⟨callB_of (zna mj - 1) hts hG rfl rfl rfl hini hlk ⟨hn1, hn2, hpar⟩ hroom, hinst, hsel⟩ ⟨zpre_blind, hrcv, fun U hU hW => ⟨by rw [hcb], zpre_of hC0 hH hU hW⟩⟩ rfl hnl hls hstk hcat hdg hfit)
    · cases hrc
end CALL
end
section
/-! WHAT IS OWED still: string constants, statics, a new line, the JDK's methods and the law's look -/
section REST
variable {p : Program} {l : Launch} {e : Env} {R : Room} {s : State} {m : MethodId} {args : Array Value} {below : List Frame} {meth : Method} {c : Code} {H : Heap} {locs : List Loc} {cells slots : Nat} {Q : State → Prop}
variable {mi pc n : Nat} {cA : Nat → ClassId} {D : va_G} {A : Nat → Prop} {φ : ZPh} {L : Nat} {xs : Nat → Int32} {ls : Array Slot} {lz : ZL} {st : List ZV} {S S' : ZS} {ins : Instr} {len : Nat}
theorem zldcs_ok {k i : Nat} (hC : zC p s m args c mi cA D) (hH : zHp φ cA D A s L xs H locs S) (hc : zcode mi pc = some (.ldc k, len)) (hz : zldc (zoc mi) k = some (.inr i))
    (kk : i < 14 → W p l e R s m args below meth c H locs cells slots Q (F0 m (pc + len) ls (.ref (φ 13 i) :: st.map (zv φ)))) :
    W p l e R s m args below meth c H locs cells slots Q (F0 m pc ls (st.map (zv φ))) := by
  sorry
theorem zgets_ok {k : Nat} {q : Nat × Nat} (hC : zC p s m args c mi cA D) (hH : zHp φ cA D A s L xs H locs S) (hc : zcode mi pc = some (.getstatic k, len)) (hz : zsta (zoc mi) k = some q)
    (kk : q.2 < zct S.2.2.2.1 q.1 → W p l e R s m args below meth c H locs cells slots Q (F0 m (pc + len) ls (.ref (φ q.1 q.2) :: st.map (zv φ)))) :
    W p l e R s m args below meth c H locs cells slots Q (F0 m pc ls (st.map (zv φ))) := by
  sorry
theorem znew_ok {d c0 s0 k i0 : Nat} {home : Int32} (hC : zC p s m args c mi cA D) (hH : zHp φ cA D A s L xs H locs S) (hRf : d + 9 ≤ R.frames) (hRl : 40 * (d + 1) + 400 ≤ R.locals) (hc : zcode mi pc = some (.new k, len)) (hat : znewat mi pc = true)
    (hL : zLo φ S.2.2.2.1 (zmx mi) ls lz) (h1 : zget 1 lz = some (.inl home)) (h0 : zget 0 lz = some (.inr (.inr (some (0, i0))))) (hSk : zSk S.2.2.2.1 st) (h4 : st.length ≤ 4) (hc0 : c0 ≤ zkc S) (hs0 : s0 ≤ zks S) (hB : zkc S + 3 ≤ c0 + R.cells ∧ zks S + 114 ≤ s0 + R.slots)
    (kk : ∀ (φ' : ZPh) (H1 : Heap) (locs1 : List Loc), zEx S.2.2.2.1 φ φ' → zHp φ' cA D A s L xs H1 locs1 (zline S.1 S.2.2.2.1 (S.1 0 i0 3) home, S.2.1, S.2.2.1, S.2.2.2.1 + 1, S.2.2.2.2.1 + 3, S.2.2.2.2.2 + 114) → W p l e R s m args below meth c H1 locs1 (zkc S + 3 - c0) (zks S + 114 - s0) Q (F0 m (pc + 12) ls (.ref (φ' 2 S.2.2.2.1) :: st.map (zv φ')))) :
    W p l e R s m args below meth c H locs (zkc S - c0) (zks S - s0) Q (F0 m pc ls (st.map (zv φ))) := by
  sorry
theorem zprm_ok {d c0 s0 k : Nat} {cl : Nat → List ZV → ZS → Option ZX} (hC : zC p s m args c mi cA D) (hH : zHp φ cA D A s L xs H locs S) (hMt : zMt l d cl) (hRf : d + 10 ≤ R.frames) (hRl : 40 * (d + 2) + 400 ≤ R.locals)
    (hc : zcode mi pc = some (ins, len)) (hin : ins = .invokevirtual k ∨ ins = .invokestatic k) {q : Nat × Nat × Nat} (hq : zmth (zoc mi) k = some q) (hge : 1000 ≤ q.1) {w : List ZV × List ZV} (hw : zpop q.2.1 [] st = some w) (hw4 : w.2.length ≤ 4) {v : Option ZV} (hcl : zprim cl q.1 w.1 S = some (v, S'))
    (hSk : zSk S.2.2.2.1 st) (hle : zle S S') (h0 : c0 ≤ zkc S) (h1 : s0 ≤ zks S) (hB : zkc S' ≤ c0 + R.cells ∧ zks S' ≤ s0 + R.slots) (hls : ls.size = zmx mi)
    (kk : ∀ (φ' : ZPh) (H1 : Heap) (locs1 : List Loc), zEx S.2.2.2.1 φ φ' → zHp φ' cA D A s L xs H1 locs1 S' → (∀ w, v = some w → zvv S'.2.2.2.1 w) → W p l e R s m args below meth c H1 locs1 (zkc S' - c0) (zks S' - s0) Q (F0 m (pc + len) ls ((v.toList ++ w.2).map (zv φ')))) :
    W p l e R s m args below meth c H locs (zkc S - c0) (zks S - s0) Q (F0 m pc ls (st.map (zv φ))) := by
  sorry
end REST
end
section
/-! THE MACHINE'S RUN is the abstract machine's -/
theorem zEx.tr {n n' : Nat} {φ φ' φ2 : ZPh} (h : zEx n φ φ') (hn : n ≤ n') (h2 : zEx n' φ' φ2) : zEx n φ φ2 :=
  ⟨fun t a b c => (h2.1 t a b c).trans (h.1 t a b c), fun t i hi => (h2.2 t i (Nat.lt_of_lt_of_le hi (zct_mono hn))).trans (h.2 t i hi)⟩
/-- a return instruction that gives v back -/
def zRet (mi pc : Nat) (v : Option ZV) : Prop := match v with
  | none => zcode mi pc = some (.return_, 1) ∧ zrk mi = 0
  | some (.inl x) => zcode mi pc = some (.ireturn, 1) ∧ zrk mi = 1 ∧ (zrz mi = true → zbl x = true)
  | some (.inr (.inl _)) => zcode mi pc = some (.lreturn, 1) ∧ zrk mi = 2
  | some (.inr (.inr _)) => zcode mi pc = some (.areturn, 1) ∧ zrk mi = 3
theorem zt_of {pc : Nat} {o : Int} (h : zj pc o = true) : (pc : Int) + o = (zt pc o : Int) := by
  unfold zj at h
  have h := of_decide_eq_true h
  show (pc : Int) + o = (((pc : Int) + o).toNat : Int)
  omega
theorem zcs_at {lo : Int} : ∀ {n : Nat}, zcs lo n = true → ∀ k, k < n → zcst (lo + k) = Int32.ofInt (lo + k)
  | 0, _, k, h => absurd h (Nat.not_lt_zero k)
  | n + 1, hz, k, h => by
    unfold zcs at hz
    simp only [Bool.and_eq_true, decide_eq_true_eq] at hz
    by_cases hk : k = n
    · subst hk; exact hz.1
    · exact zcs_at hz.2 k (by omega)
/-- a table switch: the target of x, or the default -/
theorem zsw_spec {α : Type} {x : Int32} {k : Nat → Option α} {df : Nat} {r : α} : ∀ {ts : List Nat} {lo : Int}, zsw x k df ts lo = some r → (∃ (j : Nat) (t : Nat), ts[j]? = some t ∧ x = zcst (lo + j) ∧ k t = some r) ∨ ((∀ j : Nat, j < ts.length → x ≠ zcst (lo + j)) ∧ k df = some r)
  | [], lo, h => Or.inr ⟨fun j hj => absurd hj (Nat.not_lt_zero j), h⟩
  | t :: ts, lo, h => by
    unfold zsw at h
    rcases zif_inv h with ⟨hx, h⟩ | ⟨hx, h⟩
    · exact Or.inl ⟨0, t, rfl, by rw [hx]; congr 1; omega, h⟩
    · rcases zsw_spec h with ⟨j, t', h1, h2, h3⟩ | ⟨h1, h2⟩
      · exact Or.inl ⟨j + 1, t', h1, by rw [h2]; congr 1; omega, h3⟩
      · refine Or.inr ⟨fun j hj => ?_, h2⟩
        cases j with
        | zero => intro e; exact hx (by rw [e]; congr 1; omega)
        | succ j => intro e; exact h1 j (by simp only [List.length_cons] at hj; omega) (by rw [e]; congr 1; omega)
theorem zof_inj {φ : ZPh} {n : Nat} {a b : Option ZR} (hinj : ∀ r r' : ZR, zvr n r → zvr n r' → (r.1 = 9 ∨ r.1 = 12) → (r'.1 = 9 ∨ r'.1 = 12) → φ r.1 r.2 = φ r'.1 r'.2 → r = r') (ha : zvo n a) (hb : zvo n b) (ca : zcmb a = true) (cb : zcmb b = true) : zof φ a = zof φ b ↔ a = b := by
  refine ⟨fun h => ?_, fun h => by rw [h]⟩
  rcases a with _ | ⟨t, i⟩ <;> rcases b with _ | ⟨t', i'⟩
  · rfl
  · cases h
  · cases h
  · have h := Option.some.inj h
    have c1 : t = 9 ∨ t = 12 := by
      simp only [zcmb, Bool.or_eq_true] at ca
      rcases ca with h | h
      · exact Or.inl (Nat.eq_of_beq_eq_true h)
      · exact Or.inr (Nat.eq_of_beq_eq_true h)
    have c2 : t' = 9 ∨ t' = 12 := by
      simp only [zcmb, Bool.or_eq_true] at cb
      rcases cb with h | h
      · exact Or.inl (Nat.eq_of_beq_eq_true h)
      · exact Or.inr (Nat.eq_of_beq_eq_true h)
    rw [hinj (t, i) (t', i') (ha _ rfl) (hb _ rfl) c1 c2 h]
theorem zfks_ty : zfks.all (fun k => match zfldk k with
  | some (_, _, ty) => Nat.ble ty 5
  | none => true) = true := by decide +kernel
theorem zfk_only {oc k : Nat} {q : Nat × Nat × Nat} (hoc : oc < 14) (hk : k < 1024) (h : zfld oc k = some q) : q.2.2 ≤ 5 := by
  unfold zfld at h
  rcases zfk_in oc (Nat.zero_le _) hoc k hk with h1 | h1
  · rw [h1] at h; cases h
  · have h2 := List.all_eq_true.mp zfks_ty _ h1
    rw [h] at h2
    exact Nat.ble_eq.mp h2
theorem zTW_fin (f : Nat) : (zTW f).2.2.2 = true := by
  unfold zTW
  split <;> rfl
theorem zput_12 {mi pc k len t f ty : Nat} (hck : zchk mi pc (.putfield k) len = true) (hf : zfld (zoc mi) k = some (t, f, ty)) (ht : t < 13) : t < 12 := by
  simp only [zchk, Bool.and_eq_true, hf] at hck
  by_cases h : t = 12
  · subst h
    have h1 : (!(zTW f).2.2.2) = true := hck.2
    rw [zTW_fin f] at h1
    cases h1
  · omega
theorem zchk_1024 {mi pc k len : Nat} (hck : zchk mi pc (.putfield k) len = true) : k < 1024 := by
  simp only [zchk, Bool.and_eq_true, Nat.blt_eq] at hck
  exact hck.1.2
theorem zchk_1024g {mi pc k len : Nat} (hck : zchk mi pc (.getfield k) len = true) : k < 1024 := by
  simp only [zchk, Bool.and_eq_true, Nat.blt_eq] at hck
  exact hck.2
theorem zif_t {α : Type} {c : Prop} {a b : Option α} {r : α} (h : zif c a b = some r) (hc : c) : a = some r := by rwa [zif_pos hc] at h
theorem zif_f {α : Type} {c : Prop} {a b : Option α} {r : α} (h : zif c a b = some r) (hc : ¬ c) : b = some r := by rwa [zif_neg hc] at h
theorem zfty3 {ty : FieldType} (h : zftyk 3 ty = true) : ∃ nm, ty = .object nm := by
  cases ty <;> first | exact ⟨_, rfl⟩ | cases h
section GO
variable {p : Program} {l : Launch} {e : Env} {R : Room} {s : State} {m : MethodId} {args : Array Value} {below : List Frame} {meth : Method} {c : Code} {Q : State → Prop}
variable {mi : Nat} {cA : Nat → ClassId} {D : va_G} {A : Nat → Prop} {L : Nat} {xs : Nat → Int32}
/-- wishes and words: different ones are different cells -/
theorem zinj {φ : ZPh} {H : Heap} {locs : List Loc} {S : ZS} (hH : zHp φ cA D A s L xs H locs S) : ∀ r r' : ZR, zvr S.2.2.2.1 r → zvr S.2.2.2.1 r' → (r.1 = 9 ∨ r.1 = 12) → (r'.1 = 9 ∨ r'.1 = 12) → φ r.1 r.2 = φ r'.1 r'.2 → r = r' := by
  obtain ⟨hP, hD, hS, hdv, hF, hA, hxs, hl⟩ := hH
  have w9 : ∀ i, zvr S.2.2.2.1 (9, i) → A (φ 9 i) := by
    intro i hi
    obtain ⟨k0, -, hw0⟩ := zw_at (φ := φ) (cA := cA) (S := S) (t := 9) (i := i) rfl hi
    exact hD.2 k0 _ hw0
  have w12 : ∀ i, zvr S.2.2.2.1 (12, i) → ¬ A (φ 12 i) := by
    intro i hi
    have hi : i < 13 := hi
    obtain ⟨cell, -, -, -, h4⟩ := (hF.1.1 i hi).2.1
    exact h4
  rintro ⟨t, i⟩ ⟨t', i'⟩ h1 h2 (e1 | e1) (e2 | e2) he <;> dsimp only at e1 e2 he <;> subst e1 <;> subst e2
  · obtain ⟨k0, hk0, hw0⟩ := zw_at (φ := φ) (cA := cA) (S := S) (t := 9) (i := i) rfl h1
    obtain ⟨k1, hk1, hw1⟩ := zw_at (φ := φ) (cA := cA) (S := S) (t := 9) (i := i') rfl h2
    have := hD.1 k0 k1 _ _ hw0 hw1 he
    subst this
    rw [hk0] at hk1
    exact Option.some.inj hk1
  · exact absurd (he ▸ w9 i h1) (w12 i' h2)
  · exact absurd (he.symm ▸ w9 i' h2) (w12 i h1)
  · rw [hF.1.2 i i' h1 h2 he]
set_option maxHeartbeats 8000000 in
set_option maxRecDepth 100000 in
theorem zgo_ok {α : Type} {d c0 s0 n0 : Nat} {φ0 : ZPh} (κ : Nat → ZL → List ZV → ZS → Option α) (ρ : Option ZV → ZS → Option α) (r : α) (hC : zC p s m args c mi cA D) (hMt : ∀ d', d' ≤ d → zMt l d' (zcall d')) (hRf : d + 9 ≤ R.frames) (hRl : 40 * (d + 1) + 400 ≤ R.locals)
    (Bκ : ∀ pc lz st S, κ pc lz st S = some r → zkc S ≤ c0 + R.cells ∧ zks S ≤ s0 + R.slots) (Bρ : ∀ v S, ρ v S = some r → zkc S ≤ c0 + R.cells ∧ zks S ≤ s0 + R.slots)
    (Kκ : ∀ (pc : Nat) (lz : ZL) (st : List ZV) (S : ZS) (φ : ZPh) (H : Heap) (locs : List Loc) (ls : Array Slot), κ pc lz st S = some r → zHp φ cA D A s L xs H locs S → zLo φ S.2.2.2.1 (zmx mi) ls lz → zSk S.2.2.2.1 st → zEx n0 φ0 φ → n0 ≤ S.2.2.2.1 → c0 ≤ zkc S → s0 ≤ zks S → W p l e R s m args below meth c H locs (zkc S - c0) (zks S - s0) Q (F0 m pc ls (st.map (zv φ))))
    (Kρ : ∀ (v : Option ZV) (pc : Nat) (S : ZS) (φ : ZPh) (H : Heap) (locs : List Loc) (ls : Array Slot), ρ v S = some r → zHp φ cA D A s L xs H locs S → (∀ w, v = some w → zvv S.2.2.2.1 w) → zEx n0 φ0 φ → n0 ≤ S.2.2.2.1 → c0 ≤ zkc S → s0 ≤ zks S → zRet mi pc v → W p l e R s m args below meth c H locs (zkc S - c0) (zks S - s0) Q (F0 m pc ls (v.toList.map (zv φ)))) :
    ∀ (j : Nat) (b : Bool) (pc : Nat) (lz : ZL) (st : List ZV) (S : ZS) (φ : ZPh) (H : Heap) (locs : List Loc) (ls : Array Slot), zgo (zcall d) mi (zoc mi) κ ρ j b pc lz st S = some r → zHp φ cA D A s L xs H locs S → zLo φ S.2.2.2.1 (zmx mi) ls lz → zSk S.2.2.2.1 st → zEx n0 φ0 φ → n0 ≤ S.2.2.2.1 → c0 ≤ zkc S → s0 ≤ zks S →
      W p l e R s m args below meth c H locs (zkc S - c0) (zks S - s0) Q (F0 m pc ls (st.map (zv φ)))
  | 0, _, _, _, _, _, _, _, _, _, h, _, _, _, _, _, _, _ => by unfold zgo at h; cases h
  | j + 1, b, pc, lz, st, S, φ, H, locs, ls, h, hH, hL, hSk, hE, hn, hc0, hs0 => by
    have ih := zgo_ok κ ρ r hC hMt hRf hRl Bκ Bρ Kκ Kρ j
    have bound : ∀ {b : Bool} {pc : Nat} {lz : ZL} {st : List ZV} {S1 : ZS}, zgo (zcall d) mi (zoc mi) κ ρ j b pc lz st S1 = some r → zkc S1 ≤ c0 + R.cells ∧ zks S1 ≤ s0 + R.slots := by
      intro b pc lz st S1 h
      rcases zgo_mono (zcall d) (zcall_mono d) mi (zoc mi) κ ρ r j b pc lz st S1 h with ⟨a1, a2, a3, S2, h1, h2⟩ | ⟨a1, S2, h1, h2⟩
      · have := Bκ _ _ _ _ h1
        exact ⟨Nat.le_trans h2.2.1 this.1, Nat.le_trans h2.2.2 this.2⟩
      · have := Bρ _ _ h1
        exact ⟨Nat.le_trans h2.2.1 this.1, Nat.le_trans h2.2.2 this.2⟩
    obtain ⟨hx, hb, hml, hmi, hoc, hown, hts, htn, hK⟩ := id hC
    unfold zgo at h
    unfold zel at h
    split at h
    · exact Kκ _ _ _ _ _ _ _ _ h hH (hL.mask _) hSk hE hn hc0 hs0
    · obtain ⟨⟨ins, len⟩, hc, hh⟩ := zob_inv h; clear h; have h := hh; clear hh
      obtain ⟨hdg, hck⟩ := zdec hc
      have dflt : (∀ n, ins ≠ .getstatic n) → ins ≠ .arraylength → (∀ n i, ins = .ldc n → zldc (zoc mi) n ≠ some (.inr i)) → zob (zop (zoc mi) ins lz st S) (fun q => zgo (zcall d) mi (zoc mi) κ ρ j true (pc + len) q.1 q.2.1 q.2.2) = some r → W p l e R s m args below meth c H locs (zkc S - c0) (zks S - s0) Q (F0 m pc ls (st.map (zv φ))) := by
        intro n1 n2 n3 h
        obtain ⟨⟨l', st', S'⟩, hq, h9⟩ := zob_inv h
        have eS : S' = S := zop_S hq
        dsimp only at h9
        clear h
        subst eS
        have h := h9
        exact zop_ok hC hc hL hSk n1 n2 n3 hq (fun ls' _ hL' hS' => ih _ _ _ _ _ _ _ _ _ h hH hL' hS' hE hn hc0 hs0)
      have call : ∀ {k : Nat}, ins = .invokevirtual k ∨ ins = .invokestatic k → zcal (zcall d) (zoc mi) k st S (fun st' S' => zgo (zcall d) mi (zoc mi) κ ρ j true (pc + len) lz st' S') = some r → W p l e R s m args below meth c H locs (zkc S - c0) (zks S - s0) Q (F0 m pc ls (st.map (zv φ))) := by
        intro k hin h
        obtain ⟨q, w, v, S', hq, hw, hw4, hcl, h, -⟩ := zcal_inv h
        have hle := zcall_mono _ _ _ _ _ _ hcl
        have hB := bound h
        obtain ⟨ar, hst, -, -⟩ := zpop_spec _ _ _ _ hw
        have hSkr : zSk S'.2.2.2.1 w.2 := fun v hv => (hSk v (by rw [hst]; exact List.mem_append_right _ hv)).mono hle.1
        have fin : ∀ (φ' : ZPh) (H1 : Heap) (locs1 : List Loc), zEx S.2.2.2.1 φ φ' → zHp φ' cA D A s L xs H1 locs1 S' → (∀ w, v = some w → zvv S'.2.2.2.1 w) → W p l e R s m args below meth c H1 locs1 (zkc S' - c0) (zks S' - s0) Q (F0 m (pc + len) ls ((v.toList ++ w.2).map (zv φ'))) := by
          intro φ' H1 locs1 hE1 hH1 hv1
          refine ih _ _ _ _ _ _ _ _ _ h hH1 (hL.ex hE1 hle.1) (fun u hu => ?_) (hE.tr hn hE1) (Nat.le_trans hn hle.1) (Nat.le_trans hc0 hle.2.1) (Nat.le_trans hs0 hle.2.2)
          rcases List.mem_append.mp hu with hu | hu
          · cases v with
            | none => cases hu
            | some v =>
              rw [List.mem_singleton.mp hu]
              exact hv1 v rfl
          · exact hSkr u hu
        cases d with
        | zero => unfold zcall at hcl; cases hcl
        | succ d =>
          have hcl0 := hcl
          unfold zcall at hcl
          cases hb1 : Nat.ble 1000 q.1 with
          | true =>
            rw [hb1] at hcl
            exact zprm_ok hC hH (hMt d (Nat.le_succ d)) (by omega) (by omega) hc hin hq (Nat.ble_eq.mp hb1) hw hw4 hcl hSk hle hc0 hs0 hB hL.1.1 fin
          | false =>
            rw [hb1] at hcl
            obtain ⟨hrc, -⟩ := zcd_t hcl
            have hlt : q.1 < 1000 := by
              by_cases hh : q.1 < 1000
              · exact hh
              · have := Nat.ble_eq.mpr (Nat.not_lt.mp hh)
                rw [hb1] at this; cases this
            exact zinv_ok hC hH (hMt (d + 1) (Nat.le_refl _)) hRf hRl hc hin hq hlt hw hw4 hcl0 hrc hSk hle hc0 hs0 hB hL.1.1 fin
      cases ins
      case goto o =>
        simp only [zchk, Bool.and_eq_true, Nat.beq_eq] at hck
        obtain ⟨rfl, hj⟩ := hck
        exact lv_goto hx hb hdg (zt_of hj) (ih _ _ _ _ _ _ _ _ _ h hH hL hSk hE hn hc0 hs0)
      case ifCond c9 o =>
        simp only [zchk, Bool.and_eq_true, Nat.beq_eq] at hck
        obtain ⟨rfl, hj⟩ := hck
        obtain ⟨x, t, est, hh⟩ := zpi_inv h; clear h; subst est; have h := hh; clear hh
        have go : ∀ {b : Bool} {pc' : Nat}, zgo (zcall d) mi (zoc mi) κ ρ j b pc' lz t S = some r → W p l e R s m args below meth c H locs (zkc S - c0) (zks S - s0) Q (F0 m pc' ls (t.map (zv φ))) := fun h => ih _ _ _ _ _ _ _ _ _ h hH hL hSk.tail hE hn hc0 hs0
        cases c9
        · exact lv_if_eq hx hb hdg (zt_of hj) (fun q => go (zif_t h q)) (fun q => go (zif_f h q))
        · exact lv_if_ne hx hb hdg (zt_of hj) (fun q => go (zif_f h q)) (fun q => go (zif_t h q))
        · exact lv_if_lt hx hb hdg (zt_of hj) (fun q => go (zif_t h q)) (fun q => go (zif_f h q))
        · exact lv_if_ge hx hb hdg (zt_of hj) (fun q => go (zif_t h q)) (fun q => go (zif_f h q))
        · exact lv_if_gt hx hb hdg (zt_of hj) (fun q => go (zif_t h q)) (fun q => go (zif_f h q))
        · exact lv_if_le hx hb hdg (zt_of hj) (fun q => go (zif_t h q)) (fun q => go (zif_f h q))
      case if_icmp c9 o =>
        simp only [zchk, Bool.and_eq_true, Nat.beq_eq] at hck
        obtain ⟨rfl, hj⟩ := hck
        obtain ⟨y, t, est, hh⟩ := zpi_inv h; clear h; subst est; have h := hh; clear hh
        obtain ⟨x, t, est, hh⟩ := zpi_inv h; clear h; subst est; have h := hh; clear hh
        have go : ∀ {b : Bool} {pc' : Nat}, zgo (zcall d) mi (zoc mi) κ ρ j b pc' lz t S = some r → W p l e R s m args below meth c H locs (zkc S - c0) (zks S - s0) Q (F0 m pc' ls (t.map (zv φ))) := fun h => ih _ _ _ _ _ _ _ _ _ h hH hL hSk.tail.tail hE hn hc0 hs0
        cases c9
        · exact lv_icmp_eq hx hb hdg (zt_of hj) (fun q => go (zif_t h q)) (fun q => go (zif_f h q))
        · exact lv_icmp_ne hx hb hdg (zt_of hj) (fun q => go (zif_f h q)) (fun q => go (zif_t h q))
        · exact lv_icmp_lt hx hb hdg (zt_of hj) (fun q => go (zif_t h q)) (fun q => go (zif_f h q))
        · exact lv_icmp_ge hx hb hdg (zt_of hj) (fun q => go (zif_t h q)) (fun q => go (zif_f h q))
        · exact lv_icmp_gt hx hb hdg (zt_of hj) (fun q => go (zif_t h q)) (fun q => go (zif_f h q))
        · exact lv_icmp_le hx hb hdg (zt_of hj) (fun q => go (zif_t h q)) (fun q => go (zif_f h q))
      case if_acmp c9 o =>
        simp only [zchk, Bool.and_eq_true, Nat.beq_eq] at hck
        obtain ⟨rfl, hj⟩ := hck
        obtain ⟨y, t, est, hh⟩ := zpo_inv h; clear h; subst est; have h := hh; clear hh
        obtain ⟨x, t, est, hh⟩ := zpo_inv h; clear h; subst est; have h := hh; clear hh
        obtain ⟨cx, hh⟩ := zcm_inv h; clear h; have h := hh; clear hh
        obtain ⟨cy, hh⟩ := zcm_inv h; clear h; have h := hh; clear hh
        have hyv : zvo S.2.2.2.1 y := hSk.head
        have hxv : zvo S.2.2.2.1 x := hSk.tail.head
        have hiff := zof_inj (φ := φ) (zinj hH) hxv hyv cx cy
        have go : ∀ {b : Bool} {pc' : Nat}, zgo (zcall d) mi (zoc mi) κ ρ j b pc' lz t S = some r → W p l e R s m args below meth c H locs (zkc S - c0) (zks S - s0) Q (F0 m pc' ls (t.map (zv φ))) := fun h => ih _ _ _ _ _ _ _ _ _ h hH hL hSk.tail.tail hE hn hc0 hs0
        rw [List.map_cons, List.map_cons, zv_o, zv_o]
        cases c9
        · exact lv_acmp_eq hx hb hdg (zt_of hj) (fun q => go (zif_t h (hiff.mp q))) (fun q => go (zif_f h (fun z => q (hiff.mpr z))))
        · exact lv_acmp_ne hx hb hdg (zt_of hj) (fun q => go (zif_f h (fun z => q (hiff.mpr z)))) (fun q => go (zif_t h (hiff.mp q)))
      case ifnonnull o =>
        simp only [zchk, Bool.and_eq_true, Nat.beq_eq] at hck
        obtain ⟨rfl, hj⟩ := hck
        obtain ⟨x, t, est, hh⟩ := zpo_inv h; clear h; subst est; have h := hh; clear hh
        have go : ∀ {b : Bool} {pc' : Nat}, zgo (zcall d) mi (zoc mi) κ ρ j b pc' lz t S = some r → W p l e R s m args below meth c H locs (zkc S - c0) (zks S - s0) Q (F0 m pc' ls (t.map (zv φ))) := fun h => ih _ _ _ _ _ _ _ _ _ h hH hL hSk.tail hE hn hc0 hs0
        cases x with
        | none => exact lv_ifnonnullN hx hb hdg (go (zif_t h rfl))
        | some x => exact lv_ifnonnull hx hb hdg (zt_of hj) (go (zif_f h (fun z => by cases z)))
      case tableswitch df lo hi offs =>
        simp only [zchk, Bool.and_eq_true, decide_eq_true_eq] at hck
        obtain ⟨⟨⟨⟨⟨hj, hall⟩, hsz⟩, hlo⟩, hhi⟩, hz⟩ := hck
        obtain ⟨x, t, est, hh⟩ := zpi_inv h; clear h; subst est; have h := hh; clear hh
        have go : ∀ {b : Bool} {pc' : Nat}, zgo (zcall d) mi (zoc mi) κ ρ j b pc' lz t S = some r → W p l e R s m args below meth c H locs (zkc S - c0) (zks S - s0) Q (F0 m pc' ls (t.map (zv φ))) := fun h => ih _ _ _ _ _ _ _ _ _ h hH hL hSk.tail hE hn hc0 hs0
        have hint : ∀ k : Nat, k < offs.size → (zcst (lo + k)).toInt = lo + k := by
          intro k hk
          rw [zcs_at hz k hk]
          exact Int32.toInt_ofInt_of_le (by omega) (by omega)
        rcases zsw_spec h with ⟨k, tg, h1, h2, h3⟩ | ⟨h1, h2⟩
        · rw [List.getElem?_map] at h1
          cases ho : offs.toList[k]? with
          | none => rw [ho] at h1; cases h1
          | some off =>
            rw [ho] at h1
            cases h1
            have hk : k < offs.size := by
              have := (List.getElem?_eq_some_iff.mp ho).1
              rwa [Array.length_toList] at this
            have hxi := hint k hk
            rw [← h2] at hxi
            exact lv_tableIn hx hb hdg (by omega) (by omega) (by rw [hxi, show (lo + (k : Int) - lo).toNat = k by omega, ← Array.getElem?_toList]; exact ho) (zt_of (List.all_eq_true.mp hall off (List.mem_of_getElem? ho))) (go h3)
        · refine lv_tableOut hx hb hdg ?_ (zt_of hj) (go h2)
          by_cases q1 : x.toInt < lo
          · exact Or.inl q1
          · by_cases q2 : hi < x.toInt
            · exact Or.inr q2
            · exfalso
              have hk : (x.toInt - lo).toNat < offs.size := by omega
              refine h1 (x.toInt - lo).toNat (by rw [List.length_map, Array.length_toList]; exact hk) ?_
              have := hint _ hk
              exact Int32.toInt_inj.mp (by rw [this]; omega)
      case invokevirtual k => exact call (Or.inl rfl) h
      case invokestatic k => exact call (Or.inr rfl) h
      case invokespecial k =>
        exfalso
        obtain ⟨q, w, v, S', hq, -⟩ := zcal_inv h
        simp only [zchk, hq] at hck
        cases hck
      case ireturn =>
        obtain ⟨x, t, est, hh⟩ := zpi_inv h; clear h; subst est; have h := hh; clear hh
        obtain ⟨he, hh⟩ := zcd_t h; clear h; have h := hh; clear hh
        have ht : t = [] := List.isEmpty_iff.mp he
        subst ht
        simp only [zchk, Bool.and_eq_true, Nat.beq_eq] at hck
        obtain ⟨rfl, hrk⟩ := hck
        cases hz : zrz mi with
        | false =>
          rw [hz] at h
          exact Kρ (some (.inl x)) pc S φ H locs ls h hH (fun w hw => by cases hw; trivial) hE hn hc0 hs0 ⟨hc, hrk, fun e => by rw [hz] at e; cases e⟩
        | true =>
          rw [hz] at h
          obtain ⟨hbl, hh⟩ := zgb_inv h; clear h; have h := hh; clear hh
          exact Kρ (some (.inl x)) pc S φ H locs ls h hH (fun w hw => by cases hw; trivial) hE hn hc0 hs0 ⟨hc, hrk, fun _ => hbl⟩
      case lreturn =>
        obtain ⟨x, t, est, hh⟩ := zpl_inv h; clear h; subst est; have h := hh; clear hh
        obtain ⟨he, hh⟩ := zcd_t h; clear h; have h := hh; clear hh
        have ht : t = [] := List.isEmpty_iff.mp he
        subst ht
        simp only [zchk, Bool.and_eq_true, Nat.beq_eq] at hck
        obtain ⟨rfl, hrk⟩ := hck
        exact Kρ (some (.inr (.inl x))) pc S φ H locs ls h hH (fun w hw => by cases hw; trivial) hE hn hc0 hs0 ⟨hc, hrk⟩
      case areturn =>
        obtain ⟨x, t, est, hh⟩ := zpo_inv h; clear h; subst est; have h := hh; clear hh
        obtain ⟨he, hh⟩ := zcd_t h; clear h; have h := hh; clear hh
        have ht : t = [] := List.isEmpty_iff.mp he
        subst ht
        simp only [zchk, Bool.and_eq_true, Nat.beq_eq] at hck
        obtain ⟨rfl, hrk⟩ := hck
        exact Kρ (some (.inr (.inr x))) pc S φ H locs ls h hH (fun w hw => by cases hw; exact hSk.head) hE hn hc0 hs0 ⟨hc, hrk⟩
      case return_ =>
        obtain ⟨he, hh⟩ := zcd_t h; clear h; have h := hh; clear hh
        have ht : st = [] := List.isEmpty_iff.mp he
        subst ht
        simp only [zchk, Bool.and_eq_true, Nat.beq_eq] at hck
        obtain ⟨rfl, hrk⟩ := hck
        exact Kρ none pc S φ H locs ls h hH (fun w hw => by cases hw) hE hn hc0 hs0 ⟨hc, hrk⟩
      case new k =>
        obtain ⟨hat, hh⟩ := zcd_t h; clear h; have h := hh; clear hh
        have h4 : st.length ≤ 4 := sorry
        obtain ⟨home, hg1, hh⟩ := zli_inv h; clear h; have h := hh; clear hh
        obtain ⟨o, hg0, hh⟩ := zlo_inv h; clear h; have h := hh; clear hh
        obtain ⟨i0, est, hh⟩ := zder_inv h; clear h; subst est; have h := hh; clear hh
        have hB := bound h
        refine znew_ok (d := d) hC hH hRf hRl hc hat hL hg1 hg0 hSk h4 hc0 hs0 hB fun φ' H1 locs1 hE1 hH1 => ?_
        refine ih _ _ _ (.inr (.inr (some (2, S.2.2.2.1))) :: st) _ _ _ _ _ h hH1 (hL.ex hE1 (Nat.le_succ _)) (zSk.push (fun r hr => by cases hr; exact Nat.lt_succ_self _) (hSk.mono (Nat.le_succ _))) (hE.tr hn hE1) (Nat.le_trans hn (Nat.le_succ _)) (Nat.le_trans hc0 (Nat.le_add_right _ _)) (Nat.le_trans hs0 (Nat.le_add_right _ _))
      case idiv =>
        simp only [zchk, Nat.beq_eq] at hck
        subst hck
        obtain ⟨y, t, est, hh⟩ := zpi_inv h; clear h; subst est; have h := hh; clear hh
        obtain ⟨x, t, est, hh⟩ := zpi_inv h; clear h; subst est; have h := hh; clear hh
        obtain ⟨hz, hh⟩ := zcd_f h; clear h; have h := hh; clear hh
        exact lv_idiv hx hb hdg (of_decide_eq_false hz) (ih _ _ _ (.inl (x / y) :: t) _ _ _ _ _ h hH hL hSk.tail.tail.pushi hE hn hc0 hs0)
      case irem =>
        simp only [zchk, Nat.beq_eq] at hck
        subst hck
        obtain ⟨y, t, est, hh⟩ := zpi_inv h; clear h; subst est; have h := hh; clear hh
        obtain ⟨x, t, est, hh⟩ := zpi_inv h; clear h; subst est; have h := hh; clear hh
        obtain ⟨hz, hh⟩ := zcd_f h; clear h; have h := hh; clear hh
        exact lv_irem hx hb hdg (of_decide_eq_false hz) (ih _ _ _ (.inl (x - x / y * y) :: t) _ _ _ _ _ h hH hL hSk.tail.tail.pushi hE hn hc0 hs0)
      case getfield k =>
        obtain ⟨⟨t1, f1, ty1⟩, hf, hh⟩ := zob_inv h; clear h; have h := hh; clear hh
        obtain ⟨o, t, est, hh⟩ := zpo_inv h; clear h; subst est; have h := hh; clear hh
        obtain ⟨i, est, hh⟩ := zder_inv h; clear h; subst est; have h := hh; clear hh
        have hi : i < zct S.2.2.2.1 t1 := hSk.head (t1, i) rfl
        refine zgetf_ok (S := S) (st := t) hC hH hc hf hi fun hv hk9 => ?_
        have go : ∀ v, zav S t1 i f1 = v → zgo (zcall d) mi (zoc mi) κ ρ j true (pc + len) lz (v :: t) S = some r → W p l e R s m args below meth c H locs (zkc S - c0) (zks S - s0) Q (F0 m (pc + len) ls (zv φ (zav S t1 i f1) :: t.map (zv φ))) := by
          intro v hv2 h
          rw [hv2]
          exact ih _ _ _ (v :: t) _ _ _ _ _ h hH hL (zSk.push (by rw [← hv2]; exact hv) hSk.tail) hE hn hc0 hs0
        dsimp only at h
        unfold zav at go ⊢
        rw [hk9] at go ⊢
        split at h
        · exact go _ rfl h
        · exact go _ rfl h
        · exact go _ rfl h
        · exact go _ rfl h
        · exact go _ rfl h
        · rename_i q1 q2 q3 q4 q5
          have hty : ty1 = 5 := by
            by_cases h5 : ty1 = 5
            · exact h5
            · exfalso
              have := zfk_only hoc (zchk_1024g hck) hf
              dsimp only at this
              have : ty1 = 0 ∨ ty1 = 1 ∨ ty1 = 2 ∨ ty1 = 3 ∨ ty1 = 4 := by omega
              rcases this with e | e | e | e | e
              · exact q1 e
              · exact q2 e
              · exact q3 e
              · exact q4 e
              · exact q5 e
          subst hty
          exact go _ rfl h
      case putfield k =>
        obtain ⟨⟨t1, f1, ty1⟩, hf, hh⟩ := zob_inv h; clear h; have h := hh; clear hh
        have h12 : t1 < 12 := zput_12 hck hf (zlink hC (zchk_1024 hck) hf).2.1
        dsimp only at h
        split at h
        · obtain ⟨x, t, est, hh⟩ := zpi_inv h; clear h; subst est; have h := hh; clear hh
          obtain ⟨o, t, est, hh⟩ := zpo_inv h; clear h; subst est; have h := hh; clear hh
          obtain ⟨i, est, hh⟩ := zder_inv h; clear h; subst est; have h := hh; clear hh
          have hi : i < zct S.2.2.2.1 t1 := hSk.tail.head (t1, i) rfl
          have hk9 := (zlink hC (zchk_1024 hck) hf).2.2.1
          refine zputf_ok (S := S) (S' := (zu S.1 t1 i f1 x, S.2)) (st := t) (v := .inl x) hC hH hc hf h12 hi zOff.I (hH.2.2.2.1) (fun g hg => ?_) ?_ (fun _ hty => ?_) fun H1 locs1 hH1 => ih _ _ _ t (zu S.1 t1 i f1 x, S.2) _ _ _ _ h hH1 hL hSk.tail.tail hE hn hc0 hs0
          · unfold zav; dsimp only; rw [zu_k hg]
          · unfold zav; rw [hk9]; exact congrArg (fun y => (Sum.inl y : ZV)) zu_at
          · have := of_decide_eq_true hty
            rw [this]; exact ⟨rfl, rfl⟩
        · obtain ⟨x, t, est, hh⟩ := zpl_inv h; clear h; subst est; have h := hh; clear hh
          obtain ⟨o, t, est, hh⟩ := zpo_inv h; clear h; subst est; have h := hh; clear hh
          obtain ⟨i, est, hh⟩ := zder_inv h; clear h; subst est; have h := hh; clear hh
          have hi : i < zct S.2.2.2.1 t1 := hSk.tail.head (t1, i) rfl
          have hk9 := (zlink hC (zchk_1024 hck) hf).2.2.1
          refine zputf_ok (S := S) (S' := (S.1, zu S.2.1 t1 i f1 x, S.2.2)) (st := t) (v := .inr (.inl x)) hC hH hc hf h12 hi zOff.L (hH.2.2.2.1) (fun g hg => ?_) ?_ (fun _ hty => ?_) fun H1 locs1 hH1 => ih _ _ _ t (S.1, zu S.2.1 t1 i f1 x, S.2.2) _ _ _ _ h hH1 hL hSk.tail.tail hE hn hc0 hs0
          · unfold zav; dsimp only; rw [zu_k hg]
          · unfold zav; rw [hk9]; exact congrArg (fun y => (Sum.inr (Sum.inl y) : ZV)) zu_at
          · have := of_decide_eq_true hty
            rw [this]; exact ⟨rfl, rfl⟩
        · obtain ⟨x, t, est, hh⟩ := zpo_inv h; clear h; subst est; have h := hh; clear hh
          obtain ⟨o, t, est, hh⟩ := zpo_inv h; clear h; subst est; have h := hh; clear hh
          obtain ⟨i, est, hh⟩ := zder_inv h; clear h; subst est; have h := hh; clear hh
          have hi : i < zct S.2.2.2.1 t1 := hSk.tail.head (t1, i) rfl
          have hk9 := (zlink hC (zchk_1024 hck) hf).2.2.1
          refine zputf_ok (S := S) (S' := (S.1, S.2.1, zu S.2.2.1 t1 i f1 x, S.2.2.2)) (st := t) (v := .inr (.inr x)) hC hH hc hf h12 hi zOff.D (hH.2.2.2.1.D hSk.head) (fun g hg => ?_) ?_ (fun _ hty => ?_) fun H1 locs1 hH1 => ih _ _ _ t (S.1, S.2.1, zu S.2.2.1 t1 i f1 x, S.2.2.2) _ _ _ _ h hH1 hL hSk.tail.tail hE hn hc0 hs0
          · unfold zav; dsimp only; rw [zu_k hg]
          · unfold zav; rw [hk9]; exact congrArg (fun y => (Sum.inr (Sum.inr y) : ZV)) zu_at
          · obtain ⟨nm, e9⟩ := zfty3 hty
            rw [e9]
            rcases x with _ | x <;> exact ⟨rfl, rfl⟩
        · obtain ⟨x, t, est, hh⟩ := zpi_inv h; clear h; subst est; have h := hh; clear hh
          obtain ⟨o, t, est, hh⟩ := zpo_inv h; clear h; subst est; have h := hh; clear hh
          obtain ⟨i, est, hh⟩ := zder_inv h; clear h; subst est; have h := hh; clear hh
          obtain ⟨hbl, hh⟩ := zg_inv h; clear h; have h := hh; clear hh
          have hi : i < zct S.2.2.2.1 t1 := hSk.tail.head (t1, i) rfl
          have hk9 := (zlink hC (zchk_1024 hck) hf).2.2.1
          refine zputf_ok (S := S) (S' := (zu S.1 t1 i f1 x, S.2)) (st := t) (v := .inl x) hC hH hc hf h12 hi zOff.I (hH.2.2.2.1) (fun g hg => ?_) ?_ (fun _ hty => ?_) fun H1 locs1 hH1 => ih _ _ _ t (zu S.1 t1 i f1 x, S.2) _ _ _ _ h hH1 hL hSk.tail.tail hE hn hc0 hs0
          · unfold zav; dsimp only; rw [zu_k hg]
          · unfold zav; rw [hk9]; exact congrArg (fun y => (Sum.inl y : ZV)) zu_at
          · have := of_decide_eq_true hty
            rw [this]
            have hbl : x = 0 ∨ x = 1 := of_decide_eq_true hbl
            rcases hbl with rfl | rfl <;> exact ⟨rfl, rfl⟩
        · cases h
      case iaload =>
        obtain ⟨x, t, est, hh⟩ := zpi_inv h; clear h; subst est; have h := hh; clear hh
        obtain ⟨t1, i1, t2, est, hh⟩ := zpr_inv h; clear h; subst est; have h := hh; clear hh
        have hi : i1 < zct S.2.2.2.1 t1 := hSk.tail.head (t1, i1) rfl
        cases hb1 : (Nat.beq (zaty t1) 0 || Nat.beq (zaty t1) 7) with
        | true =>
          rw [hb1] at h
          obtain ⟨hin, hh⟩ := zg_inv h; clear h; have h := hh; clear hh
          rw [Bool.or_eq_true] at hb1
          exact zald_ok hC hH (Or.inl ⟨rfl, hb1.imp Nat.eq_of_beq_eq_true Nat.eq_of_beq_eq_true⟩) hc hi hin (ih _ _ _ (.inl _ :: t2) _ _ _ _ _ h hH hL hSk.tail.tail.pushi hE hn hc0 hs0)
        | false =>
          rw [hb1] at h
          obtain ⟨h6, hh⟩ := zcd_t h; clear h; have h := hh; clear hh
          obtain ⟨hin, hh⟩ := zg_inv h; clear h; have h := hh; clear hh
          exact zald6_ok hC hH (Nat.eq_of_beq_eq_true h6) hc hi hin (ih _ _ _ (.inl _ :: t2) _ _ _ _ _ h hH hL hSk.tail.tail.pushi hE hn hc0 hs0)
      case baload =>
        obtain ⟨x, t, est, hh⟩ := zpi_inv h; clear h; subst est; have h := hh; clear hh
        obtain ⟨t1, i1, t2, est, hh⟩ := zpr_inv h; clear h; subst est; have h := hh; clear hh
        have hi : i1 < zct S.2.2.2.1 t1 := hSk.tail.head (t1, i1) rfl
        obtain ⟨h6, hh⟩ := zcd_t h; clear h; have h := hh; clear hh
        obtain ⟨hin, hh⟩ := zg_inv h; clear h; have h := hh; clear hh
        exact zald_ok hC hH (Or.inr (Or.inl ⟨rfl, Nat.eq_of_beq_eq_true h6⟩)) hc hi hin (ih _ _ _ (.inl _ :: t2) _ _ _ _ _ h hH hL hSk.tail.tail.pushi hE hn hc0 hs0)
      case caload =>
        obtain ⟨x, t, est, hh⟩ := zpi_inv h; clear h; subst est; have h := hh; clear hh
        obtain ⟨t1, i1, t2, est, hh⟩ := zpr_inv h; clear h; subst est; have h := hh; clear hh
        have hi : i1 < zct S.2.2.2.1 t1 := hSk.tail.head (t1, i1) rfl
        obtain ⟨h6, hh⟩ := zcd_t h; clear h; have h := hh; clear hh
        obtain ⟨hin, hh⟩ := zg_inv h; clear h; have h := hh; clear hh
        exact zald_ok hC hH (Or.inr (Or.inr ⟨rfl, Nat.eq_of_beq_eq_true h6⟩)) hc hi hin (ih _ _ _ (.inl _ :: t2) _ _ _ _ _ h hH hL hSk.tail.tail.pushi hE hn hc0 hs0)
      case laload =>
        obtain ⟨x, t, est, hh⟩ := zpi_inv h; clear h; subst est; have h := hh; clear hh
        obtain ⟨t1, i1, t2, est, hh⟩ := zpr_inv h; clear h; subst est; have h := hh; clear hh
        have hi : i1 < zct S.2.2.2.1 t1 := hSk.tail.head (t1, i1) rfl
        obtain ⟨h6, hh⟩ := zcd_t h; clear h; have h := hh; clear hh
        obtain ⟨hin, hh⟩ := zg_inv h; clear h; have h := hh; clear hh
        exact zaldl_ok hC hH (Nat.eq_of_beq_eq_true h6) hc hi hin (ih _ _ _ (.inr (.inl _) :: t2) _ _ _ _ _ h hH hL hSk.tail.tail.pushl hE hn hc0 hs0)
      case aaload =>
        obtain ⟨x, t, est, hh⟩ := zpi_inv h; clear h; subst est; have h := hh; clear hh
        obtain ⟨t1, i1, t2, est, hh⟩ := zpr_inv h; clear h; subst est; have h := hh; clear hh
        have hi : i1 < zct S.2.2.2.1 t1 := hSk.tail.head (t1, i1) rfl
        cases hb1 : Nat.beq (zaty t1) 4 with
        | true =>
          rw [hb1] at h
          obtain ⟨hin, hh⟩ := zg_inv h; clear h; have h := hh; clear hh
          exact zaldo_ok hC hH hc hi hin (Or.inl ⟨Nat.eq_of_beq_eq_true hb1, rfl⟩) (fun hv => ih _ _ _ (.inr (.inr _) :: t2) _ _ _ _ _ h hH hL (zSk.push hv hSk.tail.tail) hE hn hc0 hs0)
        | false =>
          rw [hb1] at h
          obtain ⟨h6, hh⟩ := zcd_t h; clear h; have h := hh; clear hh
          obtain ⟨hin, hh⟩ := zg_inv h; clear h; have h := hh; clear hh
          exact zaldo_ok hC hH hc hi hin (Or.inr ⟨Nat.eq_of_beq_eq_true h6, rfl⟩) (fun hv => ih _ _ _ (.inr (.inr _) :: t2) _ _ _ _ _ h hH hL (zSk.push hv hSk.tail.tail) hE hn hc0 hs0)
      case iastore =>
        obtain ⟨v, t, est, hh⟩ := zpi_inv h; clear h; subst est; have h := hh; clear hh
        obtain ⟨x, t, est, hh⟩ := zpi_inv h; clear h; subst est; have h := hh; clear hh
        obtain ⟨t1, i1, t2, est, hh⟩ := zpr_inv h; clear h; subst est; have h := hh; clear hh
        have hi : i1 < zct S.2.2.2.1 t1 := hSk.tail.tail.head (t1, i1) rfl
        obtain ⟨h6, hh⟩ := zcd_t h; clear h; have h := hh; clear hh
        obtain ⟨hin, hh⟩ := zg_inv h; clear h; have h := hh; clear hh
        exact zast_ok hC hH (Or.inl ⟨rfl, Nat.eq_of_beq_eq_true h6, rfl⟩) hc hi hin (fun H1 locs1 hH1 => ih _ _ _ t2 (zu S.1 t1 i1 (zx x) v, S.2) _ _ _ _ h hH1 hL hSk.tail.tail.tail hE hn hc0 hs0)
      case bastore =>
        obtain ⟨v, t, est, hh⟩ := zpi_inv h; clear h; subst est; have h := hh; clear hh
        obtain ⟨x, t, est, hh⟩ := zpi_inv h; clear h; subst est; have h := hh; clear hh
        obtain ⟨t1, i1, t2, est, hh⟩ := zpr_inv h; clear h; subst est; have h := hh; clear hh
        have hi : i1 < zct S.2.2.2.1 t1 := hSk.tail.tail.head (t1, i1) rfl
        obtain ⟨h6, hh⟩ := zcd_t h; clear h; have h := hh; clear hh
        obtain ⟨hin, hh⟩ := zg_inv h; clear h; have h := hh; clear hh
        obtain ⟨hbl, hh⟩ := zg_inv h; clear h; have h := hh; clear hh
        exact zast_ok hC hH (Or.inr (Or.inl ⟨rfl, Nat.eq_of_beq_eq_true h6, hbl, rfl⟩)) hc hi hin (fun H1 locs1 hH1 => ih _ _ _ t2 (zu S.1 t1 i1 (zx x) v, S.2) _ _ _ _ h hH1 hL hSk.tail.tail.tail hE hn hc0 hs0)
      case castore =>
        obtain ⟨v, t, est, hh⟩ := zpi_inv h; clear h; subst est; have h := hh; clear hh
        obtain ⟨x, t, est, hh⟩ := zpi_inv h; clear h; subst est; have h := hh; clear hh
        obtain ⟨t1, i1, t2, est, hh⟩ := zpr_inv h; clear h; subst est; have h := hh; clear hh
        have hi : i1 < zct S.2.2.2.1 t1 := hSk.tail.tail.head (t1, i1) rfl
        obtain ⟨h6, hh⟩ := zcd_t h; clear h; have h := hh; clear hh
        obtain ⟨hin, hh⟩ := zg_inv h; clear h; have h := hh; clear hh
        exact zast_ok hC hH (Or.inr (Or.inr ⟨rfl, Nat.eq_of_beq_eq_true h6, rfl⟩)) hc hi hin (fun H1 locs1 hH1 => ih _ _ _ t2 (zu S.1 t1 i1 (zx x) (v.toUInt32 % 65536).toInt32, S.2) _ _ _ _ h hH1 hL hSk.tail.tail.tail hE hn hc0 hs0)
      case lastore =>
        obtain ⟨v, t, est, hh⟩ := zpl_inv h; clear h; subst est; have h := hh; clear hh
        obtain ⟨x, t, est, hh⟩ := zpi_inv h; clear h; subst est; have h := hh; clear hh
        obtain ⟨t1, i1, t2, est, hh⟩ := zpr_inv h; clear h; subst est; have h := hh; clear hh
        have hi : i1 < zct S.2.2.2.1 t1 := hSk.tail.tail.head (t1, i1) rfl
        obtain ⟨h6, hh⟩ := zcd_t h; clear h; have h := hh; clear hh
        obtain ⟨hin, hh⟩ := zg_inv h; clear h; have h := hh; clear hh
        exact zastl_ok hC hH (Nat.eq_of_beq_eq_true h6) hc hi hin (fun H1 locs1 hH1 => ih _ _ _ t2 (S.1, zu S.2.1 t1 i1 (zx x) v, S.2.2) _ _ _ _ h hH1 hL hSk.tail.tail.tail hE hn hc0 hs0)
      case aastore =>
        obtain ⟨v, t, est, hh⟩ := zpo_inv h; clear h; subst est; have h := hh; clear hh
        obtain ⟨x, t, est, hh⟩ := zpi_inv h; clear h; subst est; have h := hh; clear hh
        obtain ⟨t1, i1, t2, est, hh⟩ := zpr_inv h; clear h; subst est; have h := hh; clear hh
        have hi : i1 < zct S.2.2.2.1 t1 := hSk.tail.tail.head (t1, i1) rfl
        obtain ⟨h6, hh⟩ := zcd_t h; clear h; have h := hh; clear hh
        obtain ⟨hin, hh⟩ := zg_inv h; clear h; have h := hh; clear hh
        obtain ⟨i2, est, hh⟩ := zder_inv h; clear h; subst est; have h := hh; clear hh
        have hj2 : i2 < zct S.2.2.2.1 2 := hSk.head (2, i2) rfl
        exact zasto_ok hC hH (Nat.eq_of_beq_eq_true h6) hc hi hj2 hin (fun H1 locs1 hH1 => ih _ _ _ t2 (S.1, S.2.1, zu S.2.2.1 t1 i1 (zx x) (some (2, i2)), S.2.2.2) _ _ _ _ h hH1 hL hSk.tail.tail.tail hE hn hc0 hs0)
      case ldc k =>
        cases hz : zldc (zoc mi) k with
        | none => exact dflt (fun n e => by cases e) (fun e => by cases e) (fun n i e => by cases e; rw [hz]; exact fun q => by cases q) h
        | some v =>
          cases v with
          | inl v => exact dflt (fun n e => by cases e) (fun e => by cases e) (fun n i e => by cases e; rw [hz]; exact fun q => by cases q) h
          | inr i =>
            refine zldcs_ok hC hH hc hz fun hi => ?_
            obtain ⟨q, hq, hh⟩ := zob_inv h; clear h; have h := hh; clear hh
            unfold zop at hq
            obtain ⟨v2, hv2, hq2⟩ := zob_inv hq
            rw [hz] at hv2
            cases hv2
            cases hq2
            exact ih _ _ _ (.inr (.inr (some (13, i))) :: st) _ _ _ _ _ h hH hL (zSk.push (fun r hr => by cases hr; exact hi) hSk) hE hn hc0 hs0
      case getstatic k =>
        obtain ⟨q, hq, hh⟩ := zob_inv h; clear h; have h := hh; clear hh
        unfold zop at hq
        obtain ⟨q2, hz, hq⟩ := zob_inv hq
        cases hq
        exact zgets_ok hC hH hc hz fun hi => ih _ _ _ (.inr (.inr (some (q2.1, q2.2))) :: st) _ _ _ _ _ h hH hL (zSk.push (fun r hr => by cases hr; exact hi) hSk) hE hn hc0 hs0
      case arraylength =>
        obtain ⟨q, hq, hh⟩ := zob_inv h; clear h; have h := hh; clear hh
        unfold zop at hq
        obtain ⟨t1, i1, t2, rfl, hq⟩ := zpr_inv hq
        obtain ⟨h9, hq⟩ := zcd_f hq
        cases hq
        have hi : i1 < zct S.2.2.2.1 t1 := hSk.head (t1, i1) rfl
        exact zalen_ok hC hH hc hi (fun e9 => by rw [e9] at h9; cases h9) (ih _ _ _ (.inl _ :: t2) _ _ _ _ _ h hH hL hSk.tail.pushi hE hn hc0 hs0)
      all_goals exact dflt (fun n e => by cases e) (fun e => by cases e) (fun n i e => by cases e) h
end GO
end
