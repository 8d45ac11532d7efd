-- ===== PART A: goes FIRST, ahead of the names: the tables' words, and 'selects' of the private methods out of them =====
/-- a private method of a class that the tables say can be made, by its rows of tables_1 -/
def lw_okq (q : MethodName × Nat) : Prop := (q.1.cls ≠ "java/lang/invoke/MethodHandle" ∧ q.1.cls ≠ "java/lang/invoke/VarHandle") ∧ Cond.instantiable q.1.cls q.2 ∈ tables_1 ∧ Cond.privateMethod q.1 ∈ tables_1 ∧ Cond.instanceMethod q.1 ∈ tables_1
theorem lw_p0 : lw_okq (⟨"DeepWings$World", "roomFor", "(I)LDeepWings$Glider;"⟩, 11) := ⟨⟨by decide +kernel, by decide +kernel⟩, List.mem_of_getElem? (i := 36) (by decide +kernel), List.mem_of_getElem? (i := 496) (by decide +kernel), List.mem_of_getElem? (i := 497) (by decide +kernel)⟩
theorem lw_p1 : lw_okq (⟨"DeepWings$Sea", "stepped", "(III)I"⟩, 7) := ⟨⟨by decide +kernel, by decide +kernel⟩, List.mem_of_getElem? (i := 42) (by decide +kernel), List.mem_of_getElem? (i := 651) (by decide +kernel), List.mem_of_getElem? (i := 652) (by decide +kernel)⟩
theorem lw_p2 : lw_okq (⟨"DeepWings$World", "measure", "(LDeepWings$Glider;I)V"⟩, 11) := ⟨⟨by decide +kernel, by decide +kernel⟩, List.mem_of_getElem? (i := 36) (by decide +kernel), List.mem_of_getElem? (i := 659) (by decide +kernel), List.mem_of_getElem? (i := 660) (by decide +kernel)⟩
theorem lw_p3 : lw_okq (⟨"DeepWings$World", "numberOf", "(LDeepWings$Glider;)I"⟩, 11) := ⟨⟨by decide +kernel, by decide +kernel⟩, List.mem_of_getElem? (i := 36) (by decide +kernel), List.mem_of_getElem? (i := 670) (by decide +kernel), List.mem_of_getElem? (i := 671) (by decide +kernel)⟩
theorem lw_p4 : lw_okq (⟨"DeepWings", "shelfAt", "(I)LDeepWings$Shelf;"⟩, 5) := ⟨⟨by decide +kernel, by decide +kernel⟩, List.mem_of_getElem? (i := 28) (by decide +kernel), List.mem_of_getElem? (i := 704) (by decide +kernel), List.mem_of_getElem? (i := 705) (by decide +kernel)⟩
theorem lw_p5 : lw_okq (⟨"DeepWings$OrderReader", "takeRule", "()Z"⟩, 4) := ⟨⟨by decide +kernel, by decide +kernel⟩, List.mem_of_getElem? (i := 302) (by decide +kernel), List.mem_of_getElem? (i := 717) (by decide +kernel), List.mem_of_getElem? (i := 718) (by decide +kernel)⟩
theorem lw_p6 : lw_okq (⟨"DeepWings$OrderReader", "takeCheck", "()Z"⟩, 4) := ⟨⟨by decide +kernel, by decide +kernel⟩, List.mem_of_getElem? (i := 302) (by decide +kernel), List.mem_of_getElem? (i := 721) (by decide +kernel), List.mem_of_getElem? (i := 722) (by decide +kernel)⟩
theorem lw_p7 : lw_okq (⟨"DeepWings$OrderReader", "take", "(C)Z"⟩, 4) := ⟨⟨by decide +kernel, by decide +kernel⟩, List.mem_of_getElem? (i := 302) (by decide +kernel), List.mem_of_getElem? (i := 725) (by decide +kernel), List.mem_of_getElem? (i := 726) (by decide +kernel)⟩
theorem lw_p8 : lw_okq (⟨"DeepWings$OrderReader", "takeOneOf", "(Ljava/lang/String;)I"⟩, 4) := ⟨⟨by decide +kernel, by decide +kernel⟩, List.mem_of_getElem? (i := 302) (by decide +kernel), List.mem_of_getElem? (i := 730) (by decide +kernel), List.mem_of_getElem? (i := 731) (by decide +kernel)⟩
theorem lw_p9 : lw_okq (⟨"DeepWings$OrderReader", "takeNumber", "()I"⟩, 4) := ⟨⟨by decide +kernel, by decide +kernel⟩, List.mem_of_getElem? (i := 302) (by decide +kernel), List.mem_of_getElem? (i := 783) (by decide +kernel), List.mem_of_getElem? (i := 784) (by decide +kernel)⟩
theorem lw_p10 : lw_okq (⟨"DeepWings$OrderReader", "takeDigit", "(I)I"⟩, 4) := ⟨⟨by decide +kernel, by decide +kernel⟩, List.mem_of_getElem? (i := 302) (by decide +kernel), List.mem_of_getElem? (i := 787) (by decide +kernel), List.mem_of_getElem? (i := 788) (by decide +kernel)⟩
theorem lw_p11 : lw_okq (⟨"DeepWings$OrderReader", "takeAct", "()Z"⟩, 4) := ⟨⟨by decide +kernel, by decide +kernel⟩, List.mem_of_getElem? (i := 302) (by decide +kernel), List.mem_of_getElem? (i := 795) (by decide +kernel), List.mem_of_getElem? (i := 796) (by decide +kernel)⟩
theorem lw_p12 : lw_okq (⟨"DeepWings$OrderReader", "takeLayer", "(II)Z"⟩, 4) := ⟨⟨by decide +kernel, by decide +kernel⟩, List.mem_of_getElem? (i := 302) (by decide +kernel), List.mem_of_getElem? (i := 803) (by decide +kernel), List.mem_of_getElem? (i := 804) (by decide +kernel)⟩
theorem lw_p13 : lw_okq (⟨"DeepWings$World", "sensed", "(LDeepWings$Glider;I)I"⟩, 11) := ⟨⟨by decide +kernel, by decide +kernel⟩, List.mem_of_getElem? (i := 36) (by decide +kernel), List.mem_of_getElem? (i := 849) (by decide +kernel), List.mem_of_getElem? (i := 850) (by decide +kernel)⟩
theorem lw_p14 : lw_okq (⟨"DeepWings$World", "obey", "(LDeepWings$Glider;LDeepWings$Order;)Z"⟩, 11) := ⟨⟨by decide +kernel, by decide +kernel⟩, List.mem_of_getElem? (i := 36) (by decide +kernel), List.mem_of_getElem? (i := 874) (by decide +kernel), List.mem_of_getElem? (i := 875) (by decide +kernel)⟩
theorem lw_p15 : lw_okq (⟨"DeepWings$Planner", "listEnds", "(III)V"⟩, 14) := ⟨⟨by decide +kernel, by decide +kernel⟩, List.mem_of_getElem? (i := 253) (by decide +kernel), List.mem_of_getElem? (i := 925) (by decide +kernel), List.mem_of_getElem? (i := 926) (by decide +kernel)⟩
def lw_privs_1 : List (MethodName × Nat) := [(⟨"DeepWings$World", "roomFor", "(I)LDeepWings$Glider;"⟩, 11), (⟨"DeepWings$Sea", "stepped", "(III)I"⟩, 7), (⟨"DeepWings$World", "measure", "(LDeepWings$Glider;I)V"⟩, 11), (⟨"DeepWings$World", "numberOf", "(LDeepWings$Glider;)I"⟩, 11), (⟨"DeepWings", "shelfAt", "(I)LDeepWings$Shelf;"⟩, 5), (⟨"DeepWings$OrderReader", "takeRule", "()Z"⟩, 4), (⟨"DeepWings$OrderReader", "takeCheck", "()Z"⟩, 4), (⟨"DeepWings$OrderReader", "take", "(C)Z"⟩, 4), (⟨"DeepWings$OrderReader", "takeOneOf", "(Ljava/lang/String;)I"⟩, 4), (⟨"DeepWings$OrderReader", "takeNumber", "()I"⟩, 4), (⟨"DeepWings$OrderReader", "takeDigit", "(I)I"⟩, 4), (⟨"DeepWings$OrderReader", "takeAct", "()Z"⟩, 4), (⟨"DeepWings$OrderReader", "takeLayer", "(II)Z"⟩, 4), (⟨"DeepWings$World", "sensed", "(LDeepWings$Glider;I)I"⟩, 11), (⟨"DeepWings$World", "obey", "(LDeepWings$Glider;LDeepWings$Order;)Z"⟩, 11), (⟨"DeepWings$Planner", "listEnds", "(III)V"⟩, 14)]
theorem lw_r1 : ∀ q ∈ lw_privs_1, lw_okq q := List.forall_mem_cons.mpr ⟨lw_p0, List.forall_mem_cons.mpr ⟨lw_p1, List.forall_mem_cons.mpr ⟨lw_p2, List.forall_mem_cons.mpr ⟨lw_p3, List.forall_mem_cons.mpr ⟨lw_p4, List.forall_mem_cons.mpr ⟨lw_p5, List.forall_mem_cons.mpr ⟨lw_p6, List.forall_mem_cons.mpr ⟨lw_p7, List.forall_mem_cons.mpr ⟨lw_p8, List.forall_mem_cons.mpr ⟨lw_p9, List.forall_mem_cons.mpr ⟨lw_p10, List.forall_mem_cons.mpr ⟨lw_p11, List.forall_mem_cons.mpr ⟨lw_p12, List.forall_mem_cons.mpr ⟨lw_p13, List.forall_mem_cons.mpr ⟨lw_p14, List.forall_mem_cons.mpr ⟨lw_p15, fun _ h => absurd h List.not_mem_nil⟩⟩⟩⟩⟩⟩⟩⟩⟩⟩⟩⟩⟩⟩⟩⟩
theorem lw_p16 : lw_okq (⟨"DeepWings$Planner", "addEnd", "(III)V"⟩, 14) := ⟨⟨by decide +kernel, by decide +kernel⟩, List.mem_of_getElem? (i := 253) (by decide +kernel), List.mem_of_getElem? (i := 931) (by decide +kernel), List.mem_of_getElem? (i := 932) (by decide +kernel)⟩
theorem lw_p17 : lw_okq (⟨"DeepWings$Planner", "gainBy", "(I)I"⟩, 14) := ⟨⟨by decide +kernel, by decide +kernel⟩, List.mem_of_getElem? (i := 253) (by decide +kernel), List.mem_of_getElem? (i := 935) (by decide +kernel), List.mem_of_getElem? (i := 936) (by decide +kernel)⟩
theorem lw_p18 : lw_okq (⟨"DeepWings$Planner", "worth", "(II)I"⟩, 14) := ⟨⟨by decide +kernel, by decide +kernel⟩, List.mem_of_getElem? (i := 253) (by decide +kernel), List.mem_of_getElem? (i := 940) (by decide +kernel), List.mem_of_getElem? (i := 941) (by decide +kernel)⟩
theorem lw_p19 : lw_okq (⟨"DeepWings$Planner", "sumMostFrom", "()V"⟩, 14) := ⟨⟨by decide +kernel, by decide +kernel⟩, List.mem_of_getElem? (i := 253) (by decide +kernel), List.mem_of_getElem? (i := 945) (by decide +kernel), List.mem_of_getElem? (i := 946) (by decide +kernel)⟩
theorem lw_p20 : lw_okq (⟨"DeepWings$Planner", "search", "(II)V"⟩, 14) := ⟨⟨by decide +kernel, by decide +kernel⟩, List.mem_of_getElem? (i := 253) (by decide +kernel), List.mem_of_getElem? (i := 949) (by decide +kernel), List.mem_of_getElem? (i := 950) (by decide +kernel)⟩
theorem lw_p21 : lw_okq (⟨"DeepWings$Planner", "isTaken", "(II)Z"⟩, 14) := ⟨⟨by decide +kernel, by decide +kernel⟩, List.mem_of_getElem? (i := 253) (by decide +kernel), List.mem_of_getElem? (i := 960) (by decide +kernel), List.mem_of_getElem? (i := 961) (by decide +kernel)⟩
theorem lw_p22 : lw_okq (⟨"DeepWings$Planner", "cover", "(II)V"⟩, 14) := ⟨⟨by decide +kernel, by decide +kernel⟩, List.mem_of_getElem? (i := 253) (by decide +kernel), List.mem_of_getElem? (i := 964) (by decide +kernel), List.mem_of_getElem? (i := 965) (by decide +kernel)⟩
theorem lw_p23 : lw_okq (⟨"DeepWings$Planner", "uncover", "(II)V"⟩, 14) := ⟨⟨by decide +kernel, by decide +kernel⟩, List.mem_of_getElem? (i := 253) (by decide +kernel), List.mem_of_getElem? (i := 968) (by decide +kernel), List.mem_of_getElem? (i := 969) (by decide +kernel)⟩
theorem lw_p24 : lw_okq (⟨"java/lang/Throwable", "fillInStackTrace", "(I)Ljava/lang/Throwable;"⟩, 6) := ⟨⟨by decide +kernel, by decide +kernel⟩, List.mem_of_getElem? (i := 1159) (by decide +kernel), List.mem_of_getElem? (i := 1157) (by decide +kernel), List.mem_of_getElem? (i := 1158) (by decide +kernel)⟩
theorem lw_p25 : lw_okq (⟨"DeepWingsModel", "isCell", "(II)Z"⟩, 37) := ⟨⟨by decide +kernel, by decide +kernel⟩, List.mem_of_getElem? (i := 1245) (by decide +kernel), List.mem_of_getElem? (i := 1367) (by decide +kernel), List.mem_of_getElem? (i := 1368) (by decide +kernel)⟩
theorem lw_p26 : lw_okq (⟨"DeepWingsModel", "is", "(III)Z"⟩, 37) := ⟨⟨by decide +kernel, by decide +kernel⟩, List.mem_of_getElem? (i := 1245) (by decide +kernel), List.mem_of_getElem? (i := 1371) (by decide +kernel), List.mem_of_getElem? (i := 1372) (by decide +kernel)⟩
theorem lw_p27 : lw_okq (⟨"DeepWingsModel", "isWater", "(II)Z"⟩, 37) := ⟨⟨by decide +kernel, by decide +kernel⟩, List.mem_of_getElem? (i := 1245) (by decide +kernel), List.mem_of_getElem? (i := 1391) (by decide +kernel), List.mem_of_getElem? (i := 1392) (by decide +kernel)⟩
theorem lw_p28 : lw_okq (⟨"DeepWingsModel", "isGlider", "(I)Z"⟩, 37) := ⟨⟨by decide +kernel, by decide +kernel⟩, List.mem_of_getElem? (i := 1245) (by decide +kernel), List.mem_of_getElem? (i := 1399) (by decide +kernel), List.mem_of_getElem? (i := 1400) (by decide +kernel)⟩
theorem lw_p29 : lw_okq (⟨"DeepWingsModel", "sinks", "(I)I"⟩, 37) := ⟨⟨by decide +kernel, by decide +kernel⟩, List.mem_of_getElem? (i := 1245) (by decide +kernel), List.mem_of_getElem? (i := 1407) (by decide +kernel), List.mem_of_getElem? (i := 1408) (by decide +kernel)⟩
theorem lw_p30 : lw_okq (⟨"DeepWingsModel", "goes", "(I)I"⟩, 37) := ⟨⟨by decide +kernel, by decide +kernel⟩, List.mem_of_getElem? (i := 1245) (by decide +kernel), List.mem_of_getElem? (i := 1411) (by decide +kernel), List.mem_of_getElem? (i := 1412) (by decide +kernel)⟩
theorem lw_p31 : lw_okq (⟨"DeepWingsModel", "cost", "(II)I"⟩, 37) := ⟨⟨by decide +kernel, by decide +kernel⟩, List.mem_of_getElem? (i := 1245) (by decide +kernel), List.mem_of_getElem? (i := 1415) (by decide +kernel), List.mem_of_getElem? (i := 1416) (by decide +kernel)⟩
def lw_privs_2 : List (MethodName × Nat) := [(⟨"DeepWings$Planner", "addEnd", "(III)V"⟩, 14), (⟨"DeepWings$Planner", "gainBy", "(I)I"⟩, 14), (⟨"DeepWings$Planner", "worth", "(II)I"⟩, 14), (⟨"DeepWings$Planner", "sumMostFrom", "()V"⟩, 14), (⟨"DeepWings$Planner", "search", "(II)V"⟩, 14), (⟨"DeepWings$Planner", "isTaken", "(II)Z"⟩, 14), (⟨"DeepWings$Planner", "cover", "(II)V"⟩, 14), (⟨"DeepWings$Planner", "uncover", "(II)V"⟩, 14), (⟨"java/lang/Throwable", "fillInStackTrace", "(I)Ljava/lang/Throwable;"⟩, 6), (⟨"DeepWingsModel", "isCell", "(II)Z"⟩, 37), (⟨"DeepWingsModel", "is", "(III)Z"⟩, 37), (⟨"DeepWingsModel", "isWater", "(II)Z"⟩, 37), (⟨"DeepWingsModel", "isGlider", "(I)Z"⟩, 37), (⟨"DeepWingsModel", "sinks", "(I)I"⟩, 37), (⟨"DeepWingsModel", "goes", "(I)I"⟩, 37), (⟨"DeepWingsModel", "cost", "(II)I"⟩, 37)]
theorem lw_r2 : ∀ q ∈ lw_privs_2, lw_okq q := List.forall_mem_cons.mpr ⟨lw_p16, List.forall_mem_cons.mpr ⟨lw_p17, List.forall_mem_cons.mpr ⟨lw_p18, List.forall_mem_cons.mpr ⟨lw_p19, List.forall_mem_cons.mpr ⟨lw_p20, List.forall_mem_cons.mpr ⟨lw_p21, List.forall_mem_cons.mpr ⟨lw_p22, List.forall_mem_cons.mpr ⟨lw_p23, List.forall_mem_cons.mpr ⟨lw_p24, List.forall_mem_cons.mpr ⟨lw_p25, List.forall_mem_cons.mpr ⟨lw_p26, List.forall_mem_cons.mpr ⟨lw_p27, List.forall_mem_cons.mpr ⟨lw_p28, List.forall_mem_cons.mpr ⟨lw_p29, List.forall_mem_cons.mpr ⟨lw_p30, List.forall_mem_cons.mpr ⟨lw_p31, fun _ h => absurd h List.not_mem_nil⟩⟩⟩⟩⟩⟩⟩⟩⟩⟩⟩⟩⟩⟩⟩⟩
theorem lw_p32 : lw_okq (⟨"DeepWingsModel", "dry", "(II)I"⟩, 37) := ⟨⟨by decide +kernel, by decide +kernel⟩, List.mem_of_getElem? (i := 1245) (by decide +kernel), List.mem_of_getElem? (i := 1419) (by decide +kernel), List.mem_of_getElem? (i := 1420) (by decide +kernel)⟩
theorem lw_p33 : lw_okq (⟨"DeepWingsModel", "isHeading", "(III)Z"⟩, 37) := ⟨⟨by decide +kernel, by decide +kernel⟩, List.mem_of_getElem? (i := 1245) (by decide +kernel), List.mem_of_getElem? (i := 1431) (by decide +kernel), List.mem_of_getElem? (i := 1432) (by decide +kernel)⟩
theorem lw_p34 : lw_okq (⟨"DeepWingsModel", "abs", "(I)I"⟩, 37) := ⟨⟨by decide +kernel, by decide +kernel⟩, List.mem_of_getElem? (i := 1245) (by decide +kernel), List.mem_of_getElem? (i := 1435) (by decide +kernel), List.mem_of_getElem? (i := 1436) (by decide +kernel)⟩
theorem lw_p35 : lw_okq (⟨"DeepWingsModel", "isUp", "(I)Z"⟩, 37) := ⟨⟨by decide +kernel, by decide +kernel⟩, List.mem_of_getElem? (i := 1245) (by decide +kernel), List.mem_of_getElem? (i := 1439) (by decide +kernel), List.mem_of_getElem? (i := 1440) (by decide +kernel)⟩
theorem lw_p36 : lw_okq (⟨"DeepWingsModel", "dives", "(IIII)I"⟩, 37) := ⟨⟨by decide +kernel, by decide +kernel⟩, List.mem_of_getElem? (i := 1245) (by decide +kernel), List.mem_of_getElem? (i := 1443) (by decide +kernel), List.mem_of_getElem? (i := 1444) (by decide +kernel)⟩
theorem lw_p37 : lw_okq (⟨"DeepWingsModel", "sink", "(IZ)V"⟩, 37) := ⟨⟨by decide +kernel, by decide +kernel⟩, List.mem_of_getElem? (i := 1245) (by decide +kernel), List.mem_of_getElem? (i := 1447) (by decide +kernel), List.mem_of_getElem? (i := 1448) (by decide +kernel)⟩
theorem lw_p38 : lw_okq (⟨"DeepWingsModel", "steps", "(II)V"⟩, 37) := ⟨⟨by decide +kernel, by decide +kernel⟩, List.mem_of_getElem? (i := 1245) (by decide +kernel), List.mem_of_getElem? (i := 1451) (by decide +kernel), List.mem_of_getElem? (i := 1452) (by decide +kernel)⟩
theorem lw_p39 : lw_okq (⟨"DeepWingsModel", "step", "(II)V"⟩, 37) := ⟨⟨by decide +kernel, by decide +kernel⟩, List.mem_of_getElem? (i := 1245) (by decide +kernel), List.mem_of_getElem? (i := 1455) (by decide +kernel), List.mem_of_getElem? (i := 1456) (by decide +kernel)⟩
theorem lw_p40 : lw_okq (⟨"DeepWingsModel", "isNet", "(I)Z"⟩, 37) := ⟨⟨by decide +kernel, by decide +kernel⟩, List.mem_of_getElem? (i := 1245) (by decide +kernel), List.mem_of_getElem? (i := 1459) (by decide +kernel), List.mem_of_getElem? (i := 1460) (by decide +kernel)⟩
theorem lw_p41 : lw_okq (⟨"DeepWingsModel", "measure", "(I)V"⟩, 37) := ⟨⟨by decide +kernel, by decide +kernel⟩, List.mem_of_getElem? (i := 1245) (by decide +kernel), List.mem_of_getElem? (i := 1463) (by decide +kernel), List.mem_of_getElem? (i := 1464) (by decide +kernel)⟩
theorem lw_p42 : lw_okq (⟨"DeepWingsModel", "besideOf", "(II)I"⟩, 37) := ⟨⟨by decide +kernel, by decide +kernel⟩, List.mem_of_getElem? (i := 1245) (by decide +kernel), List.mem_of_getElem? (i := 1467) (by decide +kernel), List.mem_of_getElem? (i := 1468) (by decide +kernel)⟩
theorem lw_p43 : lw_okq (⟨"DeepWingsModel", "learn", "(III)V"⟩, 37) := ⟨⟨by decide +kernel, by decide +kernel⟩, List.mem_of_getElem? (i := 1245) (by decide +kernel), List.mem_of_getElem? (i := 1471) (by decide +kernel), List.mem_of_getElem? (i := 1472) (by decide +kernel)⟩
theorem lw_p44 : lw_okq (⟨"DeepWingsModel", "nearer", "(III)I"⟩, 37) := ⟨⟨by decide +kernel, by decide +kernel⟩, List.mem_of_getElem? (i := 1245) (by decide +kernel), List.mem_of_getElem? (i := 1475) (by decide +kernel), List.mem_of_getElem? (i := 1476) (by decide +kernel)⟩
theorem lw_p45 : lw_okq (⟨"DeepWingsModel", "lacksText", "(I)I"⟩, 37) := ⟨⟨by decide +kernel, by decide +kernel⟩, List.mem_of_getElem? (i := 1245) (by decide +kernel), List.mem_of_getElem? (i := 1483) (by decide +kernel), List.mem_of_getElem? (i := 1484) (by decide +kernel)⟩
theorem lw_p46 : lw_okq (⟨"DeepWingsModel", "bring", "(I)V"⟩, 37) := ⟨⟨by decide +kernel, by decide +kernel⟩, List.mem_of_getElem? (i := 1245) (by decide +kernel), List.mem_of_getElem? (i := 1487) (by decide +kernel), List.mem_of_getElem? (i := 1488) (by decide +kernel)⟩
theorem lw_p47 : lw_okq (⟨"DeepWingsModel", "goesOrder", "(II)Z"⟩, 37) := ⟨⟨by decide +kernel, by decide +kernel⟩, List.mem_of_getElem? (i := 1245) (by decide +kernel), List.mem_of_getElem? (i := 1491) (by decide +kernel), List.mem_of_getElem? (i := 1492) (by decide +kernel)⟩
def lw_privs_3 : List (MethodName × Nat) := [(⟨"DeepWingsModel", "dry", "(II)I"⟩, 37), (⟨"DeepWingsModel", "isHeading", "(III)Z"⟩, 37), (⟨"DeepWingsModel", "abs", "(I)I"⟩, 37), (⟨"DeepWingsModel", "isUp", "(I)Z"⟩, 37), (⟨"DeepWingsModel", "dives", "(IIII)I"⟩, 37), (⟨"DeepWingsModel", "sink", "(IZ)V"⟩, 37), (⟨"DeepWingsModel", "steps", "(II)V"⟩, 37), (⟨"DeepWingsModel", "step", "(II)V"⟩, 37), (⟨"DeepWingsModel", "isNet", "(I)Z"⟩, 37), (⟨"DeepWingsModel", "measure", "(I)V"⟩, 37), (⟨"DeepWingsModel", "besideOf", "(II)I"⟩, 37), (⟨"DeepWingsModel", "learn", "(III)V"⟩, 37), (⟨"DeepWingsModel", "nearer", "(III)I"⟩, 37), (⟨"DeepWingsModel", "lacksText", "(I)I"⟩, 37), (⟨"DeepWingsModel", "bring", "(I)V"⟩, 37), (⟨"DeepWingsModel", "goesOrder", "(II)Z"⟩, 37)]
theorem lw_r3 : ∀ q ∈ lw_privs_3, lw_okq q := List.forall_mem_cons.mpr ⟨lw_p32, List.forall_mem_cons.mpr ⟨lw_p33, List.forall_mem_cons.mpr ⟨lw_p34, List.forall_mem_cons.mpr ⟨lw_p35, List.forall_mem_cons.mpr ⟨lw_p36, List.forall_mem_cons.mpr ⟨lw_p37, List.forall_mem_cons.mpr ⟨lw_p38, List.forall_mem_cons.mpr ⟨lw_p39, List.forall_mem_cons.mpr ⟨lw_p40, List.forall_mem_cons.mpr ⟨lw_p41, List.forall_mem_cons.mpr ⟨lw_p42, List.forall_mem_cons.mpr ⟨lw_p43, List.forall_mem_cons.mpr ⟨lw_p44, List.forall_mem_cons.mpr ⟨lw_p45, List.forall_mem_cons.mpr ⟨lw_p46, List.forall_mem_cons.mpr ⟨lw_p47, fun _ h => absurd h List.not_mem_nil⟩⟩⟩⟩⟩⟩⟩⟩⟩⟩⟩⟩⟩⟩⟩⟩
theorem lw_p48 : lw_okq (⟨"DeepWingsModel", "takesTest", "(I)Z"⟩, 37) := ⟨⟨by decide +kernel, by decide +kernel⟩, List.mem_of_getElem? (i := 1245) (by decide +kernel), List.mem_of_getElem? (i := 1495) (by decide +kernel), List.mem_of_getElem? (i := 1496) (by decide +kernel)⟩
theorem lw_p49 : lw_okq (⟨"DeepWingsModel", "takesCheck", "(I)Z"⟩, 37) := ⟨⟨by decide +kernel, by decide +kernel⟩, List.mem_of_getElem? (i := 1245) (by decide +kernel), List.mem_of_getElem? (i := 1499) (by decide +kernel), List.mem_of_getElem? (i := 1500) (by decide +kernel)⟩
theorem lw_p50 : lw_okq (⟨"DeepWingsModel", "at", "()I"⟩, 37) := ⟨⟨by decide +kernel, by decide +kernel⟩, List.mem_of_getElem? (i := 1245) (by decide +kernel), List.mem_of_getElem? (i := 1503) (by decide +kernel), List.mem_of_getElem? (i := 1504) (by decide +kernel)⟩
theorem lw_p51 : lw_okq (⟨"DeepWingsModel", "isField", "(I)Z"⟩, 37) := ⟨⟨by decide +kernel, by decide +kernel⟩, List.mem_of_getElem? (i := 1245) (by decide +kernel), List.mem_of_getElem? (i := 1507) (by decide +kernel), List.mem_of_getElem? (i := 1508) (by decide +kernel)⟩
theorem lw_p52 : lw_okq (⟨"DeepWingsModel", "fieldOf", "(II)I"⟩, 37) := ⟨⟨by decide +kernel, by decide +kernel⟩, List.mem_of_getElem? (i := 1245) (by decide +kernel), List.mem_of_getElem? (i := 1511) (by decide +kernel), List.mem_of_getElem? (i := 1512) (by decide +kernel)⟩
theorem lw_p53 : lw_okq (⟨"DeepWingsModel", "takes", "(II)Z"⟩, 37) := ⟨⟨by decide +kernel, by decide +kernel⟩, List.mem_of_getElem? (i := 1245) (by decide +kernel), List.mem_of_getElem? (i := 1515) (by decide +kernel), List.mem_of_getElem? (i := 1516) (by decide +kernel)⟩
theorem lw_p54 : lw_okq (⟨"DeepWingsModel", "takesAct", "(I)Z"⟩, 37) := ⟨⟨by decide +kernel, by decide +kernel⟩, List.mem_of_getElem? (i := 1245) (by decide +kernel), List.mem_of_getElem? (i := 1519) (by decide +kernel), List.mem_of_getElem? (i := 1520) (by decide +kernel)⟩
theorem lw_p55 : lw_okq (⟨"DeepWingsModel", "goTime", "()I"⟩, 37) := ⟨⟨by decide +kernel, by decide +kernel⟩, List.mem_of_getElem? (i := 1245) (by decide +kernel), List.mem_of_getElem? (i := 1547) (by decide +kernel), List.mem_of_getElem? (i := 1548) (by decide +kernel)⟩
theorem lw_p56 : lw_okq (⟨"DeepWingsModel", "hears", "(I)V"⟩, 37) := ⟨⟨by decide +kernel, by decide +kernel⟩, List.mem_of_getElem? (i := 1245) (by decide +kernel), List.mem_of_getElem? (i := 1551) (by decide +kernel), List.mem_of_getElem? (i := 1552) (by decide +kernel)⟩
theorem lw_p57 : lw_okq (⟨"DeepWingsModel", "acts", "(I)Z"⟩, 37) := ⟨⟨by decide +kernel, by decide +kernel⟩, List.mem_of_getElem? (i := 1245) (by decide +kernel), List.mem_of_getElem? (i := 1555) (by decide +kernel), List.mem_of_getElem? (i := 1556) (by decide +kernel)⟩
theorem lw_p58 : lw_okq (⟨"DeepWingsModel", "layerFor", "(II)I"⟩, 37) := ⟨⟨by decide +kernel, by decide +kernel⟩, List.mem_of_getElem? (i := 1245) (by decide +kernel), List.mem_of_getElem? (i := 1559) (by decide +kernel), List.mem_of_getElem? (i := 1560) (by decide +kernel)⟩
theorem lw_p59 : lw_okq (⟨"DeepWingsModel", "cut", "(II)I"⟩, 37) := ⟨⟨by decide +kernel, by decide +kernel⟩, List.mem_of_getElem? (i := 1245) (by decide +kernel), List.mem_of_getElem? (i := 1563) (by decide +kernel), List.mem_of_getElem? (i := 1564) (by decide +kernel)⟩
theorem lw_p60 : lw_okq (⟨"DeepWingsModel", "isReading", "(I)Z"⟩, 37) := ⟨⟨by decide +kernel, by decide +kernel⟩, List.mem_of_getElem? (i := 1245) (by decide +kernel), List.mem_of_getElem? (i := 1579) (by decide +kernel), List.mem_of_getElem? (i := 1580) (by decide +kernel)⟩
theorem lw_p61 : lw_okq (⟨"DeepWingsModel", "rightOf", "(I)I"⟩, 37) := ⟨⟨by decide +kernel, by decide +kernel⟩, List.mem_of_getElem? (i := 1245) (by decide +kernel), List.mem_of_getElem? (i := 1587) (by decide +kernel), List.mem_of_getElem? (i := 1588) (by decide +kernel)⟩
theorem lw_p62 : lw_okq (⟨"DeepWingsModel", "findPlan", "(I)Z"⟩, 37) := ⟨⟨by decide +kernel, by decide +kernel⟩, List.mem_of_getElem? (i := 1245) (by decide +kernel), List.mem_of_getElem? (i := 1595) (by decide +kernel), List.mem_of_getElem? (i := 1596) (by decide +kernel)⟩
theorem lw_p63 : lw_okq (⟨"DeepWingsModel", "findEnds", "(I)V"⟩, 37) := ⟨⟨by decide +kernel, by decide +kernel⟩, List.mem_of_getElem? (i := 1245) (by decide +kernel), List.mem_of_getElem? (i := 1599) (by decide +kernel), List.mem_of_getElem? (i := 1600) (by decide +kernel)⟩
def lw_privs_4 : List (MethodName × Nat) := [(⟨"DeepWingsModel", "takesTest", "(I)Z"⟩, 37), (⟨"DeepWingsModel", "takesCheck", "(I)Z"⟩, 37), (⟨"DeepWingsModel", "at", "()I"⟩, 37), (⟨"DeepWingsModel", "isField", "(I)Z"⟩, 37), (⟨"DeepWingsModel", "fieldOf", "(II)I"⟩, 37), (⟨"DeepWingsModel", "takes", "(II)Z"⟩, 37), (⟨"DeepWingsModel", "takesAct", "(I)Z"⟩, 37), (⟨"DeepWingsModel", "goTime", "()I"⟩, 37), (⟨"DeepWingsModel", "hears", "(I)V"⟩, 37), (⟨"DeepWingsModel", "acts", "(I)Z"⟩, 37), (⟨"DeepWingsModel", "layerFor", "(II)I"⟩, 37), (⟨"DeepWingsModel", "cut", "(II)I"⟩, 37), (⟨"DeepWingsModel", "isReading", "(I)Z"⟩, 37), (⟨"DeepWingsModel", "rightOf", "(I)I"⟩, 37), (⟨"DeepWingsModel", "findPlan", "(I)Z"⟩, 37), (⟨"DeepWingsModel", "findEnds", "(I)V"⟩, 37)]
theorem lw_r4 : ∀ q ∈ lw_privs_4, lw_okq q := List.forall_mem_cons.mpr ⟨lw_p48, List.forall_mem_cons.mpr ⟨lw_p49, List.forall_mem_cons.mpr ⟨lw_p50, List.forall_mem_cons.mpr ⟨lw_p51, List.forall_mem_cons.mpr ⟨lw_p52, List.forall_mem_cons.mpr ⟨lw_p53, List.forall_mem_cons.mpr ⟨lw_p54, List.forall_mem_cons.mpr ⟨lw_p55, List.forall_mem_cons.mpr ⟨lw_p56, List.forall_mem_cons.mpr ⟨lw_p57, List.forall_mem_cons.mpr ⟨lw_p58, List.forall_mem_cons.mpr ⟨lw_p59, List.forall_mem_cons.mpr ⟨lw_p60, List.forall_mem_cons.mpr ⟨lw_p61, List.forall_mem_cons.mpr ⟨lw_p62, List.forall_mem_cons.mpr ⟨lw_p63, fun _ h => absurd h List.not_mem_nil⟩⟩⟩⟩⟩⟩⟩⟩⟩⟩⟩⟩⟩⟩⟩⟩
theorem lw_p64 : lw_okq (⟨"DeepWingsModel", "endBy", "(IIII)V"⟩, 37) := ⟨⟨by decide +kernel, by decide +kernel⟩, List.mem_of_getElem? (i := 1245) (by decide +kernel), List.mem_of_getElem? (i := 1603) (by decide +kernel), List.mem_of_getElem? (i := 1604) (by decide +kernel)⟩
theorem lw_p65 : lw_okq (⟨"DeepWingsModel", "isApart", "(I)Z"⟩, 37) := ⟨⟨by decide +kernel, by decide +kernel⟩, List.mem_of_getElem? (i := 1245) (by decide +kernel), List.mem_of_getElem? (i := 1607) (by decide +kernel), List.mem_of_getElem? (i := 1608) (by decide +kernel)⟩
theorem lw_p66 : lw_okq (⟨"DeepWingsModel", "gainOf", "()I"⟩, 37) := ⟨⟨by decide +kernel, by decide +kernel⟩, List.mem_of_getElem? (i := 1245) (by decide +kernel), List.mem_of_getElem? (i := 1611) (by decide +kernel), List.mem_of_getElem? (i := 1612) (by decide +kernel)⟩
theorem lw_p67 : lw_okq (⟨"DeepWingsModel", "gainAt", "(I)I"⟩, 37) := ⟨⟨by decide +kernel, by decide +kernel⟩, List.mem_of_getElem? (i := 1245) (by decide +kernel), List.mem_of_getElem? (i := 1615) (by decide +kernel), List.mem_of_getElem? (i := 1616) (by decide +kernel)⟩
theorem lw_p68 : lw_okq (⟨"DeepWingsModel", "raise", "(II)I"⟩, 37) := ⟨⟨by decide +kernel, by decide +kernel⟩, List.mem_of_getElem? (i := 1245) (by decide +kernel), List.mem_of_getElem? (i := 1619) (by decide +kernel), List.mem_of_getElem? (i := 1620) (by decide +kernel)⟩
theorem lw_p69 : lw_okq (⟨"DeepWingsModel", "clearAt", "(I)V"⟩, 37) := ⟨⟨by decide +kernel, by decide +kernel⟩, List.mem_of_getElem? (i := 1245) (by decide +kernel), List.mem_of_getElem? (i := 1623) (by decide +kernel), List.mem_of_getElem? (i := 1624) (by decide +kernel)⟩
theorem lw_p70 : lw_okq (⟨"DeepWingsModel", "comesTo", "(II)I"⟩, 37) := ⟨⟨by decide +kernel, by decide +kernel⟩, List.mem_of_getElem? (i := 1245) (by decide +kernel), List.mem_of_getElem? (i := 1639) (by decide +kernel), List.mem_of_getElem? (i := 1640) (by decide +kernel)⟩
theorem lw_p71 : lw_okq (⟨"DeepWingsModel", "leftOf", "(I)I"⟩, 37) := ⟨⟨by decide +kernel, by decide +kernel⟩, List.mem_of_getElem? (i := 1245) (by decide +kernel), List.mem_of_getElem? (i := 1651) (by decide +kernel), List.mem_of_getElem? (i := 1652) (by decide +kernel)⟩
theorem lw_p72 : lw_okq (⟨"DeepWingsModel", "offShip", "(I)I"⟩, 37) := ⟨⟨by decide +kernel, by decide +kernel⟩, List.mem_of_getElem? (i := 1245) (by decide +kernel), List.mem_of_getElem? (i := 1659) (by decide +kernel), List.mem_of_getElem? (i := 1660) (by decide +kernel)⟩
theorem lw_p73 : lw_okq (⟨"DeepWingsModel", "isShelf", "(I)Z"⟩, 37) := ⟨⟨by decide +kernel, by decide +kernel⟩, List.mem_of_getElem? (i := 1245) (by decide +kernel), List.mem_of_getElem? (i := 1683) (by decide +kernel), List.mem_of_getElem? (i := 1684) (by decide +kernel)⟩
theorem lw_p74 : lw_okq (⟨"DeepWingsModel", "narrow", "(II)I"⟩, 37) := ⟨⟨by decide +kernel, by decide +kernel⟩, List.mem_of_getElem? (i := 1245) (by decide +kernel), List.mem_of_getElem? (i := 1695) (by decide +kernel), List.mem_of_getElem? (i := 1696) (by decide +kernel)⟩
theorem lw_p75 : lw_okq (⟨"DeepWingsModel", "lacksGlider", "(I)I"⟩, 37) := ⟨⟨by decide +kernel, by decide +kernel⟩, List.mem_of_getElem? (i := 1245) (by decide +kernel), List.mem_of_getElem? (i := 1711) (by decide +kernel), List.mem_of_getElem? (i := 1712) (by decide +kernel)⟩
def lw_privs_5 : List (MethodName × Nat) := [(⟨"DeepWingsModel", "endBy", "(IIII)V"⟩, 37), (⟨"DeepWingsModel", "isApart", "(I)Z"⟩, 37), (⟨"DeepWingsModel", "gainOf", "()I"⟩, 37), (⟨"DeepWingsModel", "gainAt", "(I)I"⟩, 37), (⟨"DeepWingsModel", "raise", "(II)I"⟩, 37), (⟨"DeepWingsModel", "clearAt", "(I)V"⟩, 37), (⟨"DeepWingsModel", "comesTo", "(II)I"⟩, 37), (⟨"DeepWingsModel", "leftOf", "(I)I"⟩, 37), (⟨"DeepWingsModel", "offShip", "(I)I"⟩, 37), (⟨"DeepWingsModel", "isShelf", "(I)Z"⟩, 37), (⟨"DeepWingsModel", "narrow", "(II)I"⟩, 37), (⟨"DeepWingsModel", "lacksGlider", "(I)I"⟩, 37)]
theorem lw_r5 : ∀ q ∈ lw_privs_5, lw_okq q := List.forall_mem_cons.mpr ⟨lw_p64, List.forall_mem_cons.mpr ⟨lw_p65, List.forall_mem_cons.mpr ⟨lw_p66, List.forall_mem_cons.mpr ⟨lw_p67, List.forall_mem_cons.mpr ⟨lw_p68, List.forall_mem_cons.mpr ⟨lw_p69, List.forall_mem_cons.mpr ⟨lw_p70, List.forall_mem_cons.mpr ⟨lw_p71, List.forall_mem_cons.mpr ⟨lw_p72, List.forall_mem_cons.mpr ⟨lw_p73, List.forall_mem_cons.mpr ⟨lw_p74, List.forall_mem_cons.mpr ⟨lw_p75, fun _ h => absurd h List.not_mem_nil⟩⟩⟩⟩⟩⟩⟩⟩⟩⟩⟩⟩
def lw_privs : List (MethodName × Nat) := lw_privs_1 ++ (lw_privs_2 ++ (lw_privs_3 ++ (lw_privs_4 ++ (lw_privs_5))))
def lw_tbl : List Cond := k2_sels lw_privs ++ tables_1
theorem lw_privs_ok : ∀ q ∈ lw_privs, lw_okq q := by
  show ∀ q ∈ lw_privs_1 ++ (lw_privs_2 ++ (lw_privs_3 ++ (lw_privs_4 ++ (lw_privs_5)))), lw_okq q
  exact List.forall_mem_append.mpr ⟨lw_r1, List.forall_mem_append.mpr ⟨lw_r2, List.forall_mem_append.mpr ⟨lw_r3, List.forall_mem_append.mpr ⟨lw_r4, lw_r5⟩⟩⟩⟩
def lw_g : List Cond := lw_tbl.filter goodWord
theorem lw_gi {w : Cond} (i : Nat) (h : (decide (lw_tbl[i]? = some w) && goodWord w) = true) : w ∈ lw_g := by
  obtain ⟨hp, h⟩ := Bool.and_eq_true_iff.mp h
  exact List.mem_filter.mpr ⟨List.mem_of_getElem? (of_decide_eq_true hp), h⟩
theorem lw_gg : GoodIn lw_g lw_g := fun w h => ⟨h, good_of_word (List.mem_filter.mp h).2⟩
theorem lw_gt {w : Cond} (h : w ∈ lw_g) : w ∈ lw_tbl := (List.mem_filter.mp h).1
theorem goodIn_pl {big : List Cond} (ws : List Cond) (ps : List Nat) (h : (decide (ws = ps.filterMap (fun i => big[i]?)) && ws.all goodWord) = true) : ∀ w ∈ ws, w ∈ big.filter goodWord := by
  obtain ⟨hp, h⟩ := Bool.and_eq_true_iff.mp h
  have hp := of_decide_eq_true hp
  intro w hw
  have h1 := List.all_eq_true.mp h w hw
  rw [hp] at hw
  obtain ⟨i, -, hi⟩ := List.mem_filterMap.mp hw
  exact List.mem_filter.mpr ⟨List.mem_of_getElem? hi, h1⟩
def RX0 : String := "DeepWings$Glider"
def TX0 : u_T := fun k => match k with
  | 0 => ("DeepWings$Glider", "kind", "I", false)
  | 1 => ("DeepWings$Glider", "cell", "I", false)
  | 2 => ("DeepWings$Glider", "power", "I", false)
  | 3 => ("DeepWings$Glider", "state", "I", false)
  | 4 => ("DeepWings$Glider", "leaks", "Z", false)
  | 5 => ("DeepWings$Glider", "foul", "I", false)
  | 6 => ("DeepWings$Glider", "order", "I", false)
  | 7 => ("DeepWings$Glider", "heard", "I", false)
  | 8 => ("DeepWings$Glider", "dives", "I", false)
  | 9 => ("DeepWings$Glider", "latest", "I", false)
  | 10 => ("DeepWings$Glider", "measured", "Z", false)
  | _ => ("DeepWings$Glider", "fixes", "[I", true)
def tyX0 : Nat → FieldType := fun k => match k with
  | 0 => .int
  | 1 => .int
  | 2 => .int
  | 3 => .int
  | 4 => .boolean
  | 5 => .int
  | 6 => .int
  | 7 => .int
  | 8 => .int
  | 9 => .int
  | 10 => .boolean
  | _ => .array .int
abbrev wsX00 : List Cond := u_ws RX0 TX0 12
theorem nmX0 : ∀ a, a < 12 → ∀ b, b < 12 → a ≠ b → (TX0 a).2.1 ≠ (TX0 b).2.1 := by decide +kernel
theorem tyX0_ok : ∀ k, k < 12 → parseFieldDescriptor (TX0 k).2.2.1 = some (tyX0 k) := by decide +kernel
abbrev cX0_init : ByteArray := prog_2_method_1_code
def yX0_init : MethodName := ⟨RX0, "<init>", "()V"⟩
abbrev cX0_begin : ByteArray := prog_2_method_2_code
def yX0_begin : MethodName := ⟨RX0, "begin", "(III)V"⟩
abbrev cX0_become : ByteArray := prog_2_method_3_code
def yX0_become : MethodName := ⟨RX0, "become", "(LDeepWings$Glider;)V"⟩
abbrev cX0_deepest : ByteArray := prog_2_method_4_code
def yX0_deepest : MethodName := ⟨RX0, "deepest", "()I"⟩
abbrev cX0_reach : ByteArray := prog_2_method_5_code
def yX0_reach : MethodName := ⟨RX0, "reach", "()I"⟩
abbrev cX0_costTo : ByteArray := prog_2_method_6_code
def yX0_costTo : MethodName := ⟨RX0, "costTo", "(I)I"⟩
abbrev cX0_mayDive : ByteArray := prog_2_method_7_code
def yX0_mayDive : MethodName := ⟨RX0, "mayDive", "(III)Z"⟩
abbrev cX0_divesLeft : ByteArray := prog_2_method_8_code
def yX0_divesLeft : MethodName := ⟨RX0, "divesLeft", "()I"⟩
abbrev cX0_fixBy : ByteArray := prog_2_method_9_code
def yX0_fixBy : MethodName := ⟨RX0, "fixBy", "(I)I"⟩
def RX1 : String := "DeepWings$Mail"
def TX1 : u_T := fun k => match k with
  | 0 => ("DeepWings$Mail", "letters", "I", false)
  | 1 => ("DeepWings$Mail", "to", "[I", true)
  | 2 => ("DeepWings$Mail", "orders", "[I", true)
  | 3 => ("DeepWings$Mail", "sentAt", "[I", true)
  | _ => ("DeepWings$Mail", "heard", "[I", true)
def tyX1 : Nat → FieldType := fun k => match k with
  | 0 => .int
  | 1 => .array .int
  | 2 => .array .int
  | 3 => .array .int
  | _ => .array .int
abbrev wsX10 : List Cond := u_ws RX1 TX1 5
theorem nmX1 : ∀ a, a < 5 → ∀ b, b < 5 → a ≠ b → (TX1 a).2.1 ≠ (TX1 b).2.1 := by decide +kernel
theorem tyX1_ok : ∀ k, k < 5 → parseFieldDescriptor (TX1 k).2.2.1 = some (tyX1 k) := by decide +kernel
abbrev cX1_init : ByteArray := prog_3_method_1_code
def yX1_init : MethodName := ⟨RX1, "<init>", "()V"⟩
abbrev cX1_become : ByteArray := prog_3_method_2_code
def yX1_become : MethodName := ⟨RX1, "become", "(LDeepWings$Mail;)V"⟩
abbrev cX1_send : ByteArray := prog_3_method_3_code
def yX1_send : MethodName := ⟨RX1, "send", "(III)I"⟩
abbrev cX1_unheardBy : ByteArray := prog_3_method_4_code
def yX1_unheardBy : MethodName := ⟨RX1, "unheardBy", "(I)I"⟩
abbrev cX1_hearBy : ByteArray := prog_3_method_5_code
def yX1_hearBy : MethodName := ⟨RX1, "hearBy", "(III)I"⟩
def RX2 : String := "DeepWings$Order"
def TX2 : u_T := fun k => match k with
  | 0 => ("DeepWings$Order", "rules", "I", false)
  | 1 => ("DeepWings$Order", "checks", "I", false)
  | 2 => ("DeepWings$Order", "checksEnd", "[I", true)
  | 3 => ("DeepWings$Order", "act", "[I", true)
  | 4 => ("DeepWings$Order", "goal", "[I", true)
  | 5 => ("DeepWings$Order", "layers", "[I", true)
  | 6 => ("DeepWings$Order", "fields", "[I", true)
  | 7 => ("DeepWings$Order", "signs", "[I", true)
  | 8 => ("DeepWings$Order", "numbers", "[I", true)
  | _ => ("DeepWings$Order", "turned", "[Z", true)
def tyX2 : Nat → FieldType := fun k => match k with
  | 0 => .int
  | 1 => .int
  | 2 => .array .int
  | 3 => .array .int
  | 4 => .array .int
  | 5 => .array .int
  | 6 => .array .int
  | 7 => .array .int
  | 8 => .array .int
  | _ => .array .boolean
abbrev wsX20 : List Cond := u_ws RX2 TX2 10
theorem nmX2 : ∀ a, a < 10 → ∀ b, b < 10 → a ≠ b → (TX2 a).2.1 ≠ (TX2 b).2.1 := by decide +kernel
theorem tyX2_ok : ∀ k, k < 10 → parseFieldDescriptor (TX2 k).2.2.1 = some (tyX2 k) := by decide +kernel
abbrev cX2_init : ByteArray := prog_4_method_1_code
def yX2_init : MethodName := ⟨RX2, "<init>", "()V"⟩
abbrev cX2_addCheck : ByteArray := prog_4_method_2_code
def yX2_addCheck : MethodName := ⟨RX2, "addCheck", "(IIIZ)V"⟩
abbrev cX2_addRule : ByteArray := prog_4_method_3_code
def yX2_addRule : MethodName := ⟨RX2, "addRule", "(III)V"⟩
abbrev cX2_holds : ByteArray := prog_4_method_4_code
def yX2_holds : MethodName := ⟨RX2, "holds", "(II)Z"⟩
def RX3 : String := "DeepWings$OrderReader"
def TX3 : u_T := fun k => match k with
  | 0 => ("DeepWings$OrderReader", "into", "LDeepWings$Order;", false)
  | 1 => ("DeepWings$OrderReader", "text", "[I", false)
  | 2 => ("DeepWings$OrderReader", "size", "I", false)
  | _ => ("DeepWings$OrderReader", "at", "I", false)
def tyX3 : Nat → FieldType := fun k => match k with
  | 0 => .object "DeepWings$Order"
  | 1 => .array .int
  | 2 => .int
  | _ => .int
abbrev wsX30 : List Cond := u_ws RX3 TX3 4
theorem nmX3 : ∀ a, a < 4 → ∀ b, b < 4 → a ≠ b → (TX3 a).2.1 ≠ (TX3 b).2.1 := by decide +kernel
theorem tyX3_ok : ∀ k, k < 4 → parseFieldDescriptor (TX3 k).2.2.1 = some (tyX3 k) := by decide +kernel
abbrev cX3_init : ByteArray := prog_5_method_1_code
def yX3_init : MethodName := ⟨RX3, "<init>", "()V"⟩
abbrev cX3_handOver : ByteArray := prog_5_method_2_code
def yX3_handOver : MethodName := ⟨RX3, "handOver", "()LDeepWings$Order;"⟩
abbrev cX3_scan : ByteArray := prog_5_method_3_code
def yX3_scan : MethodName := ⟨RX3, "scan", "([II)I"⟩
abbrev cX3_takeRule : ByteArray := prog_5_method_4_code
def yX3_takeRule : MethodName := ⟨RX3, "takeRule", "()Z"⟩
abbrev cX3_takeCheck : ByteArray := prog_5_method_5_code
def yX3_takeCheck : MethodName := ⟨RX3, "takeCheck", "()Z"⟩
abbrev cX3_takeNumber : ByteArray := prog_5_method_6_code
def yX3_takeNumber : MethodName := ⟨RX3, "takeNumber", "()I"⟩
abbrev cX3_takeAct : ByteArray := prog_5_method_7_code
def yX3_takeAct : MethodName := ⟨RX3, "takeAct", "()Z"⟩
abbrev cX3_takeLayer : ByteArray := prog_5_method_8_code
def yX3_takeLayer : MethodName := ⟨RX3, "takeLayer", "(II)Z"⟩
abbrev cX3_take : ByteArray := prog_5_method_9_code
def yX3_take : MethodName := ⟨RX3, "take", "(C)Z"⟩
abbrev cX3_takeOneOf : ByteArray := prog_5_method_10_code
def yX3_takeOneOf : MethodName := ⟨RX3, "takeOneOf", "(Ljava/lang/String;)I"⟩
abbrev cX3_takeDigit : ByteArray := prog_5_method_11_code
def yX3_takeDigit : MethodName := ⟨RX3, "takeDigit", "(I)I"⟩
def RX4 : String := "DeepWings$Path"
def TX4 : u_T := fun k => match k with
  | 0 => ("DeepWings$Path", "cell", "I", false)
  | 1 => ("DeepWings$Path", "sank", "I", false)
  | _ => ("DeepWings$Path", "lost", "Z", false)
def tyX4 : Nat → FieldType := fun k => match k with
  | 0 => .int
  | 1 => .int
  | _ => .boolean
abbrev wsX40 : List Cond := u_ws RX4 TX4 3
theorem nmX4 : ∀ a, a < 3 → ∀ b, b < 3 → a ≠ b → (TX4 a).2.1 ≠ (TX4 b).2.1 := by decide +kernel
theorem tyX4_ok : ∀ k, k < 3 → parseFieldDescriptor (TX4 k).2.2.1 = some (tyX4 k) := by decide +kernel
abbrev cX4_init : ByteArray := prog_6_method_1_code
def yX4_init : MethodName := ⟨RX4, "<init>", "()V"⟩
abbrev cX4_sink : ByteArray := prog_6_method_2_code
def yX4_sink : MethodName := ⟨RX4, "sink", "(LDeepWings$Sea;LDeepWings$Streams;IIZ)V"⟩
def RX5 : String := "DeepWings$Planner"
def TX5 : u_T := fun k => match k with
  | 0 => ("DeepWings$Planner", "world", "LDeepWings$World;", true)
  | 1 => ("DeepWings$Planner", "sea", "LDeepWings$Sea;", true)
  | 2 => ("DeepWings$Planner", "numbers", "[I", true)
  | 3 => ("DeepWings$Planner", "team", "I", false)
  | 4 => ("DeepWings$Planner", "choices", "[I", true)
  | 5 => ("DeepWings$Planner", "ends", "[I", true)
  | 6 => ("DeepWings$Planner", "headings", "[I", true)
  | 7 => ("DeepWings$Planner", "gains", "[I", true)
  | 8 => ("DeepWings$Planner", "mostFrom", "[I", true)
  | 9 => ("DeepWings$Planner", "covered", "[I", true)
  | 10 => ("DeepWings$Planner", "uncovered", "[I", true)
  | 11 => ("DeepWings$Planner", "picked", "[I", true)
  | 12 => ("DeepWings$Planner", "bestPicked", "[I", true)
  | _ => ("DeepWings$Planner", "best", "I", false)
def tyX5 : Nat → FieldType := fun k => match k with
  | 0 => .object "DeepWings$World"
  | 1 => .object "DeepWings$Sea"
  | 2 => .array .int
  | 3 => .int
  | 4 => .array .int
  | 5 => .array .int
  | 6 => .array .int
  | 7 => .array .int
  | 8 => .array .int
  | 9 => .array .int
  | 10 => .array .int
  | 11 => .array .int
  | 12 => .array .int
  | _ => .int
abbrev wsX50 : List Cond := u_ws RX5 TX5 14
theorem nmX5 : ∀ a, a < 14 → ∀ b, b < 14 → a ≠ b → (TX5 a).2.1 ≠ (TX5 b).2.1 := by decide +kernel
theorem tyX5_ok : ∀ k, k < 14 → parseFieldDescriptor (TX5 k).2.2.1 = some (tyX5 k) := by decide +kernel
abbrev cX5_init : ByteArray := prog_7_method_1_code
def yX5_init : MethodName := ⟨RX5, "<init>", "(LDeepWings$World;)V"⟩
abbrev cX5_work : ByteArray := prog_7_method_2_code
def yX5_work : MethodName := ⟨RX5, "work", "(I)I"⟩
abbrev cX5_headingOf : ByteArray := prog_7_method_3_code
def yX5_headingOf : MethodName := ⟨RX5, "headingOf", "(I)I"⟩
abbrev cX5_listEnds : ByteArray := prog_7_method_4_code
def yX5_listEnds : MethodName := ⟨RX5, "listEnds", "(III)V"⟩
abbrev cX5_addEnd : ByteArray := prog_7_method_5_code
def yX5_addEnd : MethodName := ⟨RX5, "addEnd", "(III)V"⟩
abbrev cX5_sumMostFrom : ByteArray := prog_7_method_6_code
def yX5_sumMostFrom : MethodName := ⟨RX5, "sumMostFrom", "()V"⟩
abbrev cX5_search : ByteArray := prog_7_method_7_code
def yX5_search : MethodName := ⟨RX5, "search", "(II)V"⟩
abbrev cX5_isTaken : ByteArray := prog_7_method_8_code
def yX5_isTaken : MethodName := ⟨RX5, "isTaken", "(II)Z"⟩
abbrev cX5_worth : ByteArray := prog_7_method_9_code
def yX5_worth : MethodName := ⟨RX5, "worth", "(II)I"⟩
abbrev cX5_gainBy : ByteArray := prog_7_method_10_code
def yX5_gainBy : MethodName := ⟨RX5, "gainBy", "(I)I"⟩
abbrev cX5_cover : ByteArray := prog_7_method_11_code
def yX5_cover : MethodName := ⟨RX5, "cover", "(II)V"⟩
abbrev cX5_uncover : ByteArray := prog_7_method_12_code
def yX5_uncover : MethodName := ⟨RX5, "uncover", "(II)V"⟩
def RX6 : String := "DeepWings$Probes"
def TX6 : u_T := fun k => match k with
  | 0 => ("DeepWings$Probes", "readings", "I", false)
  | 1 => ("DeepWings$Probes", "readBy", "[I", true)
  | 2 => ("DeepWings$Probes", "readTime", "[I", true)
  | 3 => ("DeepWings$Probes", "readCell", "[I", true)
  | 4 => ("DeepWings$Probes", "readLayer", "[I", true)
  | 5 => ("DeepWings$Probes", "readFoul", "[I", true)
  | 6 => ("DeepWings$Probes", "shown", "[I", true)
  | 7 => ("DeepWings$Probes", "cleanings", "I", false)
  | 8 => ("DeepWings$Probes", "cleanOf", "[I", true)
  | 9 => ("DeepWings$Probes", "tooMuches", "[I", true)
  | 10 => ("DeepWings$Probes", "cleanFoul", "[I", true)
  | _ => ("DeepWings$Probes", "readingsAhead", "[I", true)
def tyX6 : Nat → FieldType := fun k => match k with
  | 0 => .int
  | 1 => .array .int
  | 2 => .array .int
  | 3 => .array .int
  | 4 => .array .int
  | 5 => .array .int
  | 6 => .array .int
  | 7 => .int
  | 8 => .array .int
  | 9 => .array .int
  | 10 => .array .int
  | _ => .array .int
abbrev wsX60 : List Cond := u_ws RX6 TX6 12
theorem nmX6 : ∀ a, a < 12 → ∀ b, b < 12 → a ≠ b → (TX6 a).2.1 ≠ (TX6 b).2.1 := by decide +kernel
theorem tyX6_ok : ∀ k, k < 12 → parseFieldDescriptor (TX6 k).2.2.1 = some (tyX6 k) := by decide +kernel
abbrev cX6_init : ByteArray := prog_8_method_1_code
def yX6_init : MethodName := ⟨RX6, "<init>", "()V"⟩
abbrev cX6_become : ByteArray := prog_8_method_2_code
def yX6_become : MethodName := ⟨RX6, "become", "(LDeepWings$Probes;)V"⟩
abbrev cX6_addReading : ByteArray := prog_8_method_3_code
def yX6_addReading : MethodName := ⟨RX6, "addReading", "(ILDeepWings$Glider;II)V"⟩
abbrev cX6_addCleaning : ByteArray := prog_8_method_4_code
def yX6_addCleaning : MethodName := ⟨RX6, "addCleaning", "(III)I"⟩
abbrev cX6_putRight : ByteArray := prog_8_method_5_code
def yX6_putRight : MethodName := ⟨RX6, "putRight", "(I)I"⟩
def RX7 : String := "DeepWings$Sea"
def TX7 : u_T := fun k => match k with
  | 0 => ("DeepWings$Sea", "depth", "[I", true)
  | 1 => ("DeepWings$Sea", "lanes", "[I", true)
  | 2 => ("DeepWings$Sea", "doubt", "[I", true)
  | 3 => ("DeepWings$Sea", "salts", "[I", true)
  | 4 => ("DeepWings$Sea", "nets", "[I", true)
  | 5 => ("DeepWings$Sea", "waters", "LDeepWings$Streams;", true)
  | _ => ("DeepWings$Sea", "map", "LDeepWings$Streams;", true)
def tyX7 : Nat → FieldType := fun k => match k with
  | 0 => .array .int
  | 1 => .array .int
  | 2 => .array .int
  | 3 => .array .int
  | 4 => .array .int
  | 5 => .object "DeepWings$Streams"
  | _ => .object "DeepWings$Streams"
abbrev wsX70 : List Cond := u_ws RX7 TX7 7
theorem nmX7 : ∀ a, a < 7 → ∀ b, b < 7 → a ≠ b → (TX7 a).2.1 ≠ (TX7 b).2.1 := by decide +kernel
theorem tyX7_ok : ∀ k, k < 7 → parseFieldDescriptor (TX7 k).2.2.1 = some (tyX7 k) := by decide +kernel
abbrev cX7_init : ByteArray := prog_9_method_1_code
def yX7_init : MethodName := ⟨RX7, "<init>", "()V"⟩
abbrev cX7_become : ByteArray := prog_9_method_2_code
def yX7_become : MethodName := ⟨RX7, "become", "(LDeepWings$Sea;)V"⟩
abbrev cX7_cellRow : ByteArray := prog_9_method_3_code
def yX7_cellRow : MethodName := ⟨RX7, "cellRow", "(I)[I"⟩
abbrev cX7_placeRow : ByteArray := prog_9_method_4_code
def yX7_placeRow : MethodName := ⟨RX7, "placeRow", "(I)[I"⟩
abbrev cX7_change : ByteArray := prog_9_method_5_code
def yX7_change : MethodName := ⟨RX7, "change", "(IIII)I"⟩
abbrev cX7_has : ByteArray := prog_9_method_6_code
def yX7_has : MethodName := ⟨RX7, "has", "(II)Z"⟩
abbrev cX7_beside : ByteArray := prog_9_method_7_code
def yX7_beside : MethodName := ⟨RX7, "beside", "(II)I"⟩
abbrev cX7_stepped : ByteArray := prog_9_method_8_code
def yX7_stepped : MethodName := ⟨RX7, "stepped", "(III)I"⟩
abbrev cX7_walked : ByteArray := prog_9_method_9_code
def yX7_walked : MethodName := ⟨RX7, "walked", "(III)I"⟩
abbrev cX7_lessenDoubt : ByteArray := prog_9_method_10_code
def yX7_lessenDoubt : MethodName := ⟨RX7, "lessenDoubt", "(I)V"⟩
abbrev cX7_growDoubt : ByteArray := prog_9_method_11_code
def yX7_growDoubt : MethodName := ⟨RX7, "growDoubt", "()V"⟩
abbrev cX7_allDoubt : ByteArray := prog_9_method_12_code
def yX7_allDoubt : MethodName := ⟨RX7, "allDoubt", "()I"⟩
abbrev cX7_learn : ByteArray := prog_9_method_13_code
def yX7_learn : MethodName := ⟨RX7, "learn", "(IIII)V"⟩
abbrev cX7_nudged : ByteArray := prog_9_method_14_code
def yX7_nudged : MethodName := ⟨RX7, "nudged", "(II)I"⟩
abbrev cX7_isWhole : ByteArray := prog_9_method_15_code
def yX7_isWhole : MethodName := ⟨RX7, "isWhole", "(II)Z"⟩
def RX8 : String := "DeepWings$Shelf"
def TX8 : u_T := fun k => match k with
  | 0 => ("DeepWings$Shelf", "holds", "I", false)
  | 1 => ("DeepWings$Shelf", "sort", "I", false)
  | 2 => ("DeepWings$Shelf", "size", "I", false)
  | 3 => ("DeepWings$Shelf", "elements", "[I", true)
  | 4 => ("DeepWings$Shelf", "kind", "I", false)
  | 5 => ("DeepWings$Shelf", "cell", "I", false)
  | 6 => ("DeepWings$Shelf", "power", "I", false)
  | _ => ("DeepWings$Shelf", "state", "I", false)
def tyX8 : Nat → FieldType := fun k => match k with
  | 0 => .int
  | 1 => .int
  | 2 => .int
  | 3 => .array .int
  | 4 => .int
  | 5 => .int
  | 6 => .int
  | _ => .int
abbrev wsX80 : List Cond := u_ws RX8 TX8 8
theorem nmX8 : ∀ a, a < 8 → ∀ b, b < 8 → a ≠ b → (TX8 a).2.1 ≠ (TX8 b).2.1 := by decide +kernel
theorem tyX8_ok : ∀ k, k < 8 → parseFieldDescriptor (TX8 k).2.2.1 = some (tyX8 k) := by decide +kernel
abbrev cX8_init : ByteArray := prog_10_method_1_code
def yX8_init : MethodName := ⟨RX8, "<init>", "()V"⟩
abbrev cX8_holdGlider : ByteArray := prog_10_method_2_code
def yX8_holdGlider : MethodName := ⟨RX8, "holdGlider", "(LDeepWings$Glider;)V"⟩
abbrev cX8_holdRow : ByteArray := prog_10_method_3_code
def yX8_holdRow : MethodName := ⟨RX8, "holdRow", "(II)V"⟩
abbrev cX8_refusesAsText : ByteArray := prog_10_method_4_code
def yX8_refusesAsText : MethodName := ⟨RX8, "refusesAsText", "()I"⟩
def RX9 : String := "DeepWings$Streams"
def TX9 : u_T := fun k => match k with
  | 0 => ("DeepWings$Streams", "east", "[I", true)
  | _ => ("DeepWings$Streams", "north", "[I", true)
def tyX9 : Nat → FieldType := fun k => match k with
  | 0 => .array .int
  | _ => .array .int
abbrev wsX90 : List Cond := u_ws RX9 TX9 2
theorem nmX9 : ∀ a, a < 2 → ∀ b, b < 2 → a ≠ b → (TX9 a).2.1 ≠ (TX9 b).2.1 := by decide +kernel
theorem tyX9_ok : ∀ k, k < 2 → parseFieldDescriptor (TX9 k).2.2.1 = some (tyX9 k) := by decide +kernel
abbrev cX9_init : ByteArray := prog_11_method_1_code
def yX9_init : MethodName := ⟨RX9, "<init>", "()V"⟩
abbrev cX9_become : ByteArray := prog_11_method_2_code
def yX9_become : MethodName := ⟨RX9, "become", "(LDeepWings$Streams;)V"⟩
def RX10 : String := "DeepWings$World"
def TX10 : u_T := fun k => match k with
  | 0 => ("DeepWings$World", "sea", "LDeepWings$Sea;", true)
  | 1 => ("DeepWings$World", "fleet", "[LDeepWings$Glider;", true)
  | 2 => ("DeepWings$World", "gliders", "I", false)
  | 3 => ("DeepWings$World", "time", "I", false)
  | 4 => ("DeepWings$World", "shipCell", "I", false)
  | 5 => ("DeepWings$World", "deafness", "[I", true)
  | 6 => ("DeepWings$World", "orders", "[LDeepWings$Order;", true)
  | 7 => ("DeepWings$World", "orderCount", "I", false)
  | 8 => ("DeepWings$World", "mail", "LDeepWings$Mail;", true)
  | 9 => ("DeepWings$World", "probes", "LDeepWings$Probes;", true)
  | _ => ("DeepWings$World", "path", "LDeepWings$Path;", true)
def tyX10 : Nat → FieldType := fun k => match k with
  | 0 => .object "DeepWings$Sea"
  | 1 => .array (.object "DeepWings$Glider")
  | 2 => .int
  | 3 => .int
  | 4 => .int
  | 5 => .array .int
  | 6 => .array (.object "DeepWings$Order")
  | 7 => .int
  | 8 => .object "DeepWings$Mail"
  | 9 => .object "DeepWings$Probes"
  | _ => .object "DeepWings$Path"
abbrev wsX100 : List Cond := u_ws RX10 TX10 11
theorem nmX10 : ∀ a, a < 11 → ∀ b, b < 11 → a ≠ b → (TX10 a).2.1 ≠ (TX10 b).2.1 := by decide +kernel
theorem tyX10_ok : ∀ k, k < 11 → parseFieldDescriptor (TX10 k).2.2.1 = some (tyX10 k) := by decide +kernel
abbrev cX10_init : ByteArray := prog_12_method_1_code
def yX10_init : MethodName := ⟨RX10, "<init>", "()V"⟩
abbrev cX10_become : ByteArray := prog_12_method_2_code
def yX10_become : MethodName := ⟨RX10, "become", "(LDeepWings$World;)V"⟩
abbrev cX10_roomFor : ByteArray := prog_12_method_3_code
def yX10_roomFor : MethodName := ⟨RX10, "roomFor", "(I)LDeepWings$Glider;"⟩
abbrev cX10_addGlider : ByteArray := prog_12_method_4_code
def yX10_addGlider : MethodName := ⟨RX10, "addGlider", "(III)I"⟩
abbrev cX10_gliderAt : ByteArray := prog_12_method_5_code
def yX10_gliderAt : MethodName := ⟨RX10, "gliderAt", "(I)LDeepWings$Glider;"⟩
abbrev cX10_orderOf : ByteArray := prog_12_method_6_code
def yX10_orderOf : MethodName := ⟨RX10, "orderOf", "(LDeepWings$Glider;)LDeepWings$Order;"⟩
abbrev cX10_isAnyUpWithin : ByteArray := prog_12_method_7_code
def yX10_isAnyUpWithin : MethodName := ⟨RX10, "isAnyUpWithin", "(II)Z"⟩
abbrev cX10_howMany : ByteArray := prog_12_method_8_code
def yX10_howMany : MethodName := ⟨RX10, "howMany", "(I)I"⟩
abbrev cX10_allPower : ByteArray := prog_12_method_9_code
def yX10_allPower : MethodName := ⟨RX10, "allPower", "()I"⟩
abbrev cX10_hearAll : ByteArray := prog_12_method_10_code
def yX10_hearAll : MethodName := ⟨RX10, "hearAll", "()V"⟩
abbrev cX10_obeyAll : ByteArray := prog_12_method_11_code
def yX10_obeyAll : MethodName := ⟨RX10, "obeyAll", "()I"⟩
abbrev cX10_obey : ByteArray := prog_12_method_12_code
def yX10_obey : MethodName := ⟨RX10, "obey", "(LDeepWings$Glider;LDeepWings$Order;)Z"⟩
abbrev cX10_cut : ByteArray := prog_12_method_13_code
def yX10_cut : MethodName := ⟨RX10, "cut", "(II)I"⟩
abbrev cX10_ruleFor : ByteArray := prog_12_method_14_code
def yX10_ruleFor : MethodName := ⟨RX10, "ruleFor", "(LDeepWings$Glider;LDeepWings$Order;)I"⟩
abbrev cX10_sensed : ByteArray := prog_12_method_15_code
def yX10_sensed : MethodName := ⟨RX10, "sensed", "(LDeepWings$Glider;I)I"⟩
abbrev cX10_descend : ByteArray := prog_12_method_16_code
def yX10_descend : MethodName := ⟨RX10, "descend", "(LDeepWings$Glider;III)I"⟩
abbrev cX10_measure : ByteArray := prog_12_method_17_code
def yX10_measure : MethodName := ⟨RX10, "measure", "(LDeepWings$Glider;I)V"⟩
abbrev cX10_numberOf : ByteArray := prog_12_method_18_code
def yX10_numberOf : MethodName := ⟨RX10, "numberOf", "(LDeepWings$Glider;)I"⟩
def RX11 : String := "DeepWings"
def TX11 : u_T := fun k => match k with
  | 0 => ("DeepWings", "now", "LDeepWings$World;", true)
  | 1 => ("DeepWings", "planner", "LDeepWings$Planner;", true)
  | 2 => ("DeepWings", "reader", "LDeepWings$OrderReader;", true)
  | 3 => ("DeepWings", "shelves", "[LDeepWings$Shelf;", true)
  | _ => ("DeepWings", "kept", "LDeepWings$World;", false)
def tyX11 : Nat → FieldType := fun k => match k with
  | 0 => .object "DeepWings$World"
  | 1 => .object "DeepWings$Planner"
  | 2 => .object "DeepWings$OrderReader"
  | 3 => .array (.object "DeepWings$Shelf")
  | _ => .object "DeepWings$World"
abbrev wsX110 : List Cond := u_ws RX11 TX11 5
theorem nmX11 : ∀ a, a < 5 → ∀ b, b < 5 → a ≠ b → (TX11 a).2.1 ≠ (TX11 b).2.1 := by decide +kernel
theorem tyX11_ok : ∀ k, k < 5 → parseFieldDescriptor (TX11 k).2.2.1 = some (tyX11 k) := by decide +kernel
abbrev cX11_init : ByteArray := prog_1_method_1_code
def yX11_init : MethodName := ⟨RX11, "<init>", "()V"⟩
abbrev cX11_sea : ByteArray := prog_1_method_2_code
def yX11_sea : MethodName := ⟨RX11, "sea", "(IIII)I"⟩
abbrev cX11_stream : ByteArray := prog_1_method_3_code
def yX11_stream : MethodName := ⟨RX11, "stream", "(IIIIIZ)I"⟩
abbrev cX11_salt : ByteArray := prog_1_method_4_code
def yX11_salt : MethodName := ⟨RX11, "salt", "(IIII)I"⟩
abbrev cX11_cell : ByteArray := prog_1_method_5_code
def yX11_cell : MethodName := ⟨RX11, "cell", "(IIII)I"⟩
abbrev cX11_glider : ByteArray := prog_1_method_6_code
def yX11_glider : MethodName := ⟨RX11, "glider", "(IIII)I"⟩
abbrev cX11_about : ByteArray := prog_1_method_7_code
def yX11_about : MethodName := ⟨RX11, "about", "(II)I"⟩
abbrev cX11_can : ByteArray := prog_1_method_8_code
def yX11_can : MethodName := ⟨RX11, "can", "(II)I"⟩
abbrev cX11_leak : ByteArray := prog_1_method_9_code
def yX11_leak : MethodName := ⟨RX11, "leak", "(IZ)I"⟩
abbrev cX11_dive : ByteArray := prog_1_method_10_code
def yX11_dive : MethodName := ⟨RX11, "dive", "(IIII)I"⟩
abbrev cX11_fault : ByteArray := prog_1_method_11_code
def yX11_fault : MethodName := ⟨RX11, "fault", "(I)I"⟩
abbrev cX11_order : ByteArray := prog_1_method_12_code
def yX11_order : MethodName := ⟨RX11, "order", "(I)I"⟩
abbrev cX11_letter : ByteArray := prog_1_method_13_code
def yX11_letter : MethodName := ⟨RX11, "letter", "(II)I"⟩
abbrev cX11_waiting : ByteArray := prog_1_method_14_code
def yX11_waiting : MethodName := ⟨RX11, "waiting", "(I)I"⟩
abbrev cX11_deaf : ByteArray := prog_1_method_15_code
def yX11_deaf : MethodName := ⟨RX11, "deaf", "(IZ)I"⟩
abbrev cX11_rule : ByteArray := prog_1_method_16_code
def yX11_rule : MethodName := ⟨RX11, "rule", "(I)I"⟩
abbrev cX11_times : ByteArray := prog_1_method_17_code
def yX11_times : MethodName := ⟨RX11, "times", "(I)I"⟩
abbrev cX11_known : ByteArray := prog_1_method_18_code
def yX11_known : MethodName := ⟨RX11, "known", "(II)I"⟩
abbrev cX11_clean : ByteArray := prog_1_method_19_code
def yX11_clean : MethodName := ⟨RX11, "clean", "(II)I"⟩
abbrev cX11_reading : ByteArray := prog_1_method_20_code
def yX11_reading : MethodName := ⟨RX11, "reading", "(II)I"⟩
abbrev cX11_read : ByteArray := prog_1_method_21_code
def yX11_read : MethodName := ⟨RX11, "read", "(IZ)J"⟩
abbrev cX11_plan : ByteArray := prog_1_method_22_code
def yX11_plan : MethodName := ⟨RX11, "plan", "(I)I"⟩
abbrev cX11_planned : ByteArray := prog_1_method_23_code
def yX11_planned : MethodName := ⟨RX11, "planned", "(II)I"⟩
abbrev cX11_ends : ByteArray := prog_1_method_24_code
def yX11_ends : MethodName := ⟨RX11, "ends", "(IIII)I"⟩
abbrev cX11_whole : ByteArray := prog_1_method_25_code
def yX11_whole : MethodName := ⟨RX11, "whole", "(I)I"⟩
abbrev cX11_ship : ByteArray := prog_1_method_26_code
def yX11_ship : MethodName := ⟨RX11, "ship", "(II)I"⟩
abbrev cX11_left : ByteArray := prog_1_method_27_code
def yX11_left : MethodName := ⟨RX11, "left", "(I)I"⟩
abbrev cX11_next : ByteArray := prog_1_method_28_code
def yX11_next : MethodName := ⟨RX11, "next", "()I"⟩
abbrev cX11_fetch : ByteArray := prog_1_method_29_code
def yX11_fetch : MethodName := ⟨RX11, "fetch", "(I)I"⟩
abbrev cX11_image : ByteArray := prog_1_method_30_code
def yX11_image : MethodName := ⟨RX11, "image", "()I"⟩
abbrev cX11_restore : ByteArray := prog_1_method_31_code
def yX11_restore : MethodName := ⟨RX11, "restore", "()I"⟩
abbrev cX11_count : ByteArray := prog_1_method_32_code
def yX11_count : MethodName := ⟨RX11, "count", "(I)I"⟩
abbrev cX11_keep : ByteArray := prog_1_method_33_code
def yX11_keep : MethodName := ⟨RX11, "keep", "(III)I"⟩
abbrev cX11_row : ByteArray := prog_1_method_34_code
def yX11_row : MethodName := ⟨RX11, "row", "(III)I"⟩
abbrev cX11_put : ByteArray := prog_1_method_35_code
def yX11_put : MethodName := ⟨RX11, "put", "(III)I"⟩
abbrev cX11_element : ByteArray := prog_1_method_36_code
def yX11_element : MethodName := ⟨RX11, "element", "(II)J"⟩
abbrev cX11_copy : ByteArray := prog_1_method_37_code
def yX11_copy : MethodName := ⟨RX11, "copy", "(IIIII)I"⟩
abbrev cX11_sum : ByteArray := prog_1_method_38_code
def yX11_sum : MethodName := ⟨RX11, "sum", "(I)I"⟩
abbrev cX11_toss : ByteArray := prog_1_method_39_code
def yX11_toss : MethodName := ⟨RX11, "toss", "(I)I"⟩
abbrev cX11_throwFailure : ByteArray := prog_1_method_40_code
def yX11_throwFailure : MethodName := ⟨RX11, "throwFailure", "(LDeepWings$Shelf;)V"⟩
abbrev cX11_shelfAt : ByteArray := prog_1_method_41_code
def yX11_shelfAt : MethodName := ⟨RX11, "shelfAt", "(I)LDeepWings$Shelf;"⟩
abbrev cX11_tellAbout : ByteArray := prog_1_method_42_code
def yX11_tellAbout : MethodName := ⟨RX11, "tellAbout", "(LDeepWings$Glider;I)I"⟩
abbrev cX11_isCell : ByteArray := prog_1_method_43_code
def yX11_isCell : MethodName := ⟨RX11, "isCell", "(II)Z"⟩
abbrev cX11_isLayer : ByteArray := prog_1_method_44_code
def yX11_isLayer : MethodName := ⟨RX11, "isLayer", "(I)Z"⟩
abbrev cX11_isStream : ByteArray := prog_1_method_45_code
def yX11_isStream : MethodName := ⟨RX11, "isStream", "(I)Z"⟩
abbrev cX11_isSpan : ByteArray := prog_1_method_46_code
def yX11_isSpan : MethodName := ⟨RX11, "isSpan", "(II)Z"⟩
abbrev cX11_isSeaValue : ByteArray := prog_1_method_47_code
def yX11_isSeaValue : MethodName := ⟨RX11, "isSeaValue", "(II)Z"⟩
abbrev cX11_isStretch : ByteArray := prog_1_method_48_code
def yX11_isStretch : MethodName := ⟨RX11, "isStretch", "(III)Z"⟩
abbrev cX11_cellOf : ByteArray := prog_1_method_49_code
def yX11_cellOf : MethodName := ⟨RX11, "cellOf", "(II)I"⟩
abbrev cX11_xOf : ByteArray := prog_1_method_50_code
def yX11_xOf : MethodName := ⟨RX11, "xOf", "(I)I"⟩
abbrev cX11_yOf : ByteArray := prog_1_method_51_code
def yX11_yOf : MethodName := ⟨RX11, "yOf", "(I)I"⟩
abbrev cX11_placeOf : ByteArray := prog_1_method_52_code
def yX11_placeOf : MethodName := ⟨RX11, "placeOf", "(II)I"⟩
abbrev cX11_changeAt : ByteArray := prog_1_method_53_code
def yX11_changeAt : MethodName := ⟨RX11, "changeAt", "([III)I"⟩
abbrev cX11_stepsBetween : ByteArray := prog_1_method_54_code
def yX11_stepsBetween : MethodName := ⟨RX11, "stepsBetween", "(II)I"⟩
abbrev cX11_costOf : ByteArray := prog_1_method_55_code
def yX11_costOf : MethodName := ⟨RX11, "costOf", "(II)I"⟩
abbrev cX11_lowestBits : ByteArray := prog_1_method_56_code
def yX11_lowestBits : MethodName := ⟨RX11, "lowestBits", "(II)I"⟩
abbrev cX11_copyAll : ByteArray := prog_1_method_57_code
def yX11_copyAll : MethodName := ⟨RX11, "copyAll", "([I[I)V"⟩
def RX12 : String := "DeepWingsModel"
def TX12 : u_T := fun k => match k with
  | 0 => ("DeepWingsModel", "thrown", "I", false)
  | 1 => ("DeepWingsModel", "s", "[I", true)
  | 2 => ("DeepWingsModel", "kept", "[I", true)
  | 3 => ("DeepWingsModel", "isImage", "Z", false)
  | 4 => ("DeepWingsModel", "wayX", "I", false)
  | 5 => ("DeepWingsModel", "wayY", "I", false)
  | 6 => ("DeepWingsModel", "sank", "I", false)
  | 7 => ("DeepWingsModel", "isCaught", "Z", false)
  | 8 => ("DeepWingsModel", "look", "[I", true)
  | 9 => ("DeepWingsModel", "lookMany", "I", false)
  | 10 => ("DeepWingsModel", "base", "I", false)
  | 11 => ("DeepWingsModel", "many", "I", false)
  | 12 => ("DeepWingsModel", "spot", "I", false)
  | 13 => ("DeepWingsModel", "isLook", "Z", false)
  | 14 => ("DeepWingsModel", "told", "I", false)
  | 15 => ("DeepWingsModel", "holds", "Z", false)
  | 16 => ("DeepWingsModel", "rule0", "I", false)
  | 17 => ("DeepWingsModel", "act", "I", false)
  | 18 => ("DeepWingsModel", "toX", "I", false)
  | 19 => ("DeepWingsModel", "toY", "I", false)
  | 20 => ("DeepWingsModel", "toLayer", "I", false)
  | 21 => ("DeepWingsModel", "planners", "[I", true)
  | 22 => ("DeepWingsModel", "endOf", "[I", true)
  | 23 => ("DeepWingsModel", "heading", "[I", true)
  | 24 => ("DeepWingsModel", "bestHeading", "[I", true)
  | 25 => ("DeepWingsModel", "gains", "[I", true)
  | 26 => ("DeepWingsModel", "plannerMany", "I", false)
  | 27 => ("DeepWingsModel", "bestGain", "I", false)
  | 28 => ("DeepWingsModel", "held", "[I", true)
  | 29 => ("DeepWingsModel", "keptKind", "[I", true)
  | 30 => ("DeepWingsModel", "keptCell", "[I", true)
  | 31 => ("DeepWingsModel", "keptPower", "[I", true)
  | 32 => ("DeepWingsModel", "keptState", "[I", true)
  | 33 => ("DeepWingsModel", "sort", "[I", true)
  | 34 => ("DeepWingsModel", "size", "[I", true)
  | 35 => ("DeepWingsModel", "item", "[I", true)
  | _ => ("DeepWingsModel", "aside", "[I", true)
def tyX12 : Nat → FieldType := fun k => match k with
  | 0 => .int
  | 1 => .array .int
  | 2 => .array .int
  | 3 => .boolean
  | 4 => .int
  | 5 => .int
  | 6 => .int
  | 7 => .boolean
  | 8 => .array .int
  | 9 => .int
  | 10 => .int
  | 11 => .int
  | 12 => .int
  | 13 => .boolean
  | 14 => .int
  | 15 => .boolean
  | 16 => .int
  | 17 => .int
  | 18 => .int
  | 19 => .int
  | 20 => .int
  | 21 => .array .int
  | 22 => .array .int
  | 23 => .array .int
  | 24 => .array .int
  | 25 => .array .int
  | 26 => .int
  | 27 => .int
  | 28 => .array .int
  | 29 => .array .int
  | 30 => .array .int
  | 31 => .array .int
  | 32 => .array .int
  | 33 => .array .int
  | 34 => .array .int
  | 35 => .array .int
  | _ => .array .int
abbrev wsX120 : List Cond := u_ws RX12 TX12 37
theorem nmX12 : ∀ a, a < 37 → ∀ b, b < 37 → a ≠ b → (TX12 a).2.1 ≠ (TX12 b).2.1 := by decide +kernel
theorem tyX12_ok : ∀ k, k < 37 → parseFieldDescriptor (TX12 k).2.2.1 = some (tyX12 k) := by decide +kernel
abbrev cX12_thrown : ByteArray := prog_14_method_1_code
def yX12_thrown : MethodName := ⟨RX12, "thrown", "()I"⟩
abbrev cX12_is : ByteArray := prog_14_method_2_code
def yX12_is : MethodName := ⟨RX12, "is", "(III)Z"⟩
abbrev cX12_init : ByteArray := prog_14_method_3_code
def yX12_init : MethodName := ⟨RX12, "<init>", "()V"⟩
abbrev cX12_isCell : ByteArray := prog_14_method_4_code
def yX12_isCell : MethodName := ⟨RX12, "isCell", "(II)Z"⟩
abbrev cX12_isWater : ByteArray := prog_14_method_5_code
def yX12_isWater : MethodName := ⟨RX12, "isWater", "(II)Z"⟩
abbrev cX12_sea : ByteArray := prog_14_method_6_code
def yX12_sea : MethodName := ⟨RX12, "sea", "(IIII)I"⟩
abbrev cX12_stream : ByteArray := prog_14_method_7_code
def yX12_stream : MethodName := ⟨RX12, "stream", "(IIIIIZ)I"⟩
abbrev cX12_salt : ByteArray := prog_14_method_8_code
def yX12_salt : MethodName := ⟨RX12, "salt", "(IIII)I"⟩
abbrev cX12_cell : ByteArray := prog_14_method_9_code
def yX12_cell : MethodName := ⟨RX12, "cell", "(IIII)I"⟩
abbrev cX12_isGlider : ByteArray := prog_14_method_10_code
def yX12_isGlider : MethodName := ⟨RX12, "isGlider", "(I)Z"⟩
abbrev cX12_isUp : ByteArray := prog_14_method_11_code
def yX12_isUp : MethodName := ⟨RX12, "isUp", "(I)Z"⟩
abbrev cX12_sinks : ByteArray := prog_14_method_12_code
def yX12_sinks : MethodName := ⟨RX12, "sinks", "(I)I"⟩
abbrev cX12_goes : ByteArray := prog_14_method_13_code
def yX12_goes : MethodName := ⟨RX12, "goes", "(I)I"⟩
abbrev cX12_dry : ByteArray := prog_14_method_14_code
def yX12_dry : MethodName := ⟨RX12, "dry", "(II)I"⟩
abbrev cX12_cost : ByteArray := prog_14_method_15_code
def yX12_cost : MethodName := ⟨RX12, "cost", "(II)I"⟩
abbrev cX12_layerFor : ByteArray := prog_14_method_16_code
def yX12_layerFor : MethodName := ⟨RX12, "layerFor", "(II)I"⟩
abbrev cX12_glider : ByteArray := prog_14_method_17_code
def yX12_glider : MethodName := ⟨RX12, "glider", "(IIII)I"⟩
abbrev cX12_about : ByteArray := prog_14_method_18_code
def yX12_about : MethodName := ⟨RX12, "about", "(II)I"⟩
abbrev cX12_can : ByteArray := prog_14_method_19_code
def yX12_can : MethodName := ⟨RX12, "can", "(II)I"⟩
abbrev cX12_leak : ByteArray := prog_14_method_20_code
def yX12_leak : MethodName := ⟨RX12, "leak", "(IZ)I"⟩
abbrev cX12_abs : ByteArray := prog_14_method_21_code
def yX12_abs : MethodName := ⟨RX12, "abs", "(I)I"⟩
abbrev cX12_step : ByteArray := prog_14_method_22_code
def yX12_step : MethodName := ⟨RX12, "step", "(II)V"⟩
abbrev cX12_steps : ByteArray := prog_14_method_23_code
def yX12_steps : MethodName := ⟨RX12, "steps", "(II)V"⟩
abbrev cX12_isNet : ByteArray := prog_14_method_24_code
def yX12_isNet : MethodName := ⟨RX12, "isNet", "(I)Z"⟩
abbrev cX12_sink : ByteArray := prog_14_method_25_code
def yX12_sink : MethodName := ⟨RX12, "sink", "(IZ)V"⟩
abbrev cX12_isHeading : ByteArray := prog_14_method_26_code
def yX12_isHeading : MethodName := ⟨RX12, "isHeading", "(III)Z"⟩
abbrev cX12_measure : ByteArray := prog_14_method_27_code
def yX12_measure : MethodName := ⟨RX12, "measure", "(I)V"⟩
abbrev cX12_besideOf : ByteArray := prog_14_method_28_code
def yX12_besideOf : MethodName := ⟨RX12, "besideOf", "(II)I"⟩
abbrev cX12_nearer : ByteArray := prog_14_method_29_code
def yX12_nearer : MethodName := ⟨RX12, "nearer", "(III)I"⟩
abbrev cX12_learn : ByteArray := prog_14_method_30_code
def yX12_learn : MethodName := ⟨RX12, "learn", "(III)V"⟩
abbrev cX12_dives : ByteArray := prog_14_method_31_code
def yX12_dives : MethodName := ⟨RX12, "dives", "(IIII)I"⟩
abbrev cX12_dive : ByteArray := prog_14_method_32_code
def yX12_dive : MethodName := ⟨RX12, "dive", "(IIII)I"⟩
abbrev cX12_at : ByteArray := prog_14_method_33_code
def yX12_at : MethodName := ⟨RX12, "at", "()I"⟩
abbrev cX12_takes : ByteArray := prog_14_method_34_code
def yX12_takes : MethodName := ⟨RX12, "takes", "(II)Z"⟩
abbrev cX12_isField : ByteArray := prog_14_method_35_code
def yX12_isField : MethodName := ⟨RX12, "isField", "(I)Z"⟩
abbrev cX12_fieldOf : ByteArray := prog_14_method_36_code
def yX12_fieldOf : MethodName := ⟨RX12, "fieldOf", "(II)I"⟩
abbrev cX12_takesCheck : ByteArray := prog_14_method_37_code
def yX12_takesCheck : MethodName := ⟨RX12, "takesCheck", "(I)Z"⟩
abbrev cX12_takesTest : ByteArray := prog_14_method_38_code
def yX12_takesTest : MethodName := ⟨RX12, "takesTest", "(I)Z"⟩
abbrev cX12_takesAct : ByteArray := prog_14_method_39_code
def yX12_takesAct : MethodName := ⟨RX12, "takesAct", "(I)Z"⟩
abbrev cX12_goesOrder : ByteArray := prog_14_method_40_code
def yX12_goesOrder : MethodName := ⟨RX12, "goesOrder", "(II)Z"⟩
abbrev cX12_lacksText : ByteArray := prog_14_method_41_code
def yX12_lacksText : MethodName := ⟨RX12, "lacksText", "(I)I"⟩
abbrev cX12_bring : ByteArray := prog_14_method_42_code
def yX12_bring : MethodName := ⟨RX12, "bring", "(I)V"⟩
abbrev cX12_fault : ByteArray := prog_14_method_43_code
def yX12_fault : MethodName := ⟨RX12, "fault", "(I)I"⟩
abbrev cX12_order : ByteArray := prog_14_method_44_code
def yX12_order : MethodName := ⟨RX12, "order", "(I)I"⟩
abbrev cX12_letter : ByteArray := prog_14_method_45_code
def yX12_letter : MethodName := ⟨RX12, "letter", "(II)I"⟩
abbrev cX12_waiting : ByteArray := prog_14_method_46_code
def yX12_waiting : MethodName := ⟨RX12, "waiting", "(I)I"⟩
abbrev cX12_deaf : ByteArray := prog_14_method_47_code
def yX12_deaf : MethodName := ⟨RX12, "deaf", "(IZ)I"⟩
abbrev cX12_rule : ByteArray := prog_14_method_48_code
def yX12_rule : MethodName := ⟨RX12, "rule", "(I)I"⟩
abbrev cX12_hears : ByteArray := prog_14_method_49_code
def yX12_hears : MethodName := ⟨RX12, "hears", "(I)V"⟩
abbrev cX12_cut : ByteArray := prog_14_method_50_code
def yX12_cut : MethodName := ⟨RX12, "cut", "(II)I"⟩
abbrev cX12_acts : ByteArray := prog_14_method_51_code
def yX12_acts : MethodName := ⟨RX12, "acts", "(I)Z"⟩
abbrev cX12_goTime : ByteArray := prog_14_method_52_code
def yX12_goTime : MethodName := ⟨RX12, "goTime", "()I"⟩
abbrev cX12_times : ByteArray := prog_14_method_53_code
def yX12_times : MethodName := ⟨RX12, "times", "(I)I"⟩
abbrev cX12_known : ByteArray := prog_14_method_54_code
def yX12_known : MethodName := ⟨RX12, "known", "(II)I"⟩
abbrev cX12_clean : ByteArray := prog_14_method_55_code
def yX12_clean : MethodName := ⟨RX12, "clean", "(II)I"⟩
abbrev cX12_isReading : ByteArray := prog_14_method_56_code
def yX12_isReading : MethodName := ⟨RX12, "isReading", "(I)Z"⟩
abbrev cX12_reading : ByteArray := prog_14_method_57_code
def yX12_reading : MethodName := ⟨RX12, "reading", "(II)I"⟩
abbrev cX12_rightOf : ByteArray := prog_14_method_58_code
def yX12_rightOf : MethodName := ⟨RX12, "rightOf", "(I)I"⟩
abbrev cX12_read : ByteArray := prog_14_method_59_code
def yX12_read : MethodName := ⟨RX12, "read", "(IZ)J"⟩
abbrev cX12_endBy : ByteArray := prog_14_method_60_code
def yX12_endBy : MethodName := ⟨RX12, "endBy", "(IIII)V"⟩
abbrev cX12_findEnds : ByteArray := prog_14_method_61_code
def yX12_findEnds : MethodName := ⟨RX12, "findEnds", "(I)V"⟩
abbrev cX12_gainOf : ByteArray := prog_14_method_62_code
def yX12_gainOf : MethodName := ⟨RX12, "gainOf", "()I"⟩
abbrev cX12_gainAt : ByteArray := prog_14_method_63_code
def yX12_gainAt : MethodName := ⟨RX12, "gainAt", "(I)I"⟩
abbrev cX12_raise : ByteArray := prog_14_method_64_code
def yX12_raise : MethodName := ⟨RX12, "raise", "(II)I"⟩
abbrev cX12_clearAt : ByteArray := prog_14_method_65_code
def yX12_clearAt : MethodName := ⟨RX12, "clearAt", "(I)V"⟩
abbrev cX12_isApart : ByteArray := prog_14_method_66_code
def yX12_isApart : MethodName := ⟨RX12, "isApart", "(I)Z"⟩
abbrev cX12_findPlan : ByteArray := prog_14_method_67_code
def yX12_findPlan : MethodName := ⟨RX12, "findPlan", "(I)Z"⟩
abbrev cX12_plan : ByteArray := prog_14_method_68_code
def yX12_plan : MethodName := ⟨RX12, "plan", "(I)I"⟩
abbrev cX12_planned : ByteArray := prog_14_method_69_code
def yX12_planned : MethodName := ⟨RX12, "planned", "(II)I"⟩
abbrev cX12_ends : ByteArray := prog_14_method_70_code
def yX12_ends : MethodName := ⟨RX12, "ends", "(IIII)I"⟩
abbrev cX12_comesTo : ByteArray := prog_14_method_71_code
def yX12_comesTo : MethodName := ⟨RX12, "comesTo", "(II)I"⟩
abbrev cX12_whole : ByteArray := prog_14_method_72_code
def yX12_whole : MethodName := ⟨RX12, "whole", "(I)I"⟩
abbrev cX12_ship : ByteArray := prog_14_method_73_code
def yX12_ship : MethodName := ⟨RX12, "ship", "(II)I"⟩
abbrev cX12_leftOf : ByteArray := prog_14_method_74_code
def yX12_leftOf : MethodName := ⟨RX12, "leftOf", "(I)I"⟩
abbrev cX12_left : ByteArray := prog_14_method_75_code
def yX12_left : MethodName := ⟨RX12, "left", "(I)I"⟩
abbrev cX12_offShip : ByteArray := prog_14_method_76_code
def yX12_offShip : MethodName := ⟨RX12, "offShip", "(I)I"⟩
abbrev cX12_next : ByteArray := prog_14_method_77_code
def yX12_next : MethodName := ⟨RX12, "next", "()I"⟩
abbrev cX12_fetch : ByteArray := prog_14_method_78_code
def yX12_fetch : MethodName := ⟨RX12, "fetch", "(I)I"⟩
abbrev cX12_image : ByteArray := prog_14_method_79_code
def yX12_image : MethodName := ⟨RX12, "image", "()I"⟩
abbrev cX12_restore : ByteArray := prog_14_method_80_code
def yX12_restore : MethodName := ⟨RX12, "restore", "()I"⟩
abbrev cX12_count : ByteArray := prog_14_method_81_code
def yX12_count : MethodName := ⟨RX12, "count", "(I)I"⟩
abbrev cX12_isShelf : ByteArray := prog_14_method_82_code
def yX12_isShelf : MethodName := ⟨RX12, "isShelf", "(I)Z"⟩
abbrev cX12_keep : ByteArray := prog_14_method_83_code
def yX12_keep : MethodName := ⟨RX12, "keep", "(III)I"⟩
abbrev cX12_row : ByteArray := prog_14_method_84_code
def yX12_row : MethodName := ⟨RX12, "row", "(III)I"⟩
abbrev cX12_narrow : ByteArray := prog_14_method_85_code
def yX12_narrow : MethodName := ⟨RX12, "narrow", "(II)I"⟩
abbrev cX12_put : ByteArray := prog_14_method_86_code
def yX12_put : MethodName := ⟨RX12, "put", "(III)I"⟩
abbrev cX12_element : ByteArray := prog_14_method_87_code
def yX12_element : MethodName := ⟨RX12, "element", "(II)J"⟩
abbrev cX12_copy : ByteArray := prog_14_method_88_code
def yX12_copy : MethodName := ⟨RX12, "copy", "(IIIII)I"⟩
abbrev cX12_lacksGlider : ByteArray := prog_14_method_89_code
def yX12_lacksGlider : MethodName := ⟨RX12, "lacksGlider", "(I)I"⟩
abbrev cX12_sum : ByteArray := prog_14_method_90_code
def yX12_sum : MethodName := ⟨RX12, "sum", "(I)I"⟩
abbrev cX12_toss : ByteArray := prog_14_method_91_code
def yX12_toss : MethodName := ⟨RX12, "toss", "(I)I"⟩
def RJx145de : String := "java/io/Serializable"
def TJx145de : u_T := fun k => match k with
  | _ => ("", "", "", false)
def tyJx145de : Nat → FieldType := fun k => match k with
  | _ => .int
abbrev wsJx145de0 : List Cond := u_ws RJx145de TJx145de 0
theorem nmJx145de : ∀ a, a < 0 → ∀ b, b < 0 → a ≠ b → (TJx145de a).2.1 ≠ (TJx145de b).2.1 := by decide +kernel
theorem tyJx145de_ok : ∀ k, k < 0 → parseFieldDescriptor (TJx145de k).2.2.1 = some (tyJx145de k) := by decide +kernel
def RJx9f9b0 : String := "java/lang/CharSequence"
def TJx9f9b0 : u_T := fun k => match k with
  | _ => ("", "", "", false)
def tyJx9f9b0 : Nat → FieldType := fun k => match k with
  | _ => .int
abbrev wsJx9f9b00 : List Cond := u_ws RJx9f9b0 TJx9f9b0 0
theorem nmJx9f9b0 : ∀ a, a < 0 → ∀ b, b < 0 → a ≠ b → (TJx9f9b0 a).2.1 ≠ (TJx9f9b0 b).2.1 := by decide +kernel
theorem tyJx9f9b0_ok : ∀ k, k < 0 → parseFieldDescriptor (TJx9f9b0 k).2.2.1 = some (tyJx9f9b0 k) := by decide +kernel
def RJxb160c : String := "java/lang/Comparable"
def TJxb160c : u_T := fun k => match k with
  | _ => ("", "", "", false)
def tyJxb160c : Nat → FieldType := fun k => match k with
  | _ => .int
abbrev wsJxb160c0 : List Cond := u_ws RJxb160c TJxb160c 0
theorem nmJxb160c : ∀ a, a < 0 → ∀ b, b < 0 → a ≠ b → (TJxb160c a).2.1 ≠ (TJxb160c b).2.1 := by decide +kernel
theorem tyJxb160c_ok : ∀ k, k < 0 → parseFieldDescriptor (TJxb160c k).2.2.1 = some (tyJxb160c k) := by decide +kernel
def RJ9 : String := "java/lang/Math"
def TJ9 : u_T := fun k => match k with
  | _ => ("", "", "", false)
def tyJ9 : Nat → FieldType := fun k => match k with
  | _ => .int
abbrev wsJ90 : List Cond := u_ws RJ9 TJ9 0
theorem nmJ9 : ∀ a, a < 0 → ∀ b, b < 0 → a ≠ b → (TJ9 a).2.1 ≠ (TJ9 b).2.1 := by decide +kernel
theorem tyJ9_ok : ∀ k, k < 0 → parseFieldDescriptor (TJ9 k).2.2.1 = some (tyJ9 k) := by decide +kernel
abbrev cJ9_abs_0f7a4 : ByteArray := prog_18_method_59_code
def yJ9_abs_0f7a4 : MethodName := ⟨RJ9, "abs", "(I)I"⟩
abbrev cJ9_max_7cf53 : ByteArray := prog_18_method_65_code
def yJ9_max_7cf53 : MethodName := ⟨RJ9, "max", "(II)I"⟩
abbrev cJ9_min_7cf53 : ByteArray := prog_18_method_69_code
def yJ9_min_7cf53 : MethodName := ⟨RJ9, "min", "(II)I"⟩
def RJ0 : String := "java/lang/String"
def TJ0 : u_T := fun k => match k with
  | _ => ("", "", "", false)
def tyJ0 : Nat → FieldType := fun k => match k with
  | _ => .int
abbrev wsJ00 : List Cond := u_ws RJ0 TJ0 0
theorem nmJ0 : ∀ a, a < 0 → ∀ b, b < 0 → a ≠ b → (TJ0 a).2.1 ≠ (TJ0 b).2.1 := by decide +kernel
theorem tyJ0_ok : ∀ k, k < 0 → parseFieldDescriptor (TJ0 k).2.2.1 = some (tyJ0 k) := by decide +kernel
abbrev cJ0_length_8abf5 : ByteArray := prog_20_method_54_code
def yJ0_length_8abf5 : MethodName := ⟨RJ0, "length", "()I"⟩
abbrev cJ0_charAt_5068e : ByteArray := prog_20_method_56_code
def yJ0_charAt_5068e : MethodName := ⟨RJ0, "charAt", "(I)C"⟩
abbrev cJ0_coder_7d493 : ByteArray := prog_20_method_152_code
def yJ0_coder_7d493 : MethodName := ⟨RJ0, "coder", "()B"⟩
abbrev cJ0_isLatin1_aae02 : ByteArray := prog_20_method_154_code
def yJ0_isLatin1_aae02 : MethodName := ⟨RJ0, "isLatin1", "()Z"⟩
abbrev cJ0_checkIndex_df160 : ByteArray := prog_20_method_155_code
def yJ0_checkIndex_df160 : MethodName := ⟨RJ0, "checkIndex", "(II)V"⟩
def RJ1 : String := "java/lang/StringLatin1"
def TJ1 : u_T := fun k => match k with
  | _ => ("", "", "", false)
def tyJ1 : Nat → FieldType := fun k => match k with
  | _ => .int
abbrev wsJ10 : List Cond := u_ws RJ1 TJ1 0
theorem nmJ1 : ∀ a, a < 0 → ∀ b, b < 0 → a ≠ b → (TJ1 a).2.1 ≠ (TJ1 b).2.1 := by decide +kernel
theorem tyJ1_ok : ∀ k, k < 0 → parseFieldDescriptor (TJ1 k).2.2.1 = some (tyJ1 k) := by decide +kernel
abbrev cJ1_charAt_3b067 : ByteArray := prog_21_method_2_code
def yJ1_charAt_3b067 : MethodName := ⟨RJ1, "charAt", "([BI)C"⟩
def RJ2 : String := "java/lang/StringUTF16"
def TJ2 : u_T := fun k => match k with
  | _ => ("", "", "", false)
def tyJ2 : Nat → FieldType := fun k => match k with
  | _ => .int
abbrev wsJ20 : List Cond := u_ws RJ2 TJ2 0
theorem nmJ2 : ∀ a, a < 0 → ∀ b, b < 0 → a ≠ b → (TJ2 a).2.1 ≠ (TJ2 b).2.1 := by decide +kernel
theorem tyJ2_ok : ∀ k, k < 0 → parseFieldDescriptor (TJ2 k).2.2.1 = some (tyJ2 k) := by decide +kernel
abbrev cJ2_getChar_3b067 : ByteArray := prog_22_method_5_code
def yJ2_getChar_3b067 : MethodName := ⟨RJ2, "getChar", "([BI)C"⟩
abbrev cJ2_length_9d52b : ByteArray := prog_22_method_6_code
def yJ2_length_9d52b : MethodName := ⟨RJ2, "length", "([B)I"⟩
abbrev cJ2_charAt_3b067 : ByteArray := prog_22_method_83_code
def yJ2_charAt_3b067 : MethodName := ⟨RJ2, "charAt", "([BI)C"⟩
abbrev cJ2_checkIndex_2214a : ByteArray := prog_22_method_91_code
def yJ2_checkIndex_2214a : MethodName := ⟨RJ2, "checkIndex", "(I[B)V"⟩
def RJ10 : String := "java/lang/System"
def TJ10 : u_T := fun k => match k with
  | _ => ("", "", "", false)
def tyJ10 : Nat → FieldType := fun k => match k with
  | _ => .int
abbrev wsJ100 : List Cond := u_ws RJ10 TJ10 0
theorem nmJ10 : ∀ a, a < 0 → ∀ b, b < 0 → a ≠ b → (TJ10 a).2.1 ≠ (TJ10 b).2.1 := by decide +kernel
theorem tyJ10_ok : ∀ k, k < 0 → parseFieldDescriptor (TJ10 k).2.2.1 = some (tyJ10 k) := by decide +kernel
def RJxfd54e : String := "java/lang/constant/Constable"
def TJxfd54e : u_T := fun k => match k with
  | _ => ("", "", "", false)
def tyJxfd54e : Nat → FieldType := fun k => match k with
  | _ => .int
abbrev wsJxfd54e0 : List Cond := u_ws RJxfd54e TJxfd54e 0
theorem nmJxfd54e : ∀ a, a < 0 → ∀ b, b < 0 → a ≠ b → (TJxfd54e a).2.1 ≠ (TJxfd54e b).2.1 := by decide +kernel
theorem tyJxfd54e_ok : ∀ k, k < 0 → parseFieldDescriptor (TJxfd54e k).2.2.1 = some (tyJxfd54e k) := by decide +kernel
def RJx3cf43 : String := "java/lang/constant/ConstantDesc"
def TJx3cf43 : u_T := fun k => match k with
  | _ => ("", "", "", false)
def tyJx3cf43 : Nat → FieldType := fun k => match k with
  | _ => .int
abbrev wsJx3cf430 : List Cond := u_ws RJx3cf43 TJx3cf43 0
theorem nmJx3cf43 : ∀ a, a < 0 → ∀ b, b < 0 → a ≠ b → (TJx3cf43 a).2.1 ≠ (TJx3cf43 b).2.1 := by decide +kernel
theorem tyJx3cf43_ok : ∀ k, k < 0 → parseFieldDescriptor (TJx3cf43 k).2.2.1 = some (tyJx3cf43 k) := by decide +kernel
def RJ7 : String := "java/util/Arrays"
def TJ7 : u_T := fun k => match k with
  | _ => ("", "", "", false)
def tyJ7 : Nat → FieldType := fun k => match k with
  | _ => .int
abbrev wsJ70 : List Cond := u_ws RJ7 TJ7 0
theorem nmJ7 : ∀ a, a < 0 → ∀ b, b < 0 → a ≠ b → (TJ7 a).2.1 ≠ (TJ7 b).2.1 := by decide +kernel
theorem tyJ7_ok : ∀ k, k < 0 → parseFieldDescriptor (TJ7 k).2.2.1 = some (tyJ7 k) := by decide +kernel
abbrev cJ7_fill_53178 : ByteArray := prog_26_method_103_code
def yJ7_fill_53178 : MethodName := ⟨RJ7, "fill", "([II)V"⟩
def RJ3 : String := "jdk/internal/util/Preconditions"
def TJ3 : u_T := fun k => match k with
  | _ => ("", "", "", false)
def tyJ3 : Nat → FieldType := fun k => match k with
  | _ => .int
abbrev wsJ30 : List Cond := u_ws RJ3 TJ3 0
theorem nmJ3 : ∀ a, a < 0 → ∀ b, b < 0 → a ≠ b → (TJ3 a).2.1 ≠ (TJ3 b).2.1 := by decide +kernel
theorem tyJ3_ok : ∀ k, k < 0 → parseFieldDescriptor (TJ3 k).2.2.1 = some (tyJ3 k) := by decide +kernel
abbrev cJ3_checkIndex_8e157 : ByteArray := prog_27_method_11_code
def yJ3_checkIndex_8e157 : MethodName := ⟨RJ3, "checkIndex", "(IILjava/util/function/BiFunction;)I"⟩
def RL : String := "DeepWingsLaw"
abbrev cL_read : ByteArray := method_3_code
def yL_read : MethodName := ⟨RL, "read", "(LDeepWings;IZ[J)I"⟩
abbrev cL_element : ByteArray := method_4_code
def yL_element : MethodName := ⟨RL, "element", "(LDeepWings;II[J)I"⟩
abbrev cL_law : ByteArray := code
def yL_law : MethodName := ⟨RL, "law", "([I)Z"⟩
def wsJ0_checkIndex_df160 : List Cond := .code yJ0_checkIndex_df160 cJ0_checkIndex_df160 2 none :: ([.fieldLink RJ0 1053 "jdk/internal/util/Preconditions" "SIOOBE_FORMATTER" "Ljava/util/function/BiFunction;", .methodLink RJ0 1059 yJ3_checkIndex_8e157, .static yJ3_checkIndex_8e157, .initialized RJ3, .code yJ3_checkIndex_8e157 cJ3_checkIndex_8e157 3 (some .int)])
theorem inX0 : ∀ w ∈ wsX00, w ∈ lw_g := goodIn_pl wsX00 [624, 626, 628, 630, 632, 634, 636, 638, 640, 642, 644, 646] (by decide +kernel)
theorem inX1 : ∀ w ∈ wsX10, w ∈ lw_g := goodIn_pl wsX10 [196, 198, 200, 202, 204] (by decide +kernel)
theorem inX2 : ∀ w ∈ wsX20, w ∈ lw_g := goodIn_pl wsX20 [407, 409, 411, 413, 415, 417, 419, 421, 423, 425] (by decide +kernel)
theorem inX3 : ∀ w ∈ wsX30, w ∈ lw_g := goodIn_pl wsX30 [433, 435, 437, 439] (by decide +kernel)
theorem inX4 : ∀ w ∈ wsX40, w ∈ lw_g := goodIn_pl wsX40 [272, 274, 276] (by decide +kernel)
theorem inX5 : ∀ w ∈ wsX50, w ∈ lw_g := goodIn_pl wsX50 [348, 350, 352, 354, 356, 358, 360, 362, 364, 366, 368, 370, 372, 374] (by decide +kernel)
theorem inX6 : ∀ w ∈ wsX60, w ∈ lw_g := goodIn_pl wsX60 [233, 235, 237, 239, 241, 243, 245, 247, 249, 251, 253, 255] (by decide +kernel)
theorem inX7 : ∀ w ∈ wsX70, w ∈ lw_g := goodIn_pl wsX70 [165, 167, 169, 171, 173, 175, 177] (by decide +kernel)
theorem inX8 : ∀ w ∈ wsX80, w ∈ lw_g := goodIn_pl wsX80 [465, 467, 469, 471, 473, 475, 477, 479] (by decide +kernel)
theorem inX9 : ∀ w ∈ wsX90, w ∈ lw_g := goodIn_pl wsX90 [137, 139] (by decide +kernel)
theorem inX10 : ∀ w ∈ wsX100, w ∈ lw_g := goodIn_pl wsX100 [305, 307, 309, 311, 313, 315, 317, 319, 321, 323, 325] (by decide +kernel)
theorem inX11 : ∀ w ∈ wsX110, w ∈ lw_g := goodIn_pl wsX110 [487, 489, 491, 493, 495] (by decide +kernel)
theorem inX12 : ∀ w ∈ wsX120, w ∈ lw_g := goodIn_pl wsX120 [1363, 1365, 1367, 1369, 1371, 1373, 1375, 1377, 1379, 1381, 1383, 1385, 1387, 1389, 1391, 1393, 1395, 1397, 1399, 1401, 1403, 1405, 1407, 1409, 1411, 1413, 1415, 1417, 1419, 1421, 1423, 1425, 1427, 1429, 1431, 1433, 1435] (by decide +kernel)
theorem inJx145de : ∀ w ∈ wsJx145de0, w ∈ lw_tbl := by decide +kernel
theorem inJx9f9b0 : ∀ w ∈ wsJx9f9b00, w ∈ lw_tbl := by decide +kernel
theorem inJxb160c : ∀ w ∈ wsJxb160c0, w ∈ lw_tbl := by decide +kernel
theorem inJ9 : ∀ w ∈ wsJ90, w ∈ lw_tbl := by decide +kernel
theorem inJ0 : ∀ w ∈ wsJ00, w ∈ lw_tbl := by decide +kernel
theorem inJ1 : ∀ w ∈ wsJ10, w ∈ lw_tbl := by decide +kernel
theorem inJ2 : ∀ w ∈ wsJ20, w ∈ lw_tbl := by decide +kernel
theorem inJ10 : ∀ w ∈ wsJ100, w ∈ lw_tbl := by decide +kernel
theorem inJxfd54e : ∀ w ∈ wsJxfd54e0, w ∈ lw_tbl := by decide +kernel
theorem inJx3cf43 : ∀ w ∈ wsJx3cf430, w ∈ lw_tbl := by decide +kernel
theorem inJ7 : ∀ w ∈ wsJ70, w ∈ lw_tbl := by decide +kernel
theorem inJ3 : ∀ w ∈ wsJ30, w ∈ lw_tbl := by decide +kernel
abbrev vwCl : List vw_C := [(RX0, TX0, 12), (RX1, TX1, 5), (RX2, TX2, 10), (RX3, TX3, 4), (RX4, TX4, 3), (RX5, TX5, 14), (RX6, TX6, 12), (RX7, TX7, 7), (RX8, TX8, 8), (RX9, TX9, 2), (RX10, TX10, 11), (RX11, TX11, 5), (RX12, TX12, 37)]
