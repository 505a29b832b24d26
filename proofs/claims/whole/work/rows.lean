section
-- ===== PART A: goes FIRST, ahead of the names: the tables' words, and 'selects' of the private methods out of them =====
/-- a private method of a class that the tables say can be made, by its rows of tables_1 -/
def lw_okq (q : MethodName × Nat) : Prop := (q.1.cls ≠ "java/lang/invoke/MethodHandle" ∧ q.1.cls ≠ "java/lang/invoke/VarHandle") ∧ Cond.instantiable q.1.cls q.2 ∈ tables_1 ∧ Cond.privateMethod q.1 ∈ tables_1 ∧ Cond.instanceMethod q.1 ∈ tables_1
theorem lw_p0 : lw_okq (⟨"TwinTools$Valley", "readClause", "()Z"⟩, 12) := ⟨⟨by decide +kernel, by decide +kernel⟩, List.mem_of_getElem? (i := 224) (by decide +kernel), List.mem_of_getElem? (i := 305) (by decide +kernel), List.mem_of_getElem? (i := 306) (by decide +kernel)⟩
theorem lw_p1 : lw_okq (⟨"TwinTools$Valley", "next", "()I"⟩, 12) := ⟨⟨by decide +kernel, by decide +kernel⟩, List.mem_of_getElem? (i := 224) (by decide +kernel), List.mem_of_getElem? (i := 309) (by decide +kernel), List.mem_of_getElem? (i := 310) (by decide +kernel)⟩
theorem lw_p2 : lw_okq (⟨"TwinTools$Valley", "takeAll", "(Ljava/lang/String;)Z"⟩, 12) := ⟨⟨by decide +kernel, by decide +kernel⟩, List.mem_of_getElem? (i := 224) (by decide +kernel), List.mem_of_getElem? (i := 314) (by decide +kernel), List.mem_of_getElem? (i := 315) (by decide +kernel)⟩
theorem lw_p3 : lw_okq (⟨"TwinTools$Valley", "take", "(C)Z"⟩, 12) := ⟨⟨by decide +kernel, by decide +kernel⟩, List.mem_of_getElem? (i := 224) (by decide +kernel), List.mem_of_getElem? (i := 366) (by decide +kernel), List.mem_of_getElem? (i := 367) (by decide +kernel)⟩
theorem lw_p4 : lw_okq (⟨"TwinTools$Valley", "readAmount", "(I)Z"⟩, 12) := ⟨⟨by decide +kernel, by decide +kernel⟩, List.mem_of_getElem? (i := 224) (by decide +kernel), List.mem_of_getElem? (i := 370) (by decide +kernel), List.mem_of_getElem? (i := 371) (by decide +kernel)⟩
theorem lw_p5 : lw_okq (⟨"TwinTools$Valley", "readNumber", "()Z"⟩, 12) := ⟨⟨by decide +kernel, by decide +kernel⟩, List.mem_of_getElem? (i := 224) (by decide +kernel), List.mem_of_getElem? (i := 374) (by decide +kernel), List.mem_of_getElem? (i := 375) (by decide +kernel)⟩
theorem lw_p6 : lw_okq (⟨"TwinTools$Valley", "takeOneOf", "(Ljava/lang/String;)I"⟩, 12) := ⟨⟨by decide +kernel, by decide +kernel⟩, List.mem_of_getElem? (i := 224) (by decide +kernel), List.mem_of_getElem? (i := 379) (by decide +kernel), List.mem_of_getElem? (i := 380) (by decide +kernel)⟩
theorem lw_p7 : lw_okq (⟨"TwinTools$Valley", "readPart", "(II)Z"⟩, 12) := ⟨⟨by decide +kernel, by decide +kernel⟩, List.mem_of_getElem? (i := 224) (by decide +kernel), List.mem_of_getElem? (i := 440) (by decide +kernel), List.mem_of_getElem? (i := 441) (by decide +kernel)⟩
theorem lw_p8 : lw_okq (⟨"TwinTools$Valley", "readOpened", "(I)Z"⟩, 12) := ⟨⟨by decide +kernel, by decide +kernel⟩, List.mem_of_getElem? (i := 224) (by decide +kernel), List.mem_of_getElem? (i := 444) (by decide +kernel), List.mem_of_getElem? (i := 445) (by decide +kernel)⟩
theorem lw_p9 : lw_okq (⟨"TwinTools$Valley", "addStep", "(I)V"⟩, 12) := ⟨⟨by decide +kernel, by decide +kernel⟩, List.mem_of_getElem? (i := 224) (by decide +kernel), List.mem_of_getElem? (i := 448) (by decide +kernel), List.mem_of_getElem? (i := 449) (by decide +kernel)⟩
theorem lw_p10 : lw_okq (⟨"TwinTools$Valley", "readTest", "()Z"⟩, 12) := ⟨⟨by decide +kernel, by decide +kernel⟩, List.mem_of_getElem? (i := 224) (by decide +kernel), List.mem_of_getElem? (i := 452) (by decide +kernel), List.mem_of_getElem? (i := 453) (by decide +kernel)⟩
theorem lw_p11 : lw_okq (⟨"TwinTools$Valley", "readBell", "()Z"⟩, 12) := ⟨⟨by decide +kernel, by decide +kernel⟩, List.mem_of_getElem? (i := 224) (by decide +kernel), List.mem_of_getElem? (i := 460) (by decide +kernel), List.mem_of_getElem? (i := 461) (by decide +kernel)⟩
theorem lw_p12 : lw_okq (⟨"TwinTools$Plan", "addPair", "(IILTwinTools$Valley;)V"⟩, 19) := ⟨⟨by decide +kernel, by decide +kernel⟩, List.mem_of_getElem? (i := 131) (by decide +kernel), List.mem_of_getElem? (i := 651) (by decide +kernel), List.mem_of_getElem? (i := 652) (by decide +kernel)⟩
theorem lw_p13 : lw_okq (⟨"TwinTools$Valley", "holdsWhen", "(II)I"⟩, 12) := ⟨⟨by decide +kernel, by decide +kernel⟩, List.mem_of_getElem? (i := 224) (by decide +kernel), List.mem_of_getElem? (i := 663) (by decide +kernel), List.mem_of_getElem? (i := 664) (by decide +kernel)⟩
theorem lw_p14 : lw_okq (⟨"TwinTools$Valley", "testedWhen", "(I)I"⟩, 12) := ⟨⟨by decide +kernel, by decide +kernel⟩, List.mem_of_getElem? (i := 224) (by decide +kernel), List.mem_of_getElem? (i := 667) (by decide +kernel), List.mem_of_getElem? (i := 668) (by decide +kernel)⟩
theorem lw_p15 : lw_okq (⟨"TwinTools$Plan", "reckonSets", "()V"⟩, 19) := ⟨⟨by decide +kernel, by decide +kernel⟩, List.mem_of_getElem? (i := 131) (by decide +kernel), List.mem_of_getElem? (i := 675) (by decide +kernel), List.mem_of_getElem? (i := 676) (by decide +kernel)⟩
def lw_privs_1 : List (MethodName × Nat) := [(⟨"TwinTools$Valley", "readClause", "()Z"⟩, 12), (⟨"TwinTools$Valley", "next", "()I"⟩, 12), (⟨"TwinTools$Valley", "takeAll", "(Ljava/lang/String;)Z"⟩, 12), (⟨"TwinTools$Valley", "take", "(C)Z"⟩, 12), (⟨"TwinTools$Valley", "readAmount", "(I)Z"⟩, 12), (⟨"TwinTools$Valley", "readNumber", "()Z"⟩, 12), (⟨"TwinTools$Valley", "takeOneOf", "(Ljava/lang/String;)I"⟩, 12), (⟨"TwinTools$Valley", "readPart", "(II)Z"⟩, 12), (⟨"TwinTools$Valley", "readOpened", "(I)Z"⟩, 12), (⟨"TwinTools$Valley", "addStep", "(I)V"⟩, 12), (⟨"TwinTools$Valley", "readTest", "()Z"⟩, 12), (⟨"TwinTools$Valley", "readBell", "()Z"⟩, 12), (⟨"TwinTools$Plan", "addPair", "(IILTwinTools$Valley;)V"⟩, 19), (⟨"TwinTools$Valley", "holdsWhen", "(II)I"⟩, 12), (⟨"TwinTools$Valley", "testedWhen", "(I)I"⟩, 12), (⟨"TwinTools$Plan", "reckonSets", "()V"⟩, 19)]
theorem lw_r1 : ∀ q ∈ lw_privs_1, lw_okq q := List.forall_mem_cons.mpr ⟨lw_p0, List.forall_mem_cons.mpr ⟨lw_p1, List.forall_mem_cons.mpr ⟨lw_p2, List.forall_mem_cons.mpr ⟨lw_p3, List.forall_mem_cons.mpr ⟨lw_p4, List.forall_mem_cons.mpr ⟨lw_p5, List.forall_mem_cons.mpr ⟨lw_p6, List.forall_mem_cons.mpr ⟨lw_p7, List.forall_mem_cons.mpr ⟨lw_p8, List.forall_mem_cons.mpr ⟨lw_p9, List.forall_mem_cons.mpr ⟨lw_p10, List.forall_mem_cons.mpr ⟨lw_p11, List.forall_mem_cons.mpr ⟨lw_p12, List.forall_mem_cons.mpr ⟨lw_p13, List.forall_mem_cons.mpr ⟨lw_p14, List.forall_mem_cons.mpr ⟨lw_p15, fun _ h => absurd h List.not_mem_nil⟩⟩⟩⟩⟩⟩⟩⟩⟩⟩⟩⟩⟩⟩⟩⟩
theorem lw_p16 : lw_okq (⟨"TwinTools$Plan", "bestSet", "(I)I"⟩, 19) := ⟨⟨by decide +kernel, by decide +kernel⟩, List.mem_of_getElem? (i := 131) (by decide +kernel), List.mem_of_getElem? (i := 824) (by decide +kernel), List.mem_of_getElem? (i := 825) (by decide +kernel)⟩
theorem lw_p17 : lw_okq (⟨"TwinTools$World", "copyPeople", "(LTwinTools$World;)V"⟩, 20) := ⟨⟨by decide +kernel, by decide +kernel⟩, List.mem_of_getElem? (i := 32) (by decide +kernel), List.mem_of_getElem? (i := 865) (by decide +kernel), List.mem_of_getElem? (i := 866) (by decide +kernel)⟩
theorem lw_p18 : lw_okq (⟨"TwinTools$World", "copyTools", "(LTwinTools$World;)V"⟩, 20) := ⟨⟨by decide +kernel, by decide +kernel⟩, List.mem_of_getElem? (i := 32) (by decide +kernel), List.mem_of_getElem? (i := 869) (by decide +kernel), List.mem_of_getElem? (i := 870) (by decide +kernel)⟩
theorem lw_p19 : lw_okq (⟨"TwinTools$World", "copyRows", "(LTwinTools$World;)V"⟩, 20) := ⟨⟨by decide +kernel, by decide +kernel⟩, List.mem_of_getElem? (i := 32) (by decide +kernel), List.mem_of_getElem? (i := 873) (by decide +kernel), List.mem_of_getElem? (i := 874) (by decide +kernel)⟩
theorem lw_p20 : lw_okq (⟨"TwinTools$Plan", "keepChange", "(III)V"⟩, 19) := ⟨⟨by decide +kernel, by decide +kernel⟩, List.mem_of_getElem? (i := 131) (by decide +kernel), List.mem_of_getElem? (i := 887) (by decide +kernel), List.mem_of_getElem? (i := 888) (by decide +kernel)⟩
theorem lw_p21 : lw_okq (⟨"TwinTools$Plan", "joinRest", "(LTwinTools$World;I)V"⟩, 19) := ⟨⟨by decide +kernel, by decide +kernel⟩, List.mem_of_getElem? (i := 131) (by decide +kernel), List.mem_of_getElem? (i := 911) (by decide +kernel), List.mem_of_getElem? (i := 912) (by decide +kernel)⟩
theorem lw_p22 : lw_okq (⟨"TwinTools$Plan", "keepJoin", "(LTwinTools$World;I)V"⟩, 19) := ⟨⟨by decide +kernel, by decide +kernel⟩, List.mem_of_getElem? (i := 131) (by decide +kernel), List.mem_of_getElem? (i := 919) (by decide +kernel), List.mem_of_getElem? (i := 920) (by decide +kernel)⟩
theorem lw_p23 : lw_okq (⟨"TwinTools$World", "mayBeBroken", "(I)Z"⟩, 20) := ⟨⟨by decide +kernel, by decide +kernel⟩, List.mem_of_getElem? (i := 32) (by decide +kernel), List.mem_of_getElem? (i := 945) (by decide +kernel), List.mem_of_getElem? (i := 946) (by decide +kernel)⟩
theorem lw_p24 : lw_okq (⟨"TwinTools$World", "wentIn", "(I)Z"⟩, 20) := ⟨⟨by decide +kernel, by decide +kernel⟩, List.mem_of_getElem? (i := 32) (by decide +kernel), List.mem_of_getElem? (i := 949) (by decide +kernel), List.mem_of_getElem? (i := 950) (by decide +kernel)⟩
theorem lw_p25 : lw_okq (⟨"TwinToolsModel", "clauseHere", "()V"⟩, 23) := ⟨⟨by decide +kernel, by decide +kernel⟩, List.mem_of_getElem? (i := 1090) (by decide +kernel), List.mem_of_getElem? (i := 1177) (by decide +kernel), List.mem_of_getElem? (i := 1178) (by decide +kernel)⟩
theorem lw_p26 : lw_okq (⟨"TwinToolsModel", "here", "()I"⟩, 23) := ⟨⟨by decide +kernel, by decide +kernel⟩, List.mem_of_getElem? (i := 1090) (by decide +kernel), List.mem_of_getElem? (i := 1181) (by decide +kernel), List.mem_of_getElem? (i := 1182) (by decide +kernel)⟩
theorem lw_p27 : lw_okq (⟨"TwinToolsModel", "much", "(ILjava/lang/String;)V"⟩, 23) := ⟨⟨by decide +kernel, by decide +kernel⟩, List.mem_of_getElem? (i := 1090) (by decide +kernel), List.mem_of_getElem? (i := 1186) (by decide +kernel), List.mem_of_getElem? (i := 1187) (by decide +kernel)⟩
theorem lw_p28 : lw_okq (⟨"TwinToolsModel", "spells", "(Ljava/lang/String;)V"⟩, 23) := ⟨⟨by decide +kernel, by decide +kernel⟩, List.mem_of_getElem? (i := 1090) (by decide +kernel), List.mem_of_getElem? (i := 1190) (by decide +kernel), List.mem_of_getElem? (i := 1191) (by decide +kernel)⟩
theorem lw_p29 : lw_okq (⟨"TwinToolsModel", "must", "(I)V"⟩, 23) := ⟨⟨by decide +kernel, by decide +kernel⟩, List.mem_of_getElem? (i := 1090) (by decide +kernel), List.mem_of_getElem? (i := 1196) (by decide +kernel), List.mem_of_getElem? (i := 1197) (by decide +kernel)⟩
theorem lw_p30 : lw_okq (⟨"TwinToolsModel", "figures", "()I"⟩, 23) := ⟨⟨by decide +kernel, by decide +kernel⟩, List.mem_of_getElem? (i := 1090) (by decide +kernel), List.mem_of_getElem? (i := 1200) (by decide +kernel), List.mem_of_getElem? (i := 1201) (by decide +kernel)⟩
theorem lw_p31 : lw_okq (⟨"TwinToolsModel", "some", "()V"⟩, 23) := ⟨⟨by decide +kernel, by decide +kernel⟩, List.mem_of_getElem? (i := 1090) (by decide +kernel), List.mem_of_getElem? (i := 1204) (by decide +kernel), List.mem_of_getElem? (i := 1205) (by decide +kernel)⟩
def lw_privs_2 : List (MethodName × Nat) := [(⟨"TwinTools$Plan", "bestSet", "(I)I"⟩, 19), (⟨"TwinTools$World", "copyPeople", "(LTwinTools$World;)V"⟩, 20), (⟨"TwinTools$World", "copyTools", "(LTwinTools$World;)V"⟩, 20), (⟨"TwinTools$World", "copyRows", "(LTwinTools$World;)V"⟩, 20), (⟨"TwinTools$Plan", "keepChange", "(III)V"⟩, 19), (⟨"TwinTools$Plan", "joinRest", "(LTwinTools$World;I)V"⟩, 19), (⟨"TwinTools$Plan", "keepJoin", "(LTwinTools$World;I)V"⟩, 19), (⟨"TwinTools$World", "mayBeBroken", "(I)Z"⟩, 20), (⟨"TwinTools$World", "wentIn", "(I)Z"⟩, 20), (⟨"TwinToolsModel", "clauseHere", "()V"⟩, 23), (⟨"TwinToolsModel", "here", "()I"⟩, 23), (⟨"TwinToolsModel", "much", "(ILjava/lang/String;)V"⟩, 23), (⟨"TwinToolsModel", "spells", "(Ljava/lang/String;)V"⟩, 23), (⟨"TwinToolsModel", "must", "(I)V"⟩, 23), (⟨"TwinToolsModel", "figures", "()I"⟩, 23), (⟨"TwinToolsModel", "some", "()V"⟩, 23)]
theorem lw_r2 : ∀ q ∈ lw_privs_2, lw_okq q := List.forall_mem_cons.mpr ⟨lw_p16, List.forall_mem_cons.mpr ⟨lw_p17, List.forall_mem_cons.mpr ⟨lw_p18, List.forall_mem_cons.mpr ⟨lw_p19, List.forall_mem_cons.mpr ⟨lw_p20, List.forall_mem_cons.mpr ⟨lw_p21, List.forall_mem_cons.mpr ⟨lw_p22, List.forall_mem_cons.mpr ⟨lw_p23, List.forall_mem_cons.mpr ⟨lw_p24, List.forall_mem_cons.mpr ⟨lw_p25, List.forall_mem_cons.mpr ⟨lw_p26, List.forall_mem_cons.mpr ⟨lw_p27, List.forall_mem_cons.mpr ⟨lw_p28, List.forall_mem_cons.mpr ⟨lw_p29, List.forall_mem_cons.mpr ⟨lw_p30, List.forall_mem_cons.mpr ⟨lw_p31, fun _ h => absurd h List.not_mem_nil⟩⟩⟩⟩⟩⟩⟩⟩⟩⟩⟩⟩⟩⟩⟩⟩
theorem lw_p32 : lw_okq (⟨"TwinToolsModel", "every", "()V"⟩, 23) := ⟨⟨by decide +kernel, by decide +kernel⟩, List.mem_of_getElem? (i := 1090) (by decide +kernel), List.mem_of_getElem? (i := 1208) (by decide +kernel), List.mem_of_getElem? (i := 1209) (by decide +kernel)⟩
theorem lw_p33 : lw_okq (⟨"TwinToolsModel", "factor", "()V"⟩, 23) := ⟨⟨by decide +kernel, by decide +kernel⟩, List.mem_of_getElem? (i := 1090) (by decide +kernel), List.mem_of_getElem? (i := 1212) (by decide +kernel), List.mem_of_getElem? (i := 1213) (by decide +kernel)⟩
theorem lw_p34 : lw_okq (⟨"TwinToolsModel", "emits", "(I)V"⟩, 23) := ⟨⟨by decide +kernel, by decide +kernel⟩, List.mem_of_getElem? (i := 1090) (by decide +kernel), List.mem_of_getElem? (i := 1216) (by decide +kernel), List.mem_of_getElem? (i := 1217) (by decide +kernel)⟩
theorem lw_p35 : lw_okq (⟨"TwinToolsModel", "among", "(Ljava/lang/String;)I"⟩, 23) := ⟨⟨by decide +kernel, by decide +kernel⟩, List.mem_of_getElem? (i := 1090) (by decide +kernel), List.mem_of_getElem? (i := 1221) (by decide +kernel), List.mem_of_getElem? (i := 1222) (by decide +kernel)⟩
theorem lw_p36 : lw_okq (⟨"TwinToolsModel", "isPerson", "(I)Z"⟩, 23) := ⟨⟨by decide +kernel, by decide +kernel⟩, List.mem_of_getElem? (i := 1090) (by decide +kernel), List.mem_of_getElem? (i := 1236) (by decide +kernel), List.mem_of_getElem? (i := 1237) (by decide +kernel)⟩
theorem lw_p37 : lw_okq (⟨"TwinToolsModel", "isTool", "(I)Z"⟩, 23) := ⟨⟨by decide +kernel, by decide +kernel⟩, List.mem_of_getElem? (i := 1090) (by decide +kernel), List.mem_of_getElem? (i := 1253) (by decide +kernel), List.mem_of_getElem? (i := 1254) (by decide +kernel)⟩
theorem lw_p38 : lw_okq (⟨"TwinToolsModel", "parts", "(I)V"⟩, 23) := ⟨⟨by decide +kernel, by decide +kernel⟩, List.mem_of_getElem? (i := 1090) (by decide +kernel), List.mem_of_getElem? (i := 1257) (by decide +kernel), List.mem_of_getElem? (i := 1258) (by decide +kernel)⟩
theorem lw_p39 : lw_okq (⟨"TwinToolsModel", "worthOf", "(II)I"⟩, 23) := ⟨⟨by decide +kernel, by decide +kernel⟩, List.mem_of_getElem? (i := 1090) (by decide +kernel), List.mem_of_getElem? (i := 1280) (by decide +kernel), List.mem_of_getElem? (i := 1281) (by decide +kernel)⟩
theorem lw_p40 : lw_okq (⟨"TwinToolsModel", "lesser", "(I)I"⟩, 23) := ⟨⟨by decide +kernel, by decide +kernel⟩, List.mem_of_getElem? (i := 1090) (by decide +kernel), List.mem_of_getElem? (i := 1284) (by decide +kernel), List.mem_of_getElem? (i := 1285) (by decide +kernel)⟩
theorem lw_p41 : lw_okq (⟨"TwinToolsModel", "atOf", "(II)I"⟩, 23) := ⟨⟨by decide +kernel, by decide +kernel⟩, List.mem_of_getElem? (i := 1090) (by decide +kernel), List.mem_of_getElem? (i := 1292) (by decide +kernel), List.mem_of_getElem? (i := 1293) (by decide +kernel)⟩
theorem lw_p42 : lw_okq (⟨"TwinToolsModel", "isFree", "(II)Z"⟩, 23) := ⟨⟨by decide +kernel, by decide +kernel⟩, List.mem_of_getElem? (i := 1090) (by decide +kernel), List.mem_of_getElem? (i := 1296) (by decide +kernel), List.mem_of_getElem? (i := 1297) (by decide +kernel)⟩
theorem lw_p43 : lw_okq (⟨"TwinToolsModel", "bell", "()I"⟩, 23) := ⟨⟨by decide +kernel, by decide +kernel⟩, List.mem_of_getElem? (i := 1090) (by decide +kernel), List.mem_of_getElem? (i := 1300) (by decide +kernel), List.mem_of_getElem? (i := 1301) (by decide +kernel)⟩
theorem lw_p44 : lw_okq (⟨"TwinToolsModel", "atBest", "(IIZ)I"⟩, 23) := ⟨⟨by decide +kernel, by decide +kernel⟩, List.mem_of_getElem? (i := 1090) (by decide +kernel), List.mem_of_getElem? (i := 1304) (by decide +kernel), List.mem_of_getElem? (i := 1305) (by decide +kernel)⟩
theorem lw_p45 : lw_okq (⟨"TwinToolsModel", "isFit", "(II)Z"⟩, 23) := ⟨⟨by decide +kernel, by decide +kernel⟩, List.mem_of_getElem? (i := 1090) (by decide +kernel), List.mem_of_getElem? (i := 1308) (by decide +kernel), List.mem_of_getElem? (i := 1309) (by decide +kernel)⟩
theorem lw_p46 : lw_okq (⟨"TwinToolsModel", "atHome", "(I)I"⟩, 23) := ⟨⟨by decide +kernel, by decide +kernel⟩, List.mem_of_getElem? (i := 1090) (by decide +kernel), List.mem_of_getElem? (i := 1312) (by decide +kernel), List.mem_of_getElem? (i := 1313) (by decide +kernel)⟩
theorem lw_p47 : lw_okq (⟨"TwinToolsModel", "atLeast", "(I)I"⟩, 23) := ⟨⟨by decide +kernel, by decide +kernel⟩, List.mem_of_getElem? (i := 1090) (by decide +kernel), List.mem_of_getElem? (i := 1316) (by decide +kernel), List.mem_of_getElem? (i := 1317) (by decide +kernel)⟩
def lw_privs_3 : List (MethodName × Nat) := [(⟨"TwinToolsModel", "every", "()V"⟩, 23), (⟨"TwinToolsModel", "factor", "()V"⟩, 23), (⟨"TwinToolsModel", "emits", "(I)V"⟩, 23), (⟨"TwinToolsModel", "among", "(Ljava/lang/String;)I"⟩, 23), (⟨"TwinToolsModel", "isPerson", "(I)Z"⟩, 23), (⟨"TwinToolsModel", "isTool", "(I)Z"⟩, 23), (⟨"TwinToolsModel", "parts", "(I)V"⟩, 23), (⟨"TwinToolsModel", "worthOf", "(II)I"⟩, 23), (⟨"TwinToolsModel", "lesser", "(I)I"⟩, 23), (⟨"TwinToolsModel", "atOf", "(II)I"⟩, 23), (⟨"TwinToolsModel", "isFree", "(II)Z"⟩, 23), (⟨"TwinToolsModel", "bell", "()I"⟩, 23), (⟨"TwinToolsModel", "atBest", "(IIZ)I"⟩, 23), (⟨"TwinToolsModel", "isFit", "(II)Z"⟩, 23), (⟨"TwinToolsModel", "atHome", "(I)I"⟩, 23), (⟨"TwinToolsModel", "atLeast", "(I)I"⟩, 23)]
theorem lw_r3 : ∀ q ∈ lw_privs_3, lw_okq q := List.forall_mem_cons.mpr ⟨lw_p32, List.forall_mem_cons.mpr ⟨lw_p33, List.forall_mem_cons.mpr ⟨lw_p34, List.forall_mem_cons.mpr ⟨lw_p35, List.forall_mem_cons.mpr ⟨lw_p36, List.forall_mem_cons.mpr ⟨lw_p37, List.forall_mem_cons.mpr ⟨lw_p38, List.forall_mem_cons.mpr ⟨lw_p39, List.forall_mem_cons.mpr ⟨lw_p40, List.forall_mem_cons.mpr ⟨lw_p41, List.forall_mem_cons.mpr ⟨lw_p42, List.forall_mem_cons.mpr ⟨lw_p43, List.forall_mem_cons.mpr ⟨lw_p44, List.forall_mem_cons.mpr ⟨lw_p45, List.forall_mem_cons.mpr ⟨lw_p46, List.forall_mem_cons.mpr ⟨lw_p47, fun _ h => absurd h List.not_mem_nil⟩⟩⟩⟩⟩⟩⟩⟩⟩⟩⟩⟩⟩⟩⟩⟩
theorem lw_p48 : lw_okq (⟨"TwinToolsModel", "going", "(I)I"⟩, 23) := ⟨⟨by decide +kernel, by decide +kernel⟩, List.mem_of_getElem? (i := 1090) (by decide +kernel), List.mem_of_getElem? (i := 1324) (by decide +kernel), List.mem_of_getElem? (i := 1325) (by decide +kernel)⟩
theorem lw_p49 : lw_okq (⟨"TwinToolsModel", "workedAt", "(I)I"⟩, 23) := ⟨⟨by decide +kernel, by decide +kernel⟩, List.mem_of_getElem? (i := 1090) (by decide +kernel), List.mem_of_getElem? (i := 1328) (by decide +kernel), List.mem_of_getElem? (i := 1329) (by decide +kernel)⟩
theorem lw_p50 : lw_okq (⟨"TwinToolsModel", "doesGo", "(II)Z"⟩, 23) := ⟨⟨by decide +kernel, by decide +kernel⟩, List.mem_of_getElem? (i := 1090) (by decide +kernel), List.mem_of_getElem? (i := 1332) (by decide +kernel), List.mem_of_getElem? (i := 1333) (by decide +kernel)⟩
theorem lw_p51 : lw_okq (⟨"TwinToolsModel", "waiting", "(I)I"⟩, 23) := ⟨⟨by decide +kernel, by decide +kernel⟩, List.mem_of_getElem? (i := 1090) (by decide +kernel), List.mem_of_getElem? (i := 1336) (by decide +kernel), List.mem_of_getElem? (i := 1337) (by decide +kernel)⟩
theorem lw_p52 : lw_okq (⟨"TwinToolsModel", "looksForMost", "(I)V"⟩, 23) := ⟨⟨by decide +kernel, by decide +kernel⟩, List.mem_of_getElem? (i := 1090) (by decide +kernel), List.mem_of_getElem? (i := 1340) (by decide +kernel), List.mem_of_getElem? (i := 1341) (by decide +kernel)⟩
theorem lw_p53 : lw_okq (⟨"TwinToolsModel", "setsFrom", "(IIIIII)V"⟩, 23) := ⟨⟨by decide +kernel, by decide +kernel⟩, List.mem_of_getElem? (i := 1090) (by decide +kernel), List.mem_of_getElem? (i := 1344) (by decide +kernel), List.mem_of_getElem? (i := 1345) (by decide +kernel)⟩
theorem lw_p54 : lw_okq (⟨"TwinToolsModel", "can", "(III)Z"⟩, 23) := ⟨⟨by decide +kernel, by decide +kernel⟩, List.mem_of_getElem? (i := 1090) (by decide +kernel), List.mem_of_getElem? (i := 1348) (by decide +kernel), List.mem_of_getElem? (i := 1349) (by decide +kernel)⟩
theorem lw_p55 : lw_okq (⟨"TwinToolsModel", "allWorth", "()I"⟩, 23) := ⟨⟨by decide +kernel, by decide +kernel⟩, List.mem_of_getElem? (i := 1090) (by decide +kernel), List.mem_of_getElem? (i := 1360) (by decide +kernel), List.mem_of_getElem? (i := 1361) (by decide +kernel)⟩
theorem lw_p56 : lw_okq (⟨"TwinToolsModel", "allWaiting", "()I"⟩, 23) := ⟨⟨by decide +kernel, by decide +kernel⟩, List.mem_of_getElem? (i := 1090) (by decide +kernel), List.mem_of_getElem? (i := 1364) (by decide +kernel), List.mem_of_getElem? (i := 1365) (by decide +kernel)⟩
theorem lw_p57 : lw_okq (⟨"TwinToolsModel", "bestDay", "()I"⟩, 23) := ⟨⟨by decide +kernel, by decide +kernel⟩, List.mem_of_getElem? (i := 1090) (by decide +kernel), List.mem_of_getElem? (i := 1371) (by decide +kernel), List.mem_of_getElem? (i := 1372) (by decide +kernel)⟩
theorem lw_p58 : lw_okq (⟨"TwinToolsModel", "changes", "(II)V"⟩, 23) := ⟨⟨by decide +kernel, by decide +kernel⟩, List.mem_of_getElem? (i := 1090) (by decide +kernel), List.mem_of_getElem? (i := 1379) (by decide +kernel), List.mem_of_getElem? (i := 1380) (by decide +kernel)⟩
theorem lw_p59 : lw_okq (⟨"TwinToolsModel", "awayOf", "(I)I"⟩, 23) := ⟨⟨by decide +kernel, by decide +kernel⟩, List.mem_of_getElem? (i := 1090) (by decide +kernel), List.mem_of_getElem? (i := 1387) (by decide +kernel), List.mem_of_getElem? (i := 1388) (by decide +kernel)⟩
theorem lw_p60 : lw_okq (⟨"TwinToolsModel", "joins", "()V"⟩, 23) := ⟨⟨by decide +kernel, by decide +kernel⟩, List.mem_of_getElem? (i := 1090) (by decide +kernel), List.mem_of_getElem? (i := 1399) (by decide +kernel), List.mem_of_getElem? (i := 1400) (by decide +kernel)⟩
theorem lw_p61 : lw_okq (⟨"TwinToolsModel", "brokenOnes", "()I"⟩, 23) := ⟨⟨by decide +kernel, by decide +kernel⟩, List.mem_of_getElem? (i := 1090) (by decide +kernel), List.mem_of_getElem? (i := 1415) (by decide +kernel), List.mem_of_getElem? (i := 1416) (by decide +kernel)⟩
theorem lw_p62 : lw_okq (⟨"TwinToolsModel", "nextTry", "()I"⟩, 23) := ⟨⟨by decide +kernel, by decide +kernel⟩, List.mem_of_getElem? (i := 1090) (by decide +kernel), List.mem_of_getElem? (i := 1419) (by decide +kernel), List.mem_of_getElem? (i := 1420) (by decide +kernel)⟩
theorem lw_p63 : lw_okq (⟨"TwinToolsModel", "liftsActs", "(I)I"⟩, 23) := ⟨⟨by decide +kernel, by decide +kernel⟩, List.mem_of_getElem? (i := 1090) (by decide +kernel), List.mem_of_getElem? (i := 1448) (by decide +kernel), List.mem_of_getElem? (i := 1449) (by decide +kernel)⟩
def lw_privs_4 : List (MethodName × Nat) := [(⟨"TwinToolsModel", "going", "(I)I"⟩, 23), (⟨"TwinToolsModel", "workedAt", "(I)I"⟩, 23), (⟨"TwinToolsModel", "doesGo", "(II)Z"⟩, 23), (⟨"TwinToolsModel", "waiting", "(I)I"⟩, 23), (⟨"TwinToolsModel", "looksForMost", "(I)V"⟩, 23), (⟨"TwinToolsModel", "setsFrom", "(IIIIII)V"⟩, 23), (⟨"TwinToolsModel", "can", "(III)Z"⟩, 23), (⟨"TwinToolsModel", "allWorth", "()I"⟩, 23), (⟨"TwinToolsModel", "allWaiting", "()I"⟩, 23), (⟨"TwinToolsModel", "bestDay", "()I"⟩, 23), (⟨"TwinToolsModel", "changes", "(II)V"⟩, 23), (⟨"TwinToolsModel", "awayOf", "(I)I"⟩, 23), (⟨"TwinToolsModel", "joins", "()V"⟩, 23), (⟨"TwinToolsModel", "brokenOnes", "()I"⟩, 23), (⟨"TwinToolsModel", "nextTry", "()I"⟩, 23), (⟨"TwinToolsModel", "liftsActs", "(I)I"⟩, 23)]
theorem lw_r4 : ∀ q ∈ lw_privs_4, lw_okq q := List.forall_mem_cons.mpr ⟨lw_p48, List.forall_mem_cons.mpr ⟨lw_p49, List.forall_mem_cons.mpr ⟨lw_p50, List.forall_mem_cons.mpr ⟨lw_p51, List.forall_mem_cons.mpr ⟨lw_p52, List.forall_mem_cons.mpr ⟨lw_p53, List.forall_mem_cons.mpr ⟨lw_p54, List.forall_mem_cons.mpr ⟨lw_p55, List.forall_mem_cons.mpr ⟨lw_p56, List.forall_mem_cons.mpr ⟨lw_p57, List.forall_mem_cons.mpr ⟨lw_p58, List.forall_mem_cons.mpr ⟨lw_p59, List.forall_mem_cons.mpr ⟨lw_p60, List.forall_mem_cons.mpr ⟨lw_p61, List.forall_mem_cons.mpr ⟨lw_p62, List.forall_mem_cons.mpr ⟨lw_p63, fun _ h => absurd h List.not_mem_nil⟩⟩⟩⟩⟩⟩⟩⟩⟩⟩⟩⟩⟩⟩⟩⟩
theorem lw_p64 : lw_okq (⟨"TwinToolsModel", "ranBody", "(I)V"⟩, 23) := ⟨⟨by decide +kernel, by decide +kernel⟩, List.mem_of_getElem? (i := 1090) (by decide +kernel), List.mem_of_getElem? (i := 1455) (by decide +kernel), List.mem_of_getElem? (i := 1456) (by decide +kernel)⟩
theorem lw_p65 : lw_okq (⟨"TwinToolsModel", "plainLifts", "(I)I"⟩, 23) := ⟨⟨by decide +kernel, by decide +kernel⟩, List.mem_of_getElem? (i := 1090) (by decide +kernel), List.mem_of_getElem? (i := 1459) (by decide +kernel), List.mem_of_getElem? (i := 1460) (by decide +kernel)⟩
theorem lw_p66 : lw_okq (⟨"TwinToolsModel", "waitsActs", "(I)I"⟩, 23) := ⟨⟨by decide +kernel, by decide +kernel⟩, List.mem_of_getElem? (i := 1090) (by decide +kernel), List.mem_of_getElem? (i := 1463) (by decide +kernel), List.mem_of_getElem? (i := 1464) (by decide +kernel)⟩
theorem lw_p67 : lw_okq (⟨"TwinToolsModel", "plainWaits", "(I)I"⟩, 23) := ⟨⟨by decide +kernel, by decide +kernel⟩, List.mem_of_getElem? (i := 1090) (by decide +kernel), List.mem_of_getElem? (i := 1467) (by decide +kernel), List.mem_of_getElem? (i := 1468) (by decide +kernel)⟩
theorem lw_p68 : lw_okq (⟨"TwinToolsModel", "tellsActs", "(I)I"⟩, 23) := ⟨⟨by decide +kernel, by decide +kernel⟩, List.mem_of_getElem? (i := 1090) (by decide +kernel), List.mem_of_getElem? (i := 1471) (by decide +kernel), List.mem_of_getElem? (i := 1472) (by decide +kernel)⟩
theorem lw_p69 : lw_okq (⟨"TwinToolsModel", "plainTells", "(I)I"⟩, 23) := ⟨⟨by decide +kernel, by decide +kernel⟩, List.mem_of_getElem? (i := 1090) (by decide +kernel), List.mem_of_getElem? (i := 1475) (by decide +kernel), List.mem_of_getElem? (i := 1476) (by decide +kernel)⟩
def lw_privs_5 : List (MethodName × Nat) := [(⟨"TwinToolsModel", "ranBody", "(I)V"⟩, 23), (⟨"TwinToolsModel", "plainLifts", "(I)I"⟩, 23), (⟨"TwinToolsModel", "waitsActs", "(I)I"⟩, 23), (⟨"TwinToolsModel", "plainWaits", "(I)I"⟩, 23), (⟨"TwinToolsModel", "tellsActs", "(I)I"⟩, 23), (⟨"TwinToolsModel", "plainTells", "(I)I"⟩, 23)]
theorem lw_r5 : ∀ q ∈ lw_privs_5, lw_okq q := List.forall_mem_cons.mpr ⟨lw_p64, List.forall_mem_cons.mpr ⟨lw_p65, List.forall_mem_cons.mpr ⟨lw_p66, List.forall_mem_cons.mpr ⟨lw_p67, List.forall_mem_cons.mpr ⟨lw_p68, List.forall_mem_cons.mpr ⟨lw_p69, fun _ h => absurd h List.not_mem_nil⟩⟩⟩⟩⟩⟩
def lw_privs : List (MethodName × Nat) := lw_privs_1 ++ (lw_privs_2 ++ (lw_privs_3 ++ (lw_privs_4 ++ (lw_privs_5))))
def lw_tbl : List Cond := k2_sels lw_privs ++ tables_1
theorem lw_privs_ok : ∀ q ∈ lw_privs, lw_okq q := by
  show ∀ q ∈ lw_privs_1 ++ (lw_privs_2 ++ (lw_privs_3 ++ (lw_privs_4 ++ (lw_privs_5)))), lw_okq q
  exact List.forall_mem_append.mpr ⟨lw_r1, List.forall_mem_append.mpr ⟨lw_r2, List.forall_mem_append.mpr ⟨lw_r3, List.forall_mem_append.mpr ⟨lw_r4, lw_r5⟩⟩⟩⟩
end
section
/-! class tables, string constants -/
def nC (k : Nat) : String := match k with
  | 0 => "TwinTools$Bell"
  | 1 => "TwinTools$Guessing"
  | 2 => "TwinTools$Hand"
  | 3 => "TwinTools$Home"
  | 4 => "TwinTools$Late"
  | 5 => "TwinTools$Lifting"
  | 6 => "TwinTools$Plan"
  | 7 => "TwinTools$Told"
  | 8 => "TwinTools$Trace"
  | 9 => "TwinTools$Valley"
  | 10 => "TwinTools$World"
  | 11 => "TwinTools"
  | _ => "TwinToolsModel"
def T_0 : u_T := fun k => match k with
  | 0 => ("TwinTools$Hand", "kind", "I", true)
  | 1 => ("TwinTools$Hand", "number", "I", true)
  | 2 => ("TwinTools$Hand", "v", "I", true)
  | _ => ("TwinTools$Hand", "house", "I", true)
def t_0 : Nat → FieldType := fun k => match k with
  | 0 => .int
  | 1 => .int
  | 2 => .int
  | _ => .int
def T_1 : u_T := fun k => match k with
  | 0 => ("TwinTools$Hand", "kind", "I", true)
  | 1 => ("TwinTools$Hand", "number", "I", true)
  | 2 => ("TwinTools$Hand", "v", "I", true)
  | _ => ("TwinTools$Hand", "house", "I", true)
def t_1 : Nat → FieldType := fun k => match k with
  | 0 => .int
  | 1 => .int
  | 2 => .int
  | _ => .int
def T_2 : u_T := fun k => match k with
  | 0 => ("TwinTools$Hand", "kind", "I", true)
  | 1 => ("TwinTools$Hand", "number", "I", true)
  | 2 => ("TwinTools$Hand", "v", "I", true)
  | _ => ("TwinTools$Hand", "house", "I", true)
def t_2 : Nat → FieldType := fun k => match k with
  | 0 => .int
  | 1 => .int
  | 2 => .int
  | _ => .int
def T_3 : u_T := fun k => match k with
  | 0 => ("TwinTools$Hand", "kind", "I", true)
  | 1 => ("TwinTools$Hand", "number", "I", true)
  | 2 => ("TwinTools$Hand", "v", "I", true)
  | _ => ("TwinTools$Hand", "house", "I", true)
def t_3 : Nat → FieldType := fun k => match k with
  | 0 => .int
  | 1 => .int
  | 2 => .int
  | _ => .int
def T_4 : u_T := fun k => match k with
  | 0 => ("TwinTools$Hand", "kind", "I", true)
  | 1 => ("TwinTools$Hand", "number", "I", true)
  | 2 => ("TwinTools$Hand", "v", "I", true)
  | _ => ("TwinTools$Hand", "house", "I", true)
def t_4 : Nat → FieldType := fun k => match k with
  | 0 => .int
  | 1 => .int
  | 2 => .int
  | _ => .int
def T_5 : u_T := fun k => match k with
  | 0 => ("TwinTools$Hand", "kind", "I", true)
  | 1 => ("TwinTools$Hand", "number", "I", true)
  | 2 => ("TwinTools$Hand", "v", "I", true)
  | _ => ("TwinTools$Hand", "house", "I", true)
def t_5 : Nat → FieldType := fun k => match k with
  | 0 => .int
  | 1 => .int
  | 2 => .int
  | _ => .int
def T_6 : u_T := fun k => match k with
  | 0 => ("TwinTools$Plan", "world", "LTwinTools$World;", false)
  | 1 => ("TwinTools$Plan", "bell", "I", false)
  | 2 => ("TwinTools$Plan", "worth", "[[I", true)
  | 3 => ("TwinTools$Plan", "held", "[I", true)
  | 4 => ("TwinTools$Plan", "twinHeld", "[I", true)
  | 5 => ("TwinTools$Plan", "fit", "I", false)
  | 6 => ("TwinTools$Plan", "inOneHouse", "I", false)
  | 7 => ("TwinTools$Plan", "pairs", "[I", true)
  | 8 => ("TwinTools$Plan", "pairHolders", "[I", true)
  | 9 => ("TwinTools$Plan", "pairHours", "[I", true)
  | 10 => ("TwinTools$Plan", "pairCount", "I", false)
  | 11 => ("TwinTools$Plan", "setHolders", "[I", true)
  | 12 => ("TwinTools$Plan", "setHours", "[I", true)
  | 13 => ("TwinTools$Plan", "setWorth", "[I", true)
  | 14 => ("TwinTools$Plan", "changeOne", "I", false)
  | 15 => ("TwinTools$Plan", "changeOther", "I", false)
  | 16 => ("TwinTools$Plan", "changeMore", "I", false)
  | 17 => ("TwinTools$Plan", "joinRow", "[I", true)
  | _ => ("TwinTools$Plan", "joinBest", "I", false)
def t_6 : Nat → FieldType := fun k => match k with
  | 0 => .object "TwinTools$World"
  | 1 => .int
  | 2 => .array (.array .int)
  | 3 => .array .int
  | 4 => .array .int
  | 5 => .int
  | 6 => .int
  | 7 => .array .int
  | 8 => .array .int
  | 9 => .array .int
  | 10 => .int
  | 11 => .array .int
  | 12 => .array .int
  | 13 => .array .int
  | 14 => .int
  | 15 => .int
  | 16 => .int
  | 17 => .array .int
  | _ => .int
def T_7 : u_T := fun k => match k with
  | 0 => ("TwinTools$Hand", "kind", "I", true)
  | 1 => ("TwinTools$Hand", "number", "I", true)
  | 2 => ("TwinTools$Hand", "v", "I", true)
  | _ => ("TwinTools$Hand", "house", "I", true)
def t_7 : Nat → FieldType := fun k => match k with
  | 0 => .int
  | 1 => .int
  | 2 => .int
  | _ => .int
def T_8 : u_T := fun k => match k with
  | 0 => ("TwinTools$Trace", "bodies", "[I", true)
  | _ => ("TwinTools$Trace", "size", "I", false)
def t_8 : Nat → FieldType := fun k => match k with
  | 0 => .array .int
  | _ => .int
def T_9 : u_T := fun k => match k with
  | 0 => ("TwinTools$Valley", "bell", "I", false)
  | 1 => ("TwinTools$Valley", "amounts", "[I", true)
  | 2 => ("TwinTools$Valley", "ends", "[I", true)
  | 3 => ("TwinTools$Valley", "clauseCount", "I", false)
  | 4 => ("TwinTools$Valley", "steps", "[I", true)
  | 5 => ("TwinTools$Valley", "stepCount", "I", false)
  | 6 => ("TwinTools$Valley", "facts", "[I", true)
  | 7 => ("TwinTools$Valley", "parts", "[I", true)
  | 8 => ("TwinTools$Valley", "text", "[B", true)
  | 9 => ("TwinTools$Valley", "size", "I", false)
  | 10 => ("TwinTools$Valley", "place", "I", false)
  | _ => ("TwinTools$Valley", "number", "I", false)
def t_9 : Nat → FieldType := fun k => match k with
  | 0 => .int
  | 1 => .array .int
  | 2 => .array .int
  | 3 => .int
  | 4 => .array .int
  | 5 => .int
  | 6 => .array .int
  | 7 => .array .int
  | 8 => .array .byte
  | 9 => .int
  | 10 => .int
  | _ => .int
def T_10 : u_T := fun k => match k with
  | 0 => ("TwinTools$World", "tape", "[B", true)
  | 1 => ("TwinTools$World", "signs", "I", false)
  | 2 => ("TwinTools$World", "valleys", "[LTwinTools$Valley;", true)
  | 3 => ("TwinTools$World", "valleyCount", "I", false)
  | 4 => ("TwinTools$World", "people", "[LTwinTools$Hand;", true)
  | 5 => ("TwinTools$World", "peopleCount", "I", false)
  | 6 => ("TwinTools$World", "free", "[I", true)
  | 7 => ("TwinTools$World", "rows", "[I", true)
  | 8 => ("TwinTools$World", "sort", "[I", true)
  | 9 => ("TwinTools$World", "holder", "[I", true)
  | 10 => ("TwinTools$World", "twin", "[I", true)
  | 11 => ("TwinTools$World", "broken", "I", false)
  | 12 => ("TwinTools$World", "toolCount", "I", false)
  | 13 => ("TwinTools$World", "trialOne", "[I", true)
  | 14 => ("TwinTools$World", "trialOther", "[I", true)
  | 15 => ("TwinTools$World", "trialsThatWent", "I", false)
  | 16 => ("TwinTools$World", "trialCount", "I", false)
  | 17 => ("TwinTools$World", "bookHour", "[I", true)
  | 18 => ("TwinTools$World", "bookTool", "[I", true)
  | _ => ("TwinTools$World", "bookCount", "I", false)
def t_10 : Nat → FieldType := fun k => match k with
  | 0 => .array .byte
  | 1 => .int
  | 2 => .array (.object "TwinTools$Valley")
  | 3 => .int
  | 4 => .array (.object "TwinTools$Hand")
  | 5 => .int
  | 6 => .array .int
  | 7 => .array .int
  | 8 => .array .int
  | 9 => .array .int
  | 10 => .array .int
  | 11 => .int
  | 12 => .int
  | 13 => .array .int
  | 14 => .array .int
  | 15 => .int
  | 16 => .int
  | 17 => .array .int
  | 18 => .array .int
  | _ => .int
def T_11 : u_T := fun k => match k with
  | 0 => ("TwinTools", "now", "LTwinTools$World;", true)
  | 1 => ("TwinTools", "kept", "LTwinTools$World;", true)
  | 2 => ("TwinTools", "guess", "LTwinTools$World;", true)
  | 3 => ("TwinTools", "hasKept", "Z", false)
  | 4 => ("TwinTools", "plan", "LTwinTools$Plan;", true)
  | 5 => ("TwinTools", "ran", "LTwinTools$Trace;", true)
  | _ => ("TwinTools", "spare", "LTwinTools$Valley;", false)
def t_11 : Nat → FieldType := fun k => match k with
  | 0 => .object "TwinTools$World"
  | 1 => .object "TwinTools$World"
  | 2 => .object "TwinTools$World"
  | 3 => .boolean
  | 4 => .object "TwinTools$Plan"
  | 5 => .object "TwinTools$Trace"
  | _ => .object "TwinTools$Valley"
def T_12 : u_T := fun k => match k with
  | 0 => ("TwinToolsModel", "thrown", "I", false)
  | 1 => ("TwinToolsModel", "s", "[I", true)
  | 2 => ("TwinToolsModel", "image", "[I", true)
  | 3 => ("TwinToolsModel", "hasImage", "Z", false)
  | 4 => ("TwinToolsModel", "act", "I", false)
  | 5 => ("TwinToolsModel", "spot", "I", false)
  | 6 => ("TwinToolsModel", "end", "I", false)
  | 7 => ("TwinToolsModel", "isWrong", "Z", false)
  | 8 => ("TwinToolsModel", "open", "I", false)
  | 9 => ("TwinToolsModel", "by", "[I", true)
  | 10 => ("TwinToolsModel", "truths", "[Z", true)
  | 11 => ("TwinToolsModel", "most", "I", false)
  | 12 => ("TwinToolsModel", "mostSet", "I", false)
  | 13 => ("TwinToolsModel", "manyAtOnce", "I", false)
  | 14 => ("TwinToolsModel", "twins", "[I", true)
  | 15 => ("TwinToolsModel", "bestTwins", "[I", true)
  | 16 => ("TwinToolsModel", "bestJoined", "I", false)
  | 17 => ("TwinToolsModel", "isJoined", "Z", false)
  | 18 => ("TwinToolsModel", "bodies", "[I", true)
  | 19 => ("TwinToolsModel", "ran", "I", false)
  | 20 => ("TwinToolsModel", "kind", "I", false)
  | 21 => ("TwinToolsModel", "number", "I", false)
  | _ => ("TwinToolsModel", "tellsV", "I", false)
def t_12 : Nat → FieldType := fun k => match k with
  | 0 => .int
  | 1 => .array .int
  | 2 => .array .int
  | 3 => .boolean
  | 4 => .int
  | 5 => .int
  | 6 => .int
  | 7 => .boolean
  | 8 => .int
  | 9 => .array .int
  | 10 => .array .boolean
  | 11 => .int
  | 12 => .int
  | 13 => .int
  | 14 => .array .int
  | 15 => .array .int
  | 16 => .int
  | 17 => .boolean
  | 18 => .array .int
  | 19 => .int
  | 20 => .int
  | 21 => .int
  | _ => .int
abbrev tCl : List vw_C := [("TwinTools$Bell", T_0, 4), ("TwinTools$Guessing", T_1, 4), ("TwinTools$Hand", T_2, 4), ("TwinTools$Home", T_3, 4), ("TwinTools$Late", T_4, 4), ("TwinTools$Lifting", T_5, 4), ("TwinTools$Plan", T_6, 19), ("TwinTools$Told", T_7, 4), ("TwinTools$Trace", T_8, 2), ("TwinTools$Valley", T_9, 12), ("TwinTools$World", T_10, 20), ("TwinTools", T_11, 7), ("TwinToolsModel", T_12, 23)]
/-- which fields of a class are references -/
def tRefL : List (List Bool) := [[false, false, false, false], [false, false, false, false], [false, false, false, false], [false, false, false, false], [false, false, false, false], [false, false, false, false], [true, false, true, true, true, false, false, true, true, true, false, true, true, true, false, false, false, true, false], [false, false, false, false], [true, false], [false, true, true, false, true, false, true, true, true, false, false, false], [true, false, true, false, true, false, true, true, true, true, true, false, false, true, true, false, false, true, true, false], [true, true, true, false, true, true, true], [false, true, true, false, false, false, false, false, false, true, true, false, false, false, true, true, false, false, true, false, false, false, false]]
def tRef (c k : Nat) : Bool := (tRefL.getD c []).getD k false
/-- the string constants: class, entry, text, number -/
def sTab : List (String × Nat × String × Nat) := [("TwinTools$Valley", 68, "worth ", 0), ("TwinTools$Valley", 113, "0123456789", 1), ("TwinTools$Valley", 105, "hstkx", 2), ("TwinTools$Valley", 111, "<=>", 3), ("TwinTools$Valley", 78, "less ", 4), ("TwinTools$Valley", 80, "bell ", 5), ("TwinToolsModel", 102, "worth ", 0), ("TwinToolsModel", 84, "hstkx", 2), ("TwinToolsModel", 90, "<=>", 3), ("TwinToolsModel", 108, "less ", 4), ("TwinToolsModel", 110, "bell ", 5)]
def sLen : List Nat := [6, 10, 5, 3, 5, 5]
def sByt : List (List Int32) := [[119, 111, 114, 116, 104, 32], [48, 49, 50, 51, 52, 53, 54, 55, 56, 57], [104, 115, 116, 107, 120], [60, 61, 62], [108, 101, 115, 115, 32], [98, 101, 108, 108, 32]]
def castL : List (String × String) := [("TwinTools$Lifting", "TwinTools$Bell"), ("TwinTools$Late", "TwinTools$Home"), ("TwinTools$Told", "TwinTools$Guessing"), ("TwinTools$Bell", "TwinTools$Hand"), ("TwinTools$Home", "TwinTools$Hand"), ("TwinTools$Guessing", "TwinTools$Hand"), ("TwinTools$Lifting", "TwinTools$Hand"), ("TwinTools$Late", "TwinTools$Hand"), ("TwinTools$Told", "TwinTools$Hand")]
def ncL : List (String × String) := [("TwinTools$Bell", "TwinTools$Told"), ("TwinTools$Home", "TwinTools$Told"), ("TwinTools$Guessing", "TwinTools$Told"), ("TwinTools$Lifting", "TwinTools$Told"), ("TwinTools$Late", "TwinTools$Told"), ("TwinTools$Hand", "TwinTools$Told"), ("TwinTools$Home", "TwinTools$Bell"), ("TwinTools$Guessing", "TwinTools$Bell"), ("TwinTools$Late", "TwinTools$Bell"), ("TwinTools$Told", "TwinTools$Bell"), ("TwinTools$Hand", "TwinTools$Bell"), ("TwinTools$Bell", "TwinTools$Home"), ("TwinTools$Guessing", "TwinTools$Home"), ("TwinTools$Lifting", "TwinTools$Home"), ("TwinTools$Told", "TwinTools$Home"), ("TwinTools$Hand", "TwinTools$Home"), ("TwinTools$Bell", "TwinTools$Guessing"), ("TwinTools$Home", "TwinTools$Guessing"), ("TwinTools$Lifting", "TwinTools$Guessing"), ("TwinTools$Late", "TwinTools$Guessing"), ("TwinTools$Hand", "TwinTools$Guessing"), ("TwinTools$Bell", "TwinTools$Lifting"), ("TwinTools$Home", "TwinTools$Lifting"), ("TwinTools$Guessing", "TwinTools$Lifting"), ("TwinTools$Late", "TwinTools$Lifting"), ("TwinTools$Told", "TwinTools$Lifting"), ("TwinTools$Hand", "TwinTools$Lifting"), ("TwinTools$Bell", "TwinTools$Late"), ("TwinTools$Home", "TwinTools$Late"), ("TwinTools$Guessing", "TwinTools$Late"), ("TwinTools$Lifting", "TwinTools$Late"), ("TwinTools$Told", "TwinTools$Late"), ("TwinTools$Hand", "TwinTools$Late")]
def tw_AOA (U : State) : Prop := ∃ (comp c : ClassId) (k : Class), U.vm.findClass (FieldType.array .int).toString = some comp ∧ (U.vm.classes.findIdx? fun (x : Class) => match x.kind with | .array component _ => component == comp | _ => false) = some c ∧ U.vm.classes[c]? = some k ∧ k.kind = .array comp (.array .int) ∧ U.vm.findClass ("[" ++ (FieldType.array .int).toString) = some c
theorem tw_AOA_moved {u U : State} (hvm : u.vm.Alike U.vm) (h : tw_AOA u) : tw_AOA U := by
  obtain ⟨comp, c, k, h1, h2, h3, h4, h5⟩ := h
  obtain ⟨k', hk', he⟩ := hvm.2.2 _ _ h3
  refine ⟨comp, c, k', by rw [hvm.findClass]; exact h1, ?_, hk', by rw [he]; exact h4, by rw [hvm.findClass]; exact h5⟩
  refine (va_idx_bare U.vm comp).symm.trans ?_
  first | rw [hvm.bare_eq] | rw [← hvm.bare_eq]
  exact (va_idx_bare u.vm comp).trans h2
theorem tw_AOA_same {u U : State} (hv : U.vm = u.vm) (h : tw_AOA u) : tw_AOA U := tw_AOA_moved (by rw [hv]; exact Vm.Alike.refl _) h
end
section
/-! THE ABSTRACT MACHINE: numbers as integers, addresses counted from 0, a heap of three tables (kind and size, numbers, references); AW: the machine's W, for every real state that this one stands for. -/
abbrev tV : Type := Int ⊕ (Option Nat ⊕ Int)
abbrev vi (z : Int) : tV := .inl z
abbrev vr (r : Option Nat) : tV := .inr (.inl r)
abbrev vl (z : Int) : tV := .inr (.inr z)
abbrev tH : Type := (Nat → Nat × Nat) × (Nat → Int → Int) × (Nat → Int → Option Nat) × Nat
abbrev tJ : Type := Nat × Instr × Nat × Nat
abbrev tM : Type := MethodName × ByteArray × Nat × Option FieldType × List tJ
abbrev tG : Type := va_G × (Nat → ClassId) × Nat × (Nat → Nat) × (Nat → Nat)
def tw_w : tV → Nat
  | .inr (.inr _) => 2
  | _ => 1
def tw_ad (G : tG) (a : Nat) : Nat := if a < 1000000 then G.2.2.1 + a else G.2.2.2.1 (a - 1000000)
def tw_v (G : tG) : tV → Value
  | .inl z => .int (Int32.ofInt z)
  | .inr (.inl r) => va_rf (r.map (tw_ad G))
  | .inr (.inr z) => .long (Int64.ofInt z)
def tw_fv (G : tG) (h : tH) (a k : Nat) : Value := if tRef (h.1 a).1 k = true then va_rf ((h.2.2.1 a (k : Int)).map (tw_ad G)) else .int (Int32.ofInt (h.2.1 a (k : Int)))
def tw_c (G : tG) (h : tH) (a : Nat) : va_E :=
  if (h.1 a).1 < 13 then .inr ((h.1 a).1, (List.range (h.1 a).2).map (tw_fv G h a))
  else .inl (G.2.1 (h.1 a).1, (h.1 a).2, if (h.1 a).1 < 16 then .inl (fun j => Int32.ofInt (h.2.1 a (j : Int))) else .inr (.inr (.inr (.inr (fun j => (h.2.2.1 a (j : Int)).map (tw_ad G))))))
def tw_ws (G : tG) (h : tH) : va_W := (List.range h.2.2.2).map fun a => (tw_ad G a, tw_c G h a)
def tw_A (G : tG) : Nat → Prop := fun q => G.2.2.1 ≤ q
def tw_tys (G : tG) : List (ClassId × FieldType) := [(G.2.1 13, .byte), (G.2.1 14, .int), (G.2.1 15, .boolean), (G.2.1 16, .object "TwinTools$Hand"), (G.2.1 17, .object "TwinTools$Valley"), (G.2.1 18, .array .int)]
def tw_tbl : List Cond := lw_tbl.filter goodWord
theorem tw_in {w : Cond} (i : Nat) (h : lw_tbl[i]? = some w) (g : goodWord w = true) : w ∈ tw_tbl := List.mem_filter.mpr ⟨List.mem_of_getElem? h, g⟩
def tw_Str (G : tG) (U : State) : Prop := vk_S 6 sLen sByt G.2.2.2.1 G.2.2.2.2 (tw_A G) U U.heap ∧ (∀ q ∈ sTab, vk_R q.1 q.2.1 q.2.2.1 (G.2.2.2.1 q.2.2.2) U) ∧ va_Z "java/lang/String" "COMPACT_STRINGS" "Z" (.int 1) (tw_A G) U U.heap ∧ ∃ r : Option Nat, va_Z "jdk/internal/util/Preconditions" "SIOOBE_FORMATTER" "Ljava/util/function/BiFunction;" (va_rf r) (tw_A G) U U.heap
def tw_U (G : tG) (U : State) : Prop := va_K G.1 tCl (tw_tys G) U ∧ tw_Str G U ∧ (∀ q ∈ castL, va_Nw (.castable q.1 q.2) U) ∧ (∀ q ∈ ncL, va_Nc q.1 q.2 U) ∧ va_AO "TwinTools$Hand" U ∧ va_AO "TwinTools$Valley" U ∧ tw_AOA U
def tw_rm (d mc ms : Nat) : Room := { frames := d, cells := mc, slots := ms, locals := 64 * d }
def tw_wds (M : tM) : List Cond := Cond.code M.1 M.2.1 M.2.2.1 M.2.2.2.1 :: tw_tbl
def ilen : Instr → Nat
  | .aload _ | .iload _ | .lload _ | .astore _ | .istore _ | .lstore _ | .bipush _ | .ldc _ | .newarray _ => 2
  | .sipush _ | .getfield _ | .putfield _ | .getstatic _ | .invokevirtual _ | .invokespecial _ | .invokestatic _ | .new _ | .anewarray _ | .checkcast _ | .instanceof _ | .goto _ | .if_icmp _ _ | .ifCond _ _ | .if_acmp _ _ | .ifnull _ | .ifnonnull _ | .iinc _ _ | .ldc_w _ | .ldc2_w _ => 3
  | .multianewarray _ _ => 4
  | .tableswitch _ _ _ _ | .lookupswitch _ _ => 0
  | _ => 1
def ioff : Instr → Option Int
  | .goto o | .if_icmp _ o | .ifCond _ o | .if_acmp _ o | .ifnull o | .ifnonnull o => some o
  | _ => none
def tw_okI (cc : ByteArray) (q : tJ) : Bool := decide (decode cc q.1 = .ok (q.2.1, q.2.2.1 - q.1)) && (decide (ilen q.2.1 = 0) || decide (q.2.2.1 = q.1 + ilen q.2.1)) && (match ioff q.2.1 with | some o => decide ((q.1 : Int) + o = (q.2.2.2 : Int)) | none => true)
/-- the fixed things of one run of a method's body -/
def tw_X (l : Launch) (G : tG) (M : tM) (n0 mc : Nat) (p : Program) (s : State) (m : MethodId) (args : Array Value) (meth : Method) (c : Code) : Prop :=
  p.tables.exec = Jvm.exec ∧ c.code = M.2.1 ∧ meth.sig.returnType = M.2.2.2.1 ∧ c.maxLocals = M.2.2.1 ∧ s.vm.findClass M.1.cls = some m.cls ∧ (∀ w ∈ tw_wds M, w.before args s = true) ∧ tw_U G s ∧ meth.locks = false ∧ s.heap.size = G.2.2.1 + n0 ∧ n0 + mc < 1000000 ∧ meth.name = M.1.name ∧ ∀ q ∈ M.2.2.2.2, tw_okI M.2.1 q = true
def tw_Q (G : tG) (P : Option tV → tH → Prop) (mc : Nat) : Array Value → State → Outcome → State → Prop := fun _ st o t => ∃ (r : Option tV) (h : tH), o = .returned (r.map (tw_v G)) ∧ P r h ∧ va_P G.1 tCl (tw_ws G h) t.heap ∧ st.heap.size + mc = G.2.2.1 + h.2.2.2 ∧ va_F (tw_A G) st t
def tw_M (l : Launch) (G : tG) (d mc ms : Nat) (M : tM) (av : List tV) (h : tH) (P : Option tV → tH → Prop) : Prop :=
  Met l M.1 (tw_wds M) (tw_rm d mc ms) (va_Pc (av.map (tw_v G)) (fun U => va_P G.1 tCl (tw_ws G h) U.heap ∧ U.heap.size = G.2.2.1 + h.2.2.2 ∧ tw_U G U ∧ h.2.2.2 + mc < 1000000)) (tw_Q G P mc) mc ms (tw_A G)
abbrev tw_L (G : tG) (ls : List (Nat × tV)) : List (Nat × Value) := ls.map fun q => (q.1, tw_v G q.2)
def tw_AW (l : Launch) (G : tG) (M : tM) (d mc ms n0 c2 : Nat) (P : Option tV → tH → Prop) (pc : Nat) (ls : List (Nat × tV)) (st : List tV) (h : tH) : Prop :=
  ∀ (p : Program) (e : Env) (s : State) (m : MethodId) (args : Array Value) (below : List Frame) (meth : Method) (c : Code) (H : Heap) (locs : List Loc) (ls' : Array Slot),
    tw_X l G M n0 mc p s m args meth c → lv_has ls' M.2.2.1 (tw_L G ls) → va_P G.1 tCl (tw_ws G h) H → va_S (tw_A G) s.heap H locs → n0 ≤ h.2.2.2 → h.2.2.2 < 1000000 →
    W p l e (tw_rm d mc ms) s m args below meth c H locs (h.2.2.2 - n0) c2 (MQ below (tw_Q G P mc) args s mc ms (tw_A G)) (F0 m pc ls' (st.map (tw_v G)))
theorem tw_v_cat (G : tG) (v : tV) : (tw_v G v).category = tw_w v := by
  rcases v with z | r | z
  · rfl
  · cases r <;> rfl
  · rfl
theorem tw_ad_lt {G : tG} {a : Nat} (h : a < 1000000) : tw_ad G a = G.2.2.1 + a := if_pos h
theorem tw_ws_get {G : tG} {h : tH} {a : Nat} (ha : a < h.2.2.2) : (tw_ws G h)[a]? = some (tw_ad G a, tw_c G h a) := by
  simp [tw_ws, ha]
theorem tw_ws_inv {G : tG} {h : tH} {k : Nat} {q : Nat × va_E} (hk : (tw_ws G h)[k]? = some q) : k < h.2.2.2 ∧ q = (tw_ad G k, tw_c G h k) := by
  simp only [tw_ws, List.getElem?_map, Option.map_eq_some_iff] at hk
  obtain ⟨a, h1, h2⟩ := hk
  obtain ⟨h3, h4⟩ := List.getElem?_eq_some_iff.mp h1
  rw [List.getElem_range] at h4
  rw [List.length_range] at h3
  subst h4
  exact ⟨h3, h2.symm⟩
theorem tw_ws_D {G : tG} {h : tH} (hn : h.2.2.2 < 1000000) : va_D (tw_A G) (tw_ws G h) := by
  refine ⟨fun i j p q hp hq e => ?_, fun k q hk => ?_⟩
  · obtain ⟨i1, i2⟩ := tw_ws_inv hp
    obtain ⟨j1, j2⟩ := tw_ws_inv hq
    rw [i2, j2] at e
    simp only [tw_ad_lt (G := G) (show i < 1000000 by omega), tw_ad_lt (G := G) (show j < 1000000 by omega)] at e
    omega
  · obtain ⟨i1, i2⟩ := tw_ws_inv hk
    rw [i2]
    show G.2.2.1 ≤ tw_ad G k
    rw [tw_ad_lt (by omega)]
    omega
/-- another world of the same size: one cell is another -/
theorem tw_ws_set {G : tG} {h h' : tH} {a : Nat} {e : va_E} (hn : h'.2.2.2 = h.2.2.2) (ha : a < h.2.2.2) (he : tw_c G h' a = e) (ho : ∀ b, b ≠ a → tw_c G h' b = tw_c G h b) : (tw_ws G h).set a (tw_ad G a, e) = tw_ws G h' := by
  apply List.ext_getElem?
  intro k
  by_cases hk : k = a
  · subst hk
    rw [List.getElem?_set_self (by simp [tw_ws]; exact ha), tw_ws_get (by omega), he]
  · rw [List.getElem?_set_ne (fun q => hk q.symm)]
    simp only [tw_ws, List.getElem?_map, hn]
    by_cases hl : k < h.2.2.2
    · simp [hl, ho k hk]
    · simp [hl]
theorem tw_ws_push {G : tG} {h h' : tH} {e : va_E} (hn : h'.2.2.2 = h.2.2.2 + 1) (he : tw_c G h' h.2.2.2 = e) (ho : ∀ b, b < h.2.2.2 → tw_c G h' b = tw_c G h b) : tw_ws G h ++ [(tw_ad G h.2.2.2, e)] = tw_ws G h' := by
  unfold tw_ws
  rw [hn, List.range_succ, List.map_append, List.map_singleton, he]
  congr 1
  apply List.map_congr_left
  intro b hb
  rw [ho b (List.mem_range.mp hb)]
/-- the heap's size, by the count of what was made -/
theorem tw_size {p : Program} {l : Launch} {e : Env} {R : Room} {s : State} {m : MethodId} {args : Array Value} {below : List Frame} {meth : Method} {c : Code} {T : State} {locs : List Loc} {n0 slots : Nat} {G : tG} {h : tH}
    (X : Stand p l e R s m args below meth c T locs (h.2.2.2 - n0) slots) (hs : s.heap.size = G.2.2.1 + n0) (h0 : n0 ≤ h.2.2.2) (hn : h.2.2.2 < 1000000) (hP : va_P G.1 tCl (tw_ws G h) T.heap) (hz : s.heap.size ≤ T.heap.size) : T.heap.size = G.2.2.1 + h.2.2.2 := by
  have h1 := X.heapSize
  by_cases hq : h.2.2.2 = n0
  · omega
  · have h2 := (hP (h.2.2.2 - 1) _ (tw_ws_get (by omega))).lt
    have h3 : tw_ad G (h.2.2.2 - 1) < T.heap.size := h2
    rw [tw_ad_lt (by omega)] at h3
    omega
theorem tw_U_vm {G : tG} {u U : State} (hv : U.vm = u.vm) (hh : U.heap = u.heap) (h : tw_U G u) : tw_U G U := by
  have ha : u.vm.Alike U.vm := by rw [hv]; exact Vm.Alike.refl _
  obtain ⟨h1, ⟨s1, s2, s3, r, s4⟩, h3, h4, h5, h6, h7⟩ := h
  refine ⟨h1.moved ha, ⟨by rw [hh]; exact s1.moved ha, fun q hq => vk_R.same hv (s2 q hq), by rw [hh]; exact s3.moved ha, r, by rw [hh]; exact s4.moved ha⟩, fun q hq => va_Nw.same rfl hv.symm (h3 q hq), fun q hq => (h4 q hq).moved ha, h5.moved ha, h6.moved ha, tw_AOA_same hv h7⟩
theorem tw_U_warm {G : tG} {s U : State} (hW : s.WarmedH U.vm) (hz : s.heap.size ≤ U.heap.size) (hq : ∀ a : Nat, a < s.heap.size → ¬ tw_A G a → U.heap[a]? = s.heap[a]?) (h : tw_U G s) : tw_U G U := by
  have ha := hW.alike
  obtain ⟨h1, ⟨s1, s2, s3, r, s4⟩, h3, h4, h5, h6, h7⟩ := h
  exact ⟨h1.moved ha, ⟨(s1.kept hq).moved ha, fun q hq => (s2 q hq).warm hW, (s3.kept hq).moved ha, r, (s4.kept hq).moved ha⟩, fun q hq => (h3 q hq).warmC hW, fun q hq => (h4 q hq).moved ha, h5.moved ha, h6.moved ha, tw_AOA_moved ha h7⟩
end
section
theorem tr_b : ∀ {x : Int}, -128 ≤ x ∧ x ≤ 127 → (Int32.ofInt x).toInt8.toInt32 = Int32.ofInt x := by
  intro x hx
  apply Int32.toInt_inj.mp
  simp only [Int8.toInt_toInt32, Int32.toInt_toInt8, Int32.toInt_ofInt]
  have h1 : x.bmod Int32.size = x := Int.bmod_eq_of_le (by simp [Int32.size]; omega) (by simp [Int32.size]; omega)
  rw [h1]
  exact Int.bmod_eq_of_le (by simp; omega) (by simp; omega)
theorem tr_c : ∀ {x : Int}, 0 ≤ x ∧ x ≤ 65535 → ((Int32.ofInt x).toUInt32 % 65536).toInt32 = Int32.ofInt x := by
  intro x hx
  obtain ⟨n, rfl⟩ : ∃ n : Nat, x = n := ⟨x.toNat, by omega⟩
  have hn : n ≤ 65535 := by omega
  rw [Int32.ofInt_eq_ofNat]
  apply Int32.toBitVec_inj.mp
  apply BitVec.eq_of_toNat_eq
  simp
  omega
section AR
variable {l : Launch} {G : tG} {M : tM} {d mc ms n0 c2 : Nat} {P : Option tV → tH → Prop} {ls : List (Nat × tV)} {st : List tV} {h : tH} {k pc nx tg : Nat}
theorem tw_dec {p : Program} {s : State} {m : MethodId} {args : Array Value} {meth : Method} {c : Code} {ins : Instr} {n : Nat} (X : tw_X l G M n0 mc p s m args meth c) (hd : M.2.2.2.2[k]? = some (pc, ins, nx, tg)) (hn : ilen ins = n + 1) : decode M.2.1 pc = .ok (ins, n + 1) ∧ nx = pc + (n + 1) := by
  obtain ⟨-, -, -, -, -, -, -, -, -, -, -, hq⟩ := X
  have h := hq _ (List.mem_of_getElem? hd)
  simp only [tw_okI, Bool.and_eq_true, Bool.or_eq_true, decide_eq_true_eq] at h
  obtain ⟨⟨h1, h2⟩, -⟩ := h
  rcases h2 with h2 | h2
  · omega
  · rw [hn] at h2
    subst h2
    refine ⟨?_, rfl⟩
    rw [h1]
    congr 2
    omega
theorem tw_tgt {p : Program} {s : State} {m : MethodId} {args : Array Value} {meth : Method} {c : Code} {ins : Instr} {off : Int} (X : tw_X l G M n0 mc p s m args meth c) (hd : M.2.2.2.2[k]? = some (pc, ins, nx, tg)) (hn : ioff ins = some off) : (pc : Int) + off = (tg : Int) := by
  obtain ⟨-, -, -, -, -, -, -, -, -, -, -, hq⟩ := X
  have h := hq _ (List.mem_of_getElem? hd)
  simp only [tw_okI, hn, Bool.and_eq_true, decide_eq_true_eq] at h
  exact h.2
theorem tw_sw {p : Program} {s : State} {m : MethodId} {args : Array Value} {meth : Method} {c : Code} {ins : Instr} (X : tw_X l G M n0 mc p s m args meth c) (hd : M.2.2.2.2[k]? = some (pc, ins, nx, tg)) : decode M.2.1 pc = .ok (ins, nx - pc) := by
  obtain ⟨-, -, -, -, -, -, -, -, -, -, -, hq⟩ := X
  have h := hq _ (List.mem_of_getElem? hd)
  simp only [tw_okI, Bool.and_eq_true, decide_eq_true_eq] at h
  exact h.1.1
theorem ar_iconst {n : Int} (hd : M.2.2.2.2[k]? = some (pc, .iconst n, nx, tg))  (kk : tw_AW l G M d mc ms n0 c2 P nx ls (vi n :: st) h) : tw_AW l G M d mc ms n0 c2 P pc ls (st) h := by
  intro p e s m args below meth c H locs ls' X hl hP hS h0 hn
  obtain ⟨dd, e1⟩ := tw_dec X hd rfl
  subst e1
  have K := kk p e s m args below meth c H locs ls' X hl hP hS h0 hn
  exact lv_iconst X.1 X.2.1 dd rfl K
theorem ar_bipush {n : Int} (hd : M.2.2.2.2[k]? = some (pc, .bipush n, nx, tg)) (hv : (Int8.ofInt n).toInt32 = Int32.ofInt n) (kk : tw_AW l G M d mc ms n0 c2 P nx ls (vi n :: st) h) : tw_AW l G M d mc ms n0 c2 P pc ls (st) h := by
  intro p e s m args below meth c H locs ls' X hl hP hS h0 hn
  obtain ⟨dd, e1⟩ := tw_dec X hd rfl
  subst e1
  have K := kk p e s m args below meth c H locs ls' X hl hP hS h0 hn
  exact lv_bipush X.1 X.2.1 dd hv K
theorem ar_sipush {n : Int} (hd : M.2.2.2.2[k]? = some (pc, .sipush n, nx, tg)) (hv : (Int16.ofInt n).toInt32 = Int32.ofInt n) (kk : tw_AW l G M d mc ms n0 c2 P nx ls (vi n :: st) h) : tw_AW l G M d mc ms n0 c2 P pc ls (st) h := by
  intro p e s m args below meth c H locs ls' X hl hP hS h0 hn
  obtain ⟨dd, e1⟩ := tw_dec X hd rfl
  subst e1
  have K := kk p e s m args below meth c H locs ls' X hl hP hS h0 hn
  exact lv_sipush X.1 X.2.1 dd hv K
theorem ar_lconst {n : Fin 2} {z : Int} (hd : M.2.2.2.2[k]? = some (pc, .lconst n, nx, tg)) (hv : Int64.ofNat (n : Nat) = Int64.ofInt z) (kk : tw_AW l G M d mc ms n0 c2 P nx ls (vl z :: st) h) : tw_AW l G M d mc ms n0 c2 P pc ls (st) h := by
  intro p e s m args below meth c H locs ls' X hl hP hS h0 hn
  obtain ⟨dd, e1⟩ := tw_dec X hd rfl
  subst e1
  have K := kk p e s m args below meth c H locs ls' X hl hP hS h0 hn
  exact lv_lconst X.1 X.2.1 dd hv K
theorem ar_ldc {i : Nat} {v : Int32} {z : Int} (hd : M.2.2.2.2[k]? = some (pc, .ldc i, nx, tg)) (hw : Cond.constant M.1.cls i v ∈ tw_tbl) (hv : Int32.ofInt z = v) (kk : tw_AW l G M d mc ms n0 c2 P nx ls (vi z :: st) h) : tw_AW l G M d mc ms n0 c2 P pc ls (st) h := by
  intro p e s m args below meth c H locs ls' X hl hP hS h0 hn
  obtain ⟨dd, e1⟩ := tw_dec X hd rfl
  subst e1
  have K := kk p e s m args below meth c H locs ls' X hl hP hS h0 hn
  subst hv
  exact lv_ldc X.1 X.2.1 X.2.2.2.2.1 (X.2.2.2.2.2.1 _ (List.mem_cons_of_mem _ hw)) dd K
theorem ar_ldcw {i : Nat} {v : Int32} {z : Int} (hd : M.2.2.2.2[k]? = some (pc, .ldc_w i, nx, tg)) (hw : Cond.constant M.1.cls i v ∈ tw_tbl) (hv : Int32.ofInt z = v) (kk : tw_AW l G M d mc ms n0 c2 P nx ls (vi z :: st) h) : tw_AW l G M d mc ms n0 c2 P pc ls (st) h := by
  intro p e s m args below meth c H locs ls' X hl hP hS h0 hn
  obtain ⟨dd, e1⟩ := tw_dec X hd rfl
  subst e1
  have K := kk p e s m args below meth c H locs ls' X hl hP hS h0 hn
  subst hv
  exact lv_ldcw X.1 X.2.1 X.2.2.2.2.1 (X.2.2.2.2.2.1 _ (List.mem_cons_of_mem _ hw)) dd K
theorem ar_ldc2 {i : Nat} {v : Int64} {z : Int} (hd : M.2.2.2.2[k]? = some (pc, .ldc2_w i, nx, tg)) (hw : Cond.constantLong M.1.cls i v ∈ tw_tbl) (hv : Int64.ofInt z = v) (kk : tw_AW l G M d mc ms n0 c2 P nx ls (vl z :: st) h) : tw_AW l G M d mc ms n0 c2 P pc ls (st) h := by
  intro p e s m args below meth c H locs ls' X hl hP hS h0 hn
  obtain ⟨dd, e1⟩ := tw_dec X hd rfl
  subst e1
  have K := kk p e s m args below meth c H locs ls' X hl hP hS h0 hn
  subst hv
  exact lv_ldc2 X.1 X.2.1 X.2.2.2.2.1 (X.2.2.2.2.2.1 _ (List.mem_cons_of_mem _ hw)) dd K
theorem ar_ldcS {i j : Nat} {tx : String} (hd : M.2.2.2.2[k]? = some (pc, .ldc i, nx, tg)) (hq : (M.1.cls, i, tx, j) ∈ sTab) (kk : tw_AW l G M d mc ms n0 c2 P nx ls (vr (some (1000000 + j)) :: st) h) : tw_AW l G M d mc ms n0 c2 P pc ls (st) h := by
  intro p e s m args below meth c H locs ls' X hl hP hS h0 hn
  obtain ⟨dd, e1⟩ := tw_dec X hd rfl
  subst e1
  have K := kk p e s m args below meth c H locs ls' X hl hP hS h0 hn
  have e : tw_v G (vr (some (1000000 + j))) = .ref (G.2.2.2.1 j) := by
    show Value.ref (tw_ad G (1000000 + j)) = _
    rw [tw_ad, if_neg (by omega), Nat.add_sub_cancel_left]
  rw [List.map_cons, e] at K
  exact va_ldcS X.1 X.2.1 X.2.2.2.2.1 (X.2.2.2.2.2.2.1.2.1.2.1 _ hq) dd K
theorem ar_null (hd : M.2.2.2.2[k]? = some (pc, .aconst_null, nx, tg))  (kk : tw_AW l G M d mc ms n0 c2 P nx ls (vr none :: st) h) : tw_AW l G M d mc ms n0 c2 P pc ls (st) h := by
  intro p e s m args below meth c H locs ls' X hl hP hS h0 hn
  obtain ⟨dd, e1⟩ := tw_dec X hd rfl
  subst e1
  have K := kk p e s m args below meth c H locs ls' X hl hP hS h0 hn
  exact lv_null X.1 X.2.1 dd K
theorem tw_lk {nL : Nat} {ls' : Array Slot} {i : Nat} {v : tV} (hl : lv_has ls' nL (tw_L G ls)) (hi : ls.lookup i = some v) : ls'[i]? = some (.val (tw_v G v)) := by
  refine hl.2.2 (i, tw_v G v) ?_
  have hm : (i, v) ∈ ls := by
    clear hl
    induction ls with
    | nil => simp at hi
    | cons q r ih =>
      rw [List.lookup_cons] at hi
      by_cases hq : i == q.1
      · rw [hq] at hi
        simp only [Option.some.injEq] at hi
        have : i = q.1 := by simpa using hq
        subst this; subst hi
        exact List.mem_cons_self
      · simp only [Bool.not_eq_true] at hq
        rw [hq] at hi
        exact List.mem_cons_of_mem _ (ih hi)
  exact List.mem_map.mpr ⟨(i, v), hm, rfl⟩
theorem ar_iload {i : Nat} {z : Int} (hd : M.2.2.2.2[k]? = some (pc, .iload i, nx, tg)) (hi : ls.lookup i = some (vi z)) (kk : tw_AW l G M d mc ms n0 c2 P nx ls (vi z :: st) h) : tw_AW l G M d mc ms n0 c2 P pc ls (st) h := by
  intro p e s m args below meth c H locs ls' X hl hP hS h0 hn
  obtain ⟨dd, e1⟩ := tw_dec X hd rfl
  subst e1
  have K := kk p e s m args below meth c H locs ls' X hl hP hS h0 hn
  exact lv_iload X.1 X.2.1 dd (tw_lk hl hi) K
theorem ar_iloadn {i : Fin 4} {z : Int} (hd : M.2.2.2.2[k]? = some (pc, .iload_n i, nx, tg)) (hi : ls.lookup (i : Nat) = some (vi z)) (kk : tw_AW l G M d mc ms n0 c2 P nx ls (vi z :: st) h) : tw_AW l G M d mc ms n0 c2 P pc ls (st) h := by
  intro p e s m args below meth c H locs ls' X hl hP hS h0 hn
  obtain ⟨dd, e1⟩ := tw_dec X hd rfl
  subst e1
  have K := kk p e s m args below meth c H locs ls' X hl hP hS h0 hn
  exact lv_iload_n X.1 X.2.1 dd rfl (tw_lk hl hi) K
theorem ar_lload {i : Nat} {z : Int} (hd : M.2.2.2.2[k]? = some (pc, .lload i, nx, tg)) (hi : ls.lookup i = some (vl z)) (kk : tw_AW l G M d mc ms n0 c2 P nx ls (vl z :: st) h) : tw_AW l G M d mc ms n0 c2 P pc ls (st) h := by
  intro p e s m args below meth c H locs ls' X hl hP hS h0 hn
  obtain ⟨dd, e1⟩ := tw_dec X hd rfl
  subst e1
  have K := kk p e s m args below meth c H locs ls' X hl hP hS h0 hn
  exact lv_lload X.1 X.2.1 dd (tw_lk hl hi) K
theorem ar_lloadn {i : Fin 4} {z : Int} (hd : M.2.2.2.2[k]? = some (pc, .lload_n i, nx, tg)) (hi : ls.lookup (i : Nat) = some (vl z)) (kk : tw_AW l G M d mc ms n0 c2 P nx ls (vl z :: st) h) : tw_AW l G M d mc ms n0 c2 P pc ls (st) h := by
  intro p e s m args below meth c H locs ls' X hl hP hS h0 hn
  obtain ⟨dd, e1⟩ := tw_dec X hd rfl
  subst e1
  have K := kk p e s m args below meth c H locs ls' X hl hP hS h0 hn
  exact lv_lload_n X.1 X.2.1 dd rfl (tw_lk hl hi) K
theorem ar_aload {i : Nat} {r : Option Nat} (hd : M.2.2.2.2[k]? = some (pc, .aload i, nx, tg)) (hi : ls.lookup i = some (vr r)) (kk : tw_AW l G M d mc ms n0 c2 P nx ls (vr r :: st) h) : tw_AW l G M d mc ms n0 c2 P pc ls (st) h := by
  intro p e s m args below meth c H locs ls' X hl hP hS h0 hn
  obtain ⟨dd, e1⟩ := tw_dec X hd rfl
  subst e1
  have K := kk p e s m args below meth c H locs ls' X hl hP hS h0 hn
  have L := tw_lk hl hi
  cases r with
  | none => exact lv_aloadN X.1 X.2.1 dd L K
  | some a => exact lv_aload X.1 X.2.1 dd L K
theorem ar_aloadn {i : Fin 4} {r : Option Nat} (hd : M.2.2.2.2[k]? = some (pc, .aload_n i, nx, tg)) (hi : ls.lookup (i : Nat) = some (vr r)) (kk : tw_AW l G M d mc ms n0 c2 P nx ls (vr r :: st) h) : tw_AW l G M d mc ms n0 c2 P pc ls (st) h := by
  intro p e s m args below meth c H locs ls' X hl hP hS h0 hn
  obtain ⟨dd, e1⟩ := tw_dec X hd rfl
  subst e1
  have K := kk p e s m args below meth c H locs ls' X hl hP hS h0 hn
  have L := tw_lk hl hi
  cases r with
  | none => exact lv_aload_nN X.1 X.2.1 dd rfl L K
  | some a => exact lv_aload_n X.1 X.2.1 dd rfl L K
/-- a store: what was there goes, and a long whose second half it is -/
def tw_set (i : Nat) (v : tV) (ls : List (Nat × tV)) : List (Nat × tV) := (i, v) :: ls.filter (fun q => !(q.1 == i) && !(q.1 + 1 == i && tw_w q.2 == 2))
def tw_set2 (i : Nat) (v : tV) (ls : List (Nat × tV)) : List (Nat × tV) := (i, v) :: ls.filter (fun q => !(q.1 == i) && (!(q.1 == i + 1) && !(q.1 + 1 == i && tw_w q.2 == 2)))
theorem tw_set_L (i : Nat) (v : tV) (ls : List (Nat × tV)) : (i, tw_v G v) :: (tw_L G ls).filter (fun q => !(q.1 == i) && !(q.1 + 1 == i && q.2.category == 2)) = tw_L G (tw_set i v ls) := by
  simp only [tw_L, tw_set, List.map_cons, List.filter_map]
  congr 2
  apply List.filter_congr
  intro q _
  simp [tw_v_cat]
theorem tw_set2_L (i : Nat) (v : tV) (ls : List (Nat × tV)) : (i, tw_v G v) :: (tw_L G ls).filter (fun q => !(q.1 == i) && (!(q.1 == i + 1) && !(q.1 + 1 == i && q.2.category == 2))) = tw_L G (tw_set2 i v ls) := by
  simp only [tw_L, tw_set2, List.map_cons, List.filter_map]
  congr 2
  apply List.filter_congr
  intro q _
  simp [tw_v_cat]
theorem tw_sub_has {nL : Nat} {ls' : Array Slot} {l2 : List (Nat × tV)} (hl : lv_has ls' nL (tw_L G ls)) (hs : ∀ q ∈ l2, q ∈ ls) : lv_has ls' nL (tw_L G l2) :=
  ⟨hl.1, hl.2.1, fun q hq => by
    obtain ⟨x, hx, rfl⟩ := List.mem_map.mp hq
    exact hl.2.2 _ (List.mem_map.mpr ⟨x, hs x hx, rfl⟩)⟩
theorem ar_istore {i : Nat} {z : Int} {l2 : List (Nat × tV)} (hd : M.2.2.2.2[k]? = some (pc, .istore i, nx, tg)) (hi : i < M.2.2.1) (h2 : tw_set i (vi z) ls = l2) (kk : tw_AW l G M d mc ms n0 c2 P nx l2 st h) : tw_AW l G M d mc ms n0 c2 P pc ls (vi z :: st) h := by
  intro p e s m args below meth c H locs ls' X hl hP hS h0 hn
  obtain ⟨dd, e1⟩ := tw_dec X hd rfl
  subst e1
  subst h2
  exact lv_istore X.1 X.2.1 dd hl hi (tw_set_L _ (vi z) _) (fun ls2 hl2 => kk p e s m args below meth c H locs ls2 X hl2 hP hS h0 hn)
theorem ar_lstore {i : Nat} {z : Int} {l2 : List (Nat × tV)} (hd : M.2.2.2.2[k]? = some (pc, .lstore i, nx, tg)) (hi : i + 1 < M.2.2.1) (h2 : tw_set2 i (vl z) ls = l2) (kk : tw_AW l G M d mc ms n0 c2 P nx l2 st h) : tw_AW l G M d mc ms n0 c2 P pc ls (vl z :: st) h := by
  intro p e s m args below meth c H locs ls' X hl hP hS h0 hn
  obtain ⟨dd, e1⟩ := tw_dec X hd rfl
  subst e1
  subst h2
  exact lv_lstore X.1 X.2.1 dd hl hi (tw_set2_L _ (vl z) _) (fun ls2 hl2 => kk p e s m args below meth c H locs ls2 X hl2 hP hS h0 hn)
theorem ar_astore {i : Nat} {r : Option Nat} {l2 : List (Nat × tV)} (hd : M.2.2.2.2[k]? = some (pc, .astore i, nx, tg)) (hi : i < M.2.2.1) (h2 : tw_set i (vr r) ls = l2) (kk : tw_AW l G M d mc ms n0 c2 P nx l2 st h) : tw_AW l G M d mc ms n0 c2 P pc ls (vr r :: st) h := by
  intro p e s m args below meth c H locs ls' X hl hP hS h0 hn
  obtain ⟨dd, e1⟩ := tw_dec X hd rfl
  subst e1
  subst h2
  cases r with
  | none => exact lv_astoreN X.1 X.2.1 dd hl hi (tw_set_L (G := G) _ (vr none) _) (fun ls2 hl2 => kk p e s m args below meth c H locs ls2 X hl2 hP hS h0 hn)
  | some a => exact lv_astore X.1 X.2.1 dd hl hi (tw_set_L (G := G) _ (vr (some a)) _) (fun ls2 hl2 => kk p e s m args below meth c H locs ls2 X hl2 hP hS h0 hn)
theorem ar_istoren {i : Fin 4} {z : Int} {l2 : List (Nat × tV)} (hd : M.2.2.2.2[k]? = some (pc, .istore_n i, nx, tg)) (hi : (i : Nat) < M.2.2.1) (h2 : tw_set (i : Nat) (vi z) ls = l2) (kk : tw_AW l G M d mc ms n0 c2 P nx l2 st h) : tw_AW l G M d mc ms n0 c2 P pc ls (vi z :: st) h := by
  intro p e s m args below meth c H locs ls' X hl hP hS h0 hn
  obtain ⟨dd, e1⟩ := tw_dec X hd rfl
  subst e1
  subst h2
  exact lv_istore_n X.1 X.2.1 dd rfl hl hi (tw_set_L _ (vi z) _) (fun ls2 hl2 => kk p e s m args below meth c H locs ls2 X hl2 hP hS h0 hn)
theorem ar_lstoren {i : Fin 4} {z : Int} {l2 : List (Nat × tV)} (hd : M.2.2.2.2[k]? = some (pc, .lstore_n i, nx, tg)) (hi : (i : Nat) + 1 < M.2.2.1) (h2 : tw_set2 (i : Nat) (vl z) ls = l2) (kk : tw_AW l G M d mc ms n0 c2 P nx l2 st h) : tw_AW l G M d mc ms n0 c2 P pc ls (vl z :: st) h := by
  intro p e s m args below meth c H locs ls' X hl hP hS h0 hn
  obtain ⟨dd, e1⟩ := tw_dec X hd rfl
  subst e1
  subst h2
  exact lv_lstore_n X.1 X.2.1 dd rfl hl hi (tw_set2_L _ (vl z) _) (fun ls2 hl2 => kk p e s m args below meth c H locs ls2 X hl2 hP hS h0 hn)
theorem ar_astoren {i : Fin 4} {r : Option Nat} {l2 : List (Nat × tV)} (hd : M.2.2.2.2[k]? = some (pc, .astore_n i, nx, tg)) (hi : (i : Nat) < M.2.2.1) (h2 : tw_set (i : Nat) (vr r) ls = l2) (kk : tw_AW l G M d mc ms n0 c2 P nx l2 st h) : tw_AW l G M d mc ms n0 c2 P pc ls (vr r :: st) h := by
  intro p e s m args below meth c H locs ls' X hl hP hS h0 hn
  obtain ⟨dd, e1⟩ := tw_dec X hd rfl
  subst e1
  subst h2
  cases r with
  | none => exact lv_astore_nN X.1 X.2.1 dd rfl hl hi (tw_set_L (G := G) _ (vr none) _) (fun ls2 hl2 => kk p e s m args below meth c H locs ls2 X hl2 hP hS h0 hn)
  | some a => exact lv_astore_n X.1 X.2.1 dd rfl hl hi (tw_set_L (G := G) _ (vr (some a)) _) (fun ls2 hl2 => kk p e s m args below meth c H locs ls2 X hl2 hP hS h0 hn)
theorem ar_iinc {i : Nat} {z n : Int} {l2 : List (Nat × tV)} (hd : M.2.2.2.2[k]? = some (pc, .iinc i n, nx, tg)) (hi : i < M.2.2.1) (hz : ls.lookup i = some (vi z)) (h2 : tw_set i (vi (z + n)) ls = l2) (kk : tw_AW l G M d mc ms n0 c2 P nx l2 st h) : tw_AW l G M d mc ms n0 c2 P pc ls st h := by
  intro p e s m args below meth c H locs ls' X hl hP hS h0 hn
  obtain ⟨dd, e1⟩ := tw_dec X hd rfl
  subst e1
  subst h2
  have hk := tw_lk hl hz
  obtain ⟨ls2, e2, hl2⟩ := lv_store1 (v := .int (Int32.ofInt (z + n))) hl hi rfl
  have hl2 : lv_has ls2 M.2.2.1 (tw_L G (tw_set i (vi (z + n)) ls)) := by rw [← tw_set_L]; exact hl2
  intro T hT Y
  obtain ⟨t, a, b⟩ := kk p e s m args below meth c H locs ls2 X hl2 hP hS h0 hn T hT Y
  refine ⟨t, ?_, b⟩
  have hk' : ls'[i]? = some (.val (.int (Int32.ofInt z))) := hk
  rw [Int32.ofInt_add] at e2
  have hb : c.code = M.2.1 := X.2.1
  have hexec := X.1
  jvm_step Y.here [Y.here.top, ↓top_set Y.here.top, hexec, hb, dd, hk', e2]
  exact a
theorem ar_sub {l2 : List (Nat × tV)} (hs : ∀ q ∈ l2, q ∈ ls) (kk : tw_AW l G M d mc ms n0 c2 P pc l2 st h) : tw_AW l G M d mc ms n0 c2 P pc ls st h := fun p e s m args below meth c H locs ls' X hl hP hS h0 hn => kk p e s m args below meth c H locs ls' X (tw_sub_has hl hs) hP hS h0 hn
theorem ar_iadd {x y : Int} (hd : M.2.2.2.2[k]? = some (pc, .iadd, nx, tg))  (kk : tw_AW l G M d mc ms n0 c2 P nx ls (vi (x + y) :: st) h) : tw_AW l G M d mc ms n0 c2 P pc ls (vi y :: vi x :: st) h := by
  intro p e s m args below meth c H locs ls' X hl hP hS h0 hn
  obtain ⟨dd, e1⟩ := tw_dec X hd rfl
  subst e1
  have K := kk p e s m args below meth c H locs ls' X hl hP hS h0 hn
  refine lv_iadd X.1 X.2.1 dd ?_
  rw [← Int32.ofInt_add]
  exact K
theorem ar_isub {x y : Int} (hd : M.2.2.2.2[k]? = some (pc, .isub, nx, tg))  (kk : tw_AW l G M d mc ms n0 c2 P nx ls (vi (x - y) :: st) h) : tw_AW l G M d mc ms n0 c2 P pc ls (vi y :: vi x :: st) h := by
  intro p e s m args below meth c H locs ls' X hl hP hS h0 hn
  obtain ⟨dd, e1⟩ := tw_dec X hd rfl
  subst e1
  have K := kk p e s m args below meth c H locs ls' X hl hP hS h0 hn
  refine lv_isub X.1 X.2.1 dd ?_
  rw [← Int32.ofInt_sub]
  exact K
theorem ar_imul {x y : Int} (hd : M.2.2.2.2[k]? = some (pc, .imul, nx, tg))  (kk : tw_AW l G M d mc ms n0 c2 P nx ls (vi (x * y) :: st) h) : tw_AW l G M d mc ms n0 c2 P pc ls (vi y :: vi x :: st) h := by
  intro p e s m args below meth c H locs ls' X hl hP hS h0 hn
  obtain ⟨dd, e1⟩ := tw_dec X hd rfl
  subst e1
  have K := kk p e s m args below meth c H locs ls' X hl hP hS h0 hn
  refine lv_imul X.1 X.2.1 dd ?_
  rw [← Int32.ofInt_mul]
  exact K
abbrev tr (z : Int) : Prop := -2147483648 ≤ z ∧ z ≤ 2147483647
theorem tr_min {z : Int} (h : tr z) : Int32.minValue.toInt ≤ z := h.1
theorem tr_max {z : Int} (h : tr z) : z ≤ Int32.maxValue.toInt := h.2
theorem tr_id {z : Int} (h : tr z) : (Int32.ofInt z).toInt = z := Int32.toInt_ofInt_of_le (by have := h.1; omega) (by have := h.2; omega)
theorem tr_eq {x y : Int} (hx : tr x) (hy : tr y) : Int32.ofInt x = Int32.ofInt y ↔ x = y := by
  rw [← Int32.toInt_inj, tr_id hx, tr_id hy]
theorem tr_0 {x : Int} (hx : tr x) : Int32.ofInt x = 0 ↔ x = 0 := tr_eq hx (by decide : tr 0)
theorem tr_lt {x y : Int} (hx : tr x) (hy : tr y) : Int32.ofInt x < Int32.ofInt y ↔ x < y := by
  rw [Int32.lt_iff_toInt_lt, tr_id hx, tr_id hy]
theorem tr_le {x y : Int} (hx : tr x) (hy : tr y) : Int32.ofInt x ≤ Int32.ofInt y ↔ x ≤ y := by
  rw [Int32.le_iff_toInt_le, tr_id hx, tr_id hy]
def bAnd (x y : Int) : Int := (Int32.ofInt x &&& Int32.ofInt y).toInt
def bOr (x y : Int) : Int := (Int32.ofInt x ||| Int32.ofInt y).toInt
def bXor (x y : Int) : Int := (Int32.ofInt x ^^^ Int32.ofInt y).toInt
def bShl (x y : Int) : Int := (Int32.ofInt x <<< (Int32.ofInt y &&& 31)).toInt
def bShr (x y : Int) : Int := (Int32.ofInt x >>> (Int32.ofInt y &&& 31)).toInt
def bUsh (x y : Int) : Int := ((Int32.ofInt x).toUInt32 >>> ((Int32.ofInt y).toUInt32 &&& Int32.toUInt32 31)).toInt32.toInt
theorem ar_iand {x y : Int} (hd : M.2.2.2.2[k]? = some (pc, .iand, nx, tg))  (kk : tw_AW l G M d mc ms n0 c2 P nx ls (vi (bAnd x y) :: st) h) : tw_AW l G M d mc ms n0 c2 P pc ls (vi y :: vi x :: st) h := by
  intro p e s m args below meth c H locs ls' X hl hP hS h0 hn
  obtain ⟨dd, e1⟩ := tw_dec X hd rfl
  subst e1
  have K := kk p e s m args below meth c H locs ls' X hl hP hS h0 hn
  refine lv_iand X.1 X.2.1 dd ?_
  have e : tw_v G (vi (bAnd x y)) = .int _ := congrArg Value.int (Int32.ofInt_toInt _)
  rw [List.map_cons, e] at K
  exact K
theorem ar_ior {x y : Int} (hd : M.2.2.2.2[k]? = some (pc, .ior, nx, tg))  (kk : tw_AW l G M d mc ms n0 c2 P nx ls (vi (bOr x y) :: st) h) : tw_AW l G M d mc ms n0 c2 P pc ls (vi y :: vi x :: st) h := by
  intro p e s m args below meth c H locs ls' X hl hP hS h0 hn
  obtain ⟨dd, e1⟩ := tw_dec X hd rfl
  subst e1
  have K := kk p e s m args below meth c H locs ls' X hl hP hS h0 hn
  refine lv_ior X.1 X.2.1 dd ?_
  have e : tw_v G (vi (bOr x y)) = .int _ := congrArg Value.int (Int32.ofInt_toInt _)
  rw [List.map_cons, e] at K
  exact K
theorem ar_ixor {x y : Int} (hd : M.2.2.2.2[k]? = some (pc, .ixor, nx, tg))  (kk : tw_AW l G M d mc ms n0 c2 P nx ls (vi (bXor x y) :: st) h) : tw_AW l G M d mc ms n0 c2 P pc ls (vi y :: vi x :: st) h := by
  intro p e s m args below meth c H locs ls' X hl hP hS h0 hn
  obtain ⟨dd, e1⟩ := tw_dec X hd rfl
  subst e1
  have K := kk p e s m args below meth c H locs ls' X hl hP hS h0 hn
  refine lv_ixor X.1 X.2.1 dd ?_
  have e : tw_v G (vi (bXor x y)) = .int _ := congrArg Value.int (Int32.ofInt_toInt _)
  rw [List.map_cons, e] at K
  exact K
theorem ar_ishl {x y : Int} (hd : M.2.2.2.2[k]? = some (pc, .ishl, nx, tg))  (kk : tw_AW l G M d mc ms n0 c2 P nx ls (vi (bShl x y) :: st) h) : tw_AW l G M d mc ms n0 c2 P pc ls (vi y :: vi x :: st) h := by
  intro p e s m args below meth c H locs ls' X hl hP hS h0 hn
  obtain ⟨dd, e1⟩ := tw_dec X hd rfl
  subst e1
  have K := kk p e s m args below meth c H locs ls' X hl hP hS h0 hn
  refine lv_ishl X.1 X.2.1 dd ?_
  have e : tw_v G (vi (bShl x y)) = .int _ := congrArg Value.int (Int32.ofInt_toInt _)
  rw [List.map_cons, e] at K
  exact K
theorem ar_ishr {x y : Int} (hd : M.2.2.2.2[k]? = some (pc, .ishr, nx, tg))  (kk : tw_AW l G M d mc ms n0 c2 P nx ls (vi (bShr x y) :: st) h) : tw_AW l G M d mc ms n0 c2 P pc ls (vi y :: vi x :: st) h := by
  intro p e s m args below meth c H locs ls' X hl hP hS h0 hn
  obtain ⟨dd, e1⟩ := tw_dec X hd rfl
  subst e1
  have K := kk p e s m args below meth c H locs ls' X hl hP hS h0 hn
  refine lv_ishr X.1 X.2.1 dd ?_
  have e : tw_v G (vi (bShr x y)) = .int _ := congrArg Value.int (Int32.ofInt_toInt _)
  rw [List.map_cons, e] at K
  exact K
theorem ar_iushr {x y : Int} (hd : M.2.2.2.2[k]? = some (pc, .iushr, nx, tg))  (kk : tw_AW l G M d mc ms n0 c2 P nx ls (vi (bUsh x y) :: st) h) : tw_AW l G M d mc ms n0 c2 P pc ls (vi y :: vi x :: st) h := by
  intro p e s m args below meth c H locs ls' X hl hP hS h0 hn
  obtain ⟨dd, e1⟩ := tw_dec X hd rfl
  subst e1
  have K := kk p e s m args below meth c H locs ls' X hl hP hS h0 hn
  refine lv_iushr X.1 X.2.1 dd rfl ?_
  have e : tw_v G (vi (bUsh x y)) = .int _ := congrArg Value.int (Int32.ofInt_toInt _)
  rw [List.map_cons, e] at K
  exact K
theorem ar_ineg {x : Int} (hd : M.2.2.2.2[k]? = some (pc, .ineg, nx, tg))  (kk : tw_AW l G M d mc ms n0 c2 P nx ls (vi (-x) :: st) h) : tw_AW l G M d mc ms n0 c2 P pc ls (vi x :: st) h := by
  intro p e s m args below meth c H locs ls' X hl hP hS h0 hn
  obtain ⟨dd, e1⟩ := tw_dec X hd rfl
  subst e1
  have K := kk p e s m args below meth c H locs ls' X hl hP hS h0 hn
  refine lv_ineg X.1 X.2.1 dd ?_
  rw [← Int32.ofInt_neg]
  exact K
theorem ar_idiv {x y : Int} (hd : M.2.2.2.2[k]? = some (pc, .idiv, nx, tg)) (hx : tr x) (hy : tr y) (hne : y ≠ 0) (kk : tw_AW l G M d mc ms n0 c2 P nx ls (vi (x.tdiv y) :: st) h) : tw_AW l G M d mc ms n0 c2 P pc ls (vi y :: vi x :: st) h := by
  intro p e s m args below meth c H locs ls' X hl hP hS h0 hn
  obtain ⟨dd, e1⟩ := tw_dec X hd rfl
  subst e1
  have K := kk p e s m args below meth c H locs ls' X hl hP hS h0 hn
  refine lv_idiv X.1 X.2.1 dd (fun q => hne ((tr_0 hy).mp q)) ?_
  rw [← Int32.ofInt_tdiv (tr_min hx) (tr_max hx) (tr_min hy) (tr_max hy)]
  exact K
theorem ar_irem {x y : Int} (hd : M.2.2.2.2[k]? = some (pc, .irem, nx, tg)) (hx : tr x) (hy : tr y) (hne : y ≠ 0) (kk : tw_AW l G M d mc ms n0 c2 P nx ls (vi (x.tmod y) :: st) h) : tw_AW l G M d mc ms n0 c2 P pc ls (vi y :: vi x :: st) h := by
  intro p e s m args below meth c H locs ls' X hl hP hS h0 hn
  obtain ⟨dd, e1⟩ := tw_dec X hd rfl
  subst e1
  have K := kk p e s m args below meth c H locs ls' X hl hP hS h0 hn
  refine lv_irem X.1 X.2.1 dd (fun q => hne ((tr_0 hy).mp q)) ?_
  rw [← Int32.ofInt_tdiv (tr_min hx) (tr_max hx) (tr_min hy) (tr_max hy), ← Int32.ofInt_mul, ← Int32.ofInt_sub, show x - x.tdiv y * y = x.tmod y by rw [Int.tmod_def, Int.mul_comm]]
  exact K
abbrev tr6 (z : Int) : Prop := -9223372036854775808 ≤ z ∧ z ≤ 9223372036854775807
theorem tr6_id {z : Int} (h : tr6 z) : (Int64.ofInt z).toInt = z := Int64.toInt_ofInt_of_le (by have := h.1; omega) (by have := h.2; omega)
theorem tr6_eq {x y : Int} (hx : tr6 x) (hy : tr6 y) : Int64.ofInt x = Int64.ofInt y ↔ x = y := by
  rw [← Int64.toInt_inj, tr6_id hx, tr6_id hy]
theorem ar_lsub {x y : Int} (hd : M.2.2.2.2[k]? = some (pc, .lsub, nx, tg))  (kk : tw_AW l G M d mc ms n0 c2 P nx ls (vl (x - y) :: st) h) : tw_AW l G M d mc ms n0 c2 P pc ls (vl y :: vl x :: st) h := by
  intro p e s m args below meth c H locs ls' X hl hP hS h0 hn
  obtain ⟨dd, e1⟩ := tw_dec X hd rfl
  subst e1
  have K := kk p e s m args below meth c H locs ls' X hl hP hS h0 hn
  refine lv_lsub X.1 X.2.1 dd ?_
  rw [← Int64.ofInt_sub]
  exact K
theorem ar_lmul {x y : Int} (hd : M.2.2.2.2[k]? = some (pc, .lmul, nx, tg))  (kk : tw_AW l G M d mc ms n0 c2 P nx ls (vl (x * y) :: st) h) : tw_AW l G M d mc ms n0 c2 P pc ls (vl y :: vl x :: st) h := by
  intro p e s m args below meth c H locs ls' X hl hP hS h0 hn
  obtain ⟨dd, e1⟩ := tw_dec X hd rfl
  subst e1
  have K := kk p e s m args below meth c H locs ls' X hl hP hS h0 hn
  refine lv_lmul X.1 X.2.1 dd ?_
  rw [← Int64.ofInt_mul]
  exact K
theorem ar_ldiv {x y : Int} (hd : M.2.2.2.2[k]? = some (pc, .ldiv, nx, tg)) (hx : tr6 x) (hy : tr6 y) (hne : y ≠ 0) (kk : tw_AW l G M d mc ms n0 c2 P nx ls (vl (x.tdiv y) :: st) h) : tw_AW l G M d mc ms n0 c2 P pc ls (vl y :: vl x :: st) h := by
  intro p e s m args below meth c H locs ls' X hl hP hS h0 hn
  obtain ⟨dd, e1⟩ := tw_dec X hd rfl
  subst e1
  have K := kk p e s m args below meth c H locs ls' X hl hP hS h0 hn
  refine lv_ldiv X.1 X.2.1 dd (fun q => hne ((tr6_eq hy (by decide : tr6 0)).mp q)) ?_
  rw [← Int64.ofInt_tdiv hx.1 hx.2 hy.1 hy.2]
  exact K
theorem ar_lrem {x y : Int} (hd : M.2.2.2.2[k]? = some (pc, .lrem, nx, tg)) (hx : tr6 x) (hy : tr6 y) (hne : y ≠ 0) (kk : tw_AW l G M d mc ms n0 c2 P nx ls (vl (x.tmod y) :: st) h) : tw_AW l G M d mc ms n0 c2 P pc ls (vl y :: vl x :: st) h := by
  intro p e s m args below meth c H locs ls' X hl hP hS h0 hn
  obtain ⟨dd, e1⟩ := tw_dec X hd rfl
  subst e1
  have K := kk p e s m args below meth c H locs ls' X hl hP hS h0 hn
  refine lv_lrem X.1 X.2.1 dd (fun q => hne ((tr6_eq hy (by decide : tr6 0)).mp q)) ?_
  rw [← Int64.ofInt_tdiv hx.1 hx.2 hy.1 hy.2, ← Int64.ofInt_mul, ← Int64.ofInt_sub, show x - x.tdiv y * y = x.tmod y by rw [Int.tmod_def, Int.mul_comm]]
  exact K
theorem ar_i2l {x : Int} (hd : M.2.2.2.2[k]? = some (pc, .i2l, nx, tg)) (hx : tr x) (kk : tw_AW l G M d mc ms n0 c2 P nx ls (vl x :: st) h) : tw_AW l G M d mc ms n0 c2 P pc ls (vi x :: st) h := by
  intro p e s m args below meth c H locs ls' X hl hP hS h0 hn
  obtain ⟨dd, e1⟩ := tw_dec X hd rfl
  subst e1
  have K := kk p e s m args below meth c H locs ls' X hl hP hS h0 hn
  exact lv_i2l X.1 X.2.1 dd (Int32.toInt64_ofInt (tr_min hx) (tr_max hx)) K
theorem ar_i2b {x : Int} (hd : M.2.2.2.2[k]? = some (pc, .i2b, nx, tg)) (hx : -128 ≤ x ∧ x ≤ 127) (kk : tw_AW l G M d mc ms n0 c2 P nx ls (vi x :: st) h) : tw_AW l G M d mc ms n0 c2 P pc ls (vi x :: st) h := by
  intro p e s m args below meth c H locs ls' X hl hP hS h0 hn
  obtain ⟨dd, e1⟩ := tw_dec X hd rfl
  subst e1
  have K := kk p e s m args below meth c H locs ls' X hl hP hS h0 hn
  exact lv_i2b X.1 X.2.1 dd (tr_b hx) K
theorem ar_i2c {x : Int} (hd : M.2.2.2.2[k]? = some (pc, .i2c, nx, tg)) (hx : 0 ≤ x ∧ x ≤ 65535) (kk : tw_AW l G M d mc ms n0 c2 P nx ls (vi x :: st) h) : tw_AW l G M d mc ms n0 c2 P pc ls (vi x :: st) h := by
  intro p e s m args below meth c H locs ls' X hl hP hS h0 hn
  obtain ⟨dd, e1⟩ := tw_dec X hd rfl
  subst e1
  have K := kk p e s m args below meth c H locs ls' X hl hP hS h0 hn
  exact lv_i2c X.1 X.2.1 dd (tr_c hx) K
theorem ar_dup {v : tV} (hd : M.2.2.2.2[k]? = some (pc, .dup, nx, tg)) (hv : tw_w v = 1) (kk : tw_AW l G M d mc ms n0 c2 P nx ls (v :: v :: st) h) : tw_AW l G M d mc ms n0 c2 P pc ls (v :: st) h := by
  intro p e s m args below meth c H locs ls' X hl hP hS h0 hn
  obtain ⟨dd, e1⟩ := tw_dec X hd rfl
  subst e1
  have K := kk p e s m args below meth c H locs ls' X hl hP hS h0 hn
  exact lv_dup X.1 X.2.1 dd ((tw_v_cat G v).trans hv) K
theorem ar_pop {v : tV} (hd : M.2.2.2.2[k]? = some (pc, .pop, nx, tg)) (hv : tw_w v = 1) (kk : tw_AW l G M d mc ms n0 c2 P nx ls (st) h) : tw_AW l G M d mc ms n0 c2 P pc ls (v :: st) h := by
  intro p e s m args below meth c H locs ls' X hl hP hS h0 hn
  obtain ⟨dd, e1⟩ := tw_dec X hd rfl
  subst e1
  have K := kk p e s m args below meth c H locs ls' X hl hP hS h0 hn
  exact lv_pop X.1 X.2.1 dd ((tw_v_cat G v).trans hv) K
theorem ar_dup2 {u v : tV} (hd : M.2.2.2.2[k]? = some (pc, .dup2, nx, tg)) (hu : tw_w u = 1) (hv : tw_w v = 1) (kk : tw_AW l G M d mc ms n0 c2 P nx ls (u :: v :: u :: v :: st) h) : tw_AW l G M d mc ms n0 c2 P pc ls (u :: v :: st) h := by
  intro p e s m args below meth c H locs ls' X hl hP hS h0 hn
  obtain ⟨dd, e1⟩ := tw_dec X hd rfl
  subst e1
  have K := kk p e s m args below meth c H locs ls' X hl hP hS h0 hn
  exact lv_dup2_11 X.1 X.2.1 dd ((tw_v_cat G u).trans hu) ((tw_v_cat G v).trans hv) K
theorem ar_icmp_eq {off : Int} {x y : Int} (hd : M.2.2.2.2[k]? = some (pc, .if_icmp .eq off, nx, tg)) (hx : tr x) (hy : tr y) (kt : x = y → tw_AW l G M d mc ms n0 c2 P tg ls st h) (kf : ¬ (x = y) → tw_AW l G M d mc ms n0 c2 P nx ls st h) : tw_AW l G M d mc ms n0 c2 P pc ls (vi y :: vi x :: st) h := by
  intro p e s m args below meth c H locs ls' X hl hP hS h0 hn
  obtain ⟨dd, e1⟩ := tw_dec X hd rfl
  subst e1
  refine lv_icmp_eq X.1 X.2.1 dd (tw_tgt X hd rfl) (fun q => ?_) (fun q => ?_)
  · refine kt ?_ p e s m args below meth c H locs ls' X hl hP hS h0 hn
    first | exact (tr_eq hx hy).mp q | exact fun z => q ((tr_eq hx hy).mpr z) | exact (tr_lt hx hy).mp q | exact (tr_le hx hy).mp q | exact (tr_lt hy hx).mp q | exact (tr_le hy hx).mp q
  · refine kf ?_ p e s m args below meth c H locs ls' X hl hP hS h0 hn
    intro z
    first | exact q ((tr_eq hx hy).mpr z) | exact q (fun w => z ((tr_eq hx hy).mp w)) | exact z ((tr_eq hx hy).mp q) | exact q ((tr_lt hx hy).mpr z) | exact q ((tr_le hx hy).mpr z) | exact q ((tr_lt hy hx).mpr z) | exact q ((tr_le hy hx).mpr z)
theorem ar_if_eq {off : Int} {x : Int} (hd : M.2.2.2.2[k]? = some (pc, .ifCond .eq off, nx, tg)) (hx : tr x) (kt : x = 0 → tw_AW l G M d mc ms n0 c2 P tg ls st h) (kf : ¬ (x = 0) → tw_AW l G M d mc ms n0 c2 P nx ls st h) : tw_AW l G M d mc ms n0 c2 P pc ls (vi x :: st) h := by
  intro p e s m args below meth c H locs ls' X hl hP hS h0 hn
  obtain ⟨dd, e1⟩ := tw_dec X hd rfl
  subst e1
  have hy : tr 0 := by decide
  refine lv_if_eq X.1 X.2.1 dd (tw_tgt X hd rfl) (fun q => ?_) (fun q => ?_)
  · refine kt ?_ p e s m args below meth c H locs ls' X hl hP hS h0 hn
    first | exact (tr_eq hx hy).mp q | exact fun z => q ((tr_eq hx hy).mpr z) | exact (tr_lt hx hy).mp q | exact (tr_le hx hy).mp q | exact (tr_lt hy hx).mp q | exact (tr_le hy hx).mp q
  · refine kf ?_ p e s m args below meth c H locs ls' X hl hP hS h0 hn
    intro z
    first | exact q ((tr_eq hx hy).mpr z) | exact q (fun w => z ((tr_eq hx hy).mp w)) | exact z ((tr_eq hx hy).mp q) | exact q ((tr_lt hx hy).mpr z) | exact q ((tr_le hx hy).mpr z) | exact q ((tr_lt hy hx).mpr z) | exact q ((tr_le hy hx).mpr z)
theorem ar_icmp_ne {off : Int} {x y : Int} (hd : M.2.2.2.2[k]? = some (pc, .if_icmp .ne off, nx, tg)) (hx : tr x) (hy : tr y) (kt : x ≠ y → tw_AW l G M d mc ms n0 c2 P tg ls st h) (kf : ¬ (x ≠ y) → tw_AW l G M d mc ms n0 c2 P nx ls st h) : tw_AW l G M d mc ms n0 c2 P pc ls (vi y :: vi x :: st) h := by
  intro p e s m args below meth c H locs ls' X hl hP hS h0 hn
  obtain ⟨dd, e1⟩ := tw_dec X hd rfl
  subst e1
  refine lv_icmp_ne X.1 X.2.1 dd (tw_tgt X hd rfl) (fun q => ?_) (fun q => ?_)
  · refine kt ?_ p e s m args below meth c H locs ls' X hl hP hS h0 hn
    first | exact (tr_eq hx hy).mp q | exact fun z => q ((tr_eq hx hy).mpr z) | exact (tr_lt hx hy).mp q | exact (tr_le hx hy).mp q | exact (tr_lt hy hx).mp q | exact (tr_le hy hx).mp q
  · refine kf ?_ p e s m args below meth c H locs ls' X hl hP hS h0 hn
    intro z
    first | exact q ((tr_eq hx hy).mpr z) | exact q (fun w => z ((tr_eq hx hy).mp w)) | exact z ((tr_eq hx hy).mp q) | exact q ((tr_lt hx hy).mpr z) | exact q ((tr_le hx hy).mpr z) | exact q ((tr_lt hy hx).mpr z) | exact q ((tr_le hy hx).mpr z)
theorem ar_if_ne {off : Int} {x : Int} (hd : M.2.2.2.2[k]? = some (pc, .ifCond .ne off, nx, tg)) (hx : tr x) (kt : x ≠ 0 → tw_AW l G M d mc ms n0 c2 P tg ls st h) (kf : ¬ (x ≠ 0) → tw_AW l G M d mc ms n0 c2 P nx ls st h) : tw_AW l G M d mc ms n0 c2 P pc ls (vi x :: st) h := by
  intro p e s m args below meth c H locs ls' X hl hP hS h0 hn
  obtain ⟨dd, e1⟩ := tw_dec X hd rfl
  subst e1
  have hy : tr 0 := by decide
  refine lv_if_ne X.1 X.2.1 dd (tw_tgt X hd rfl) (fun q => ?_) (fun q => ?_)
  · refine kt ?_ p e s m args below meth c H locs ls' X hl hP hS h0 hn
    first | exact (tr_eq hx hy).mp q | exact fun z => q ((tr_eq hx hy).mpr z) | exact (tr_lt hx hy).mp q | exact (tr_le hx hy).mp q | exact (tr_lt hy hx).mp q | exact (tr_le hy hx).mp q
  · refine kf ?_ p e s m args below meth c H locs ls' X hl hP hS h0 hn
    intro z
    first | exact q ((tr_eq hx hy).mpr z) | exact q (fun w => z ((tr_eq hx hy).mp w)) | exact z ((tr_eq hx hy).mp q) | exact q ((tr_lt hx hy).mpr z) | exact q ((tr_le hx hy).mpr z) | exact q ((tr_lt hy hx).mpr z) | exact q ((tr_le hy hx).mpr z)
theorem ar_icmp_lt {off : Int} {x y : Int} (hd : M.2.2.2.2[k]? = some (pc, .if_icmp .lt off, nx, tg)) (hx : tr x) (hy : tr y) (kt : x < y → tw_AW l G M d mc ms n0 c2 P tg ls st h) (kf : ¬ (x < y) → tw_AW l G M d mc ms n0 c2 P nx ls st h) : tw_AW l G M d mc ms n0 c2 P pc ls (vi y :: vi x :: st) h := by
  intro p e s m args below meth c H locs ls' X hl hP hS h0 hn
  obtain ⟨dd, e1⟩ := tw_dec X hd rfl
  subst e1
  refine lv_icmp_lt X.1 X.2.1 dd (tw_tgt X hd rfl) (fun q => ?_) (fun q => ?_)
  · refine kt ?_ p e s m args below meth c H locs ls' X hl hP hS h0 hn
    first | exact (tr_eq hx hy).mp q | exact fun z => q ((tr_eq hx hy).mpr z) | exact (tr_lt hx hy).mp q | exact (tr_le hx hy).mp q | exact (tr_lt hy hx).mp q | exact (tr_le hy hx).mp q
  · refine kf ?_ p e s m args below meth c H locs ls' X hl hP hS h0 hn
    intro z
    first | exact q ((tr_eq hx hy).mpr z) | exact q (fun w => z ((tr_eq hx hy).mp w)) | exact z ((tr_eq hx hy).mp q) | exact q ((tr_lt hx hy).mpr z) | exact q ((tr_le hx hy).mpr z) | exact q ((tr_lt hy hx).mpr z) | exact q ((tr_le hy hx).mpr z)
theorem ar_if_lt {off : Int} {x : Int} (hd : M.2.2.2.2[k]? = some (pc, .ifCond .lt off, nx, tg)) (hx : tr x) (kt : x < 0 → tw_AW l G M d mc ms n0 c2 P tg ls st h) (kf : ¬ (x < 0) → tw_AW l G M d mc ms n0 c2 P nx ls st h) : tw_AW l G M d mc ms n0 c2 P pc ls (vi x :: st) h := by
  intro p e s m args below meth c H locs ls' X hl hP hS h0 hn
  obtain ⟨dd, e1⟩ := tw_dec X hd rfl
  subst e1
  have hy : tr 0 := by decide
  refine lv_if_lt X.1 X.2.1 dd (tw_tgt X hd rfl) (fun q => ?_) (fun q => ?_)
  · refine kt ?_ p e s m args below meth c H locs ls' X hl hP hS h0 hn
    first | exact (tr_eq hx hy).mp q | exact fun z => q ((tr_eq hx hy).mpr z) | exact (tr_lt hx hy).mp q | exact (tr_le hx hy).mp q | exact (tr_lt hy hx).mp q | exact (tr_le hy hx).mp q
  · refine kf ?_ p e s m args below meth c H locs ls' X hl hP hS h0 hn
    intro z
    first | exact q ((tr_eq hx hy).mpr z) | exact q (fun w => z ((tr_eq hx hy).mp w)) | exact z ((tr_eq hx hy).mp q) | exact q ((tr_lt hx hy).mpr z) | exact q ((tr_le hx hy).mpr z) | exact q ((tr_lt hy hx).mpr z) | exact q ((tr_le hy hx).mpr z)
theorem ar_icmp_ge {off : Int} {x y : Int} (hd : M.2.2.2.2[k]? = some (pc, .if_icmp .ge off, nx, tg)) (hx : tr x) (hy : tr y) (kt : y ≤ x → tw_AW l G M d mc ms n0 c2 P tg ls st h) (kf : ¬ (y ≤ x) → tw_AW l G M d mc ms n0 c2 P nx ls st h) : tw_AW l G M d mc ms n0 c2 P pc ls (vi y :: vi x :: st) h := by
  intro p e s m args below meth c H locs ls' X hl hP hS h0 hn
  obtain ⟨dd, e1⟩ := tw_dec X hd rfl
  subst e1
  refine lv_icmp_ge X.1 X.2.1 dd (tw_tgt X hd rfl) (fun q => ?_) (fun q => ?_)
  · refine kt ?_ p e s m args below meth c H locs ls' X hl hP hS h0 hn
    first | exact (tr_eq hx hy).mp q | exact fun z => q ((tr_eq hx hy).mpr z) | exact (tr_lt hx hy).mp q | exact (tr_le hx hy).mp q | exact (tr_lt hy hx).mp q | exact (tr_le hy hx).mp q
  · refine kf ?_ p e s m args below meth c H locs ls' X hl hP hS h0 hn
    intro z
    first | exact q ((tr_eq hx hy).mpr z) | exact q (fun w => z ((tr_eq hx hy).mp w)) | exact z ((tr_eq hx hy).mp q) | exact q ((tr_lt hx hy).mpr z) | exact q ((tr_le hx hy).mpr z) | exact q ((tr_lt hy hx).mpr z) | exact q ((tr_le hy hx).mpr z)
theorem ar_if_ge {off : Int} {x : Int} (hd : M.2.2.2.2[k]? = some (pc, .ifCond .ge off, nx, tg)) (hx : tr x) (kt : 0 ≤ x → tw_AW l G M d mc ms n0 c2 P tg ls st h) (kf : ¬ (0 ≤ x) → tw_AW l G M d mc ms n0 c2 P nx ls st h) : tw_AW l G M d mc ms n0 c2 P pc ls (vi x :: st) h := by
  intro p e s m args below meth c H locs ls' X hl hP hS h0 hn
  obtain ⟨dd, e1⟩ := tw_dec X hd rfl
  subst e1
  have hy : tr 0 := by decide
  refine lv_if_ge X.1 X.2.1 dd (tw_tgt X hd rfl) (fun q => ?_) (fun q => ?_)
  · refine kt ?_ p e s m args below meth c H locs ls' X hl hP hS h0 hn
    first | exact (tr_eq hx hy).mp q | exact fun z => q ((tr_eq hx hy).mpr z) | exact (tr_lt hx hy).mp q | exact (tr_le hx hy).mp q | exact (tr_lt hy hx).mp q | exact (tr_le hy hx).mp q
  · refine kf ?_ p e s m args below meth c H locs ls' X hl hP hS h0 hn
    intro z
    first | exact q ((tr_eq hx hy).mpr z) | exact q (fun w => z ((tr_eq hx hy).mp w)) | exact z ((tr_eq hx hy).mp q) | exact q ((tr_lt hx hy).mpr z) | exact q ((tr_le hx hy).mpr z) | exact q ((tr_lt hy hx).mpr z) | exact q ((tr_le hy hx).mpr z)
theorem ar_icmp_gt {off : Int} {x y : Int} (hd : M.2.2.2.2[k]? = some (pc, .if_icmp .gt off, nx, tg)) (hx : tr x) (hy : tr y) (kt : y < x → tw_AW l G M d mc ms n0 c2 P tg ls st h) (kf : ¬ (y < x) → tw_AW l G M d mc ms n0 c2 P nx ls st h) : tw_AW l G M d mc ms n0 c2 P pc ls (vi y :: vi x :: st) h := by
  intro p e s m args below meth c H locs ls' X hl hP hS h0 hn
  obtain ⟨dd, e1⟩ := tw_dec X hd rfl
  subst e1
  refine lv_icmp_gt X.1 X.2.1 dd (tw_tgt X hd rfl) (fun q => ?_) (fun q => ?_)
  · refine kt ?_ p e s m args below meth c H locs ls' X hl hP hS h0 hn
    first | exact (tr_eq hx hy).mp q | exact fun z => q ((tr_eq hx hy).mpr z) | exact (tr_lt hx hy).mp q | exact (tr_le hx hy).mp q | exact (tr_lt hy hx).mp q | exact (tr_le hy hx).mp q
  · refine kf ?_ p e s m args below meth c H locs ls' X hl hP hS h0 hn
    intro z
    first | exact q ((tr_eq hx hy).mpr z) | exact q (fun w => z ((tr_eq hx hy).mp w)) | exact z ((tr_eq hx hy).mp q) | exact q ((tr_lt hx hy).mpr z) | exact q ((tr_le hx hy).mpr z) | exact q ((tr_lt hy hx).mpr z) | exact q ((tr_le hy hx).mpr z)
theorem ar_if_gt {off : Int} {x : Int} (hd : M.2.2.2.2[k]? = some (pc, .ifCond .gt off, nx, tg)) (hx : tr x) (kt : 0 < x → tw_AW l G M d mc ms n0 c2 P tg ls st h) (kf : ¬ (0 < x) → tw_AW l G M d mc ms n0 c2 P nx ls st h) : tw_AW l G M d mc ms n0 c2 P pc ls (vi x :: st) h := by
  intro p e s m args below meth c H locs ls' X hl hP hS h0 hn
  obtain ⟨dd, e1⟩ := tw_dec X hd rfl
  subst e1
  have hy : tr 0 := by decide
  refine lv_if_gt X.1 X.2.1 dd (tw_tgt X hd rfl) (fun q => ?_) (fun q => ?_)
  · refine kt ?_ p e s m args below meth c H locs ls' X hl hP hS h0 hn
    first | exact (tr_eq hx hy).mp q | exact fun z => q ((tr_eq hx hy).mpr z) | exact (tr_lt hx hy).mp q | exact (tr_le hx hy).mp q | exact (tr_lt hy hx).mp q | exact (tr_le hy hx).mp q
  · refine kf ?_ p e s m args below meth c H locs ls' X hl hP hS h0 hn
    intro z
    first | exact q ((tr_eq hx hy).mpr z) | exact q (fun w => z ((tr_eq hx hy).mp w)) | exact z ((tr_eq hx hy).mp q) | exact q ((tr_lt hx hy).mpr z) | exact q ((tr_le hx hy).mpr z) | exact q ((tr_lt hy hx).mpr z) | exact q ((tr_le hy hx).mpr z)
theorem ar_icmp_le {off : Int} {x y : Int} (hd : M.2.2.2.2[k]? = some (pc, .if_icmp .le off, nx, tg)) (hx : tr x) (hy : tr y) (kt : x ≤ y → tw_AW l G M d mc ms n0 c2 P tg ls st h) (kf : ¬ (x ≤ y) → tw_AW l G M d mc ms n0 c2 P nx ls st h) : tw_AW l G M d mc ms n0 c2 P pc ls (vi y :: vi x :: st) h := by
  intro p e s m args below meth c H locs ls' X hl hP hS h0 hn
  obtain ⟨dd, e1⟩ := tw_dec X hd rfl
  subst e1
  refine lv_icmp_le X.1 X.2.1 dd (tw_tgt X hd rfl) (fun q => ?_) (fun q => ?_)
  · refine kt ?_ p e s m args below meth c H locs ls' X hl hP hS h0 hn
    first | exact (tr_eq hx hy).mp q | exact fun z => q ((tr_eq hx hy).mpr z) | exact (tr_lt hx hy).mp q | exact (tr_le hx hy).mp q | exact (tr_lt hy hx).mp q | exact (tr_le hy hx).mp q
  · refine kf ?_ p e s m args below meth c H locs ls' X hl hP hS h0 hn
    intro z
    first | exact q ((tr_eq hx hy).mpr z) | exact q (fun w => z ((tr_eq hx hy).mp w)) | exact z ((tr_eq hx hy).mp q) | exact q ((tr_lt hx hy).mpr z) | exact q ((tr_le hx hy).mpr z) | exact q ((tr_lt hy hx).mpr z) | exact q ((tr_le hy hx).mpr z)
theorem ar_if_le {off : Int} {x : Int} (hd : M.2.2.2.2[k]? = some (pc, .ifCond .le off, nx, tg)) (hx : tr x) (kt : x ≤ 0 → tw_AW l G M d mc ms n0 c2 P tg ls st h) (kf : ¬ (x ≤ 0) → tw_AW l G M d mc ms n0 c2 P nx ls st h) : tw_AW l G M d mc ms n0 c2 P pc ls (vi x :: st) h := by
  intro p e s m args below meth c H locs ls' X hl hP hS h0 hn
  obtain ⟨dd, e1⟩ := tw_dec X hd rfl
  subst e1
  have hy : tr 0 := by decide
  refine lv_if_le X.1 X.2.1 dd (tw_tgt X hd rfl) (fun q => ?_) (fun q => ?_)
  · refine kt ?_ p e s m args below meth c H locs ls' X hl hP hS h0 hn
    first | exact (tr_eq hx hy).mp q | exact fun z => q ((tr_eq hx hy).mpr z) | exact (tr_lt hx hy).mp q | exact (tr_le hx hy).mp q | exact (tr_lt hy hx).mp q | exact (tr_le hy hx).mp q
  · refine kf ?_ p e s m args below meth c H locs ls' X hl hP hS h0 hn
    intro z
    first | exact q ((tr_eq hx hy).mpr z) | exact q (fun w => z ((tr_eq hx hy).mp w)) | exact z ((tr_eq hx hy).mp q) | exact q ((tr_lt hx hy).mpr z) | exact q ((tr_le hx hy).mpr z) | exact q ((tr_lt hy hx).mpr z) | exact q ((tr_le hy hx).mpr z)
theorem ar_goto {off : Int} (hd : M.2.2.2.2[k]? = some (pc, .goto off, nx, tg)) (kk : tw_AW l G M d mc ms n0 c2 P tg ls st h) : tw_AW l G M d mc ms n0 c2 P pc ls st h := by
  intro p e s m args below meth c H locs ls' X hl hP hS h0 hn
  obtain ⟨dd, e1⟩ := tw_dec X hd rfl
  subst e1
  exact lv_goto X.1 X.2.1 dd (tw_tgt X hd rfl) (kk p e s m args below meth c H locs ls' X hl hP hS h0 hn)
theorem ar_ifnull {off : Int} {r : Option Nat} (hd : M.2.2.2.2[k]? = some (pc, .ifnull off, nx, tg)) (kt : r = none → tw_AW l G M d mc ms n0 c2 P tg ls st h) (kf : ∀ a, r = some a → tw_AW l G M d mc ms n0 c2 P nx ls st h) : tw_AW l G M d mc ms n0 c2 P pc ls (vr r :: st) h := by
  intro p e s m args below meth c H locs ls' X hl hP hS h0 hn
  obtain ⟨dd, e1⟩ := tw_dec X hd rfl
  subst e1
  cases r with
  | none => exact lv_ifnullN X.1 X.2.1 dd (tw_tgt X hd rfl) (kt rfl p e s m args below meth c H locs ls' X hl hP hS h0 hn)
  | some a => exact lv_ifnull X.1 X.2.1 dd (kf a rfl p e s m args below meth c H locs ls' X hl hP hS h0 hn)
theorem ar_ifnonnull {off : Int} {r : Option Nat} (hd : M.2.2.2.2[k]? = some (pc, .ifnonnull off, nx, tg)) (kt : ∀ a, r = some a → tw_AW l G M d mc ms n0 c2 P tg ls st h) (kf : r = none → tw_AW l G M d mc ms n0 c2 P nx ls st h) : tw_AW l G M d mc ms n0 c2 P pc ls (vr r :: st) h := by
  intro p e s m args below meth c H locs ls' X hl hP hS h0 hn
  obtain ⟨dd, e1⟩ := tw_dec X hd rfl
  subst e1
  cases r with
  | none => exact lv_ifnonnullN X.1 X.2.1 dd (kf rfl p e s m args below meth c H locs ls' X hl hP hS h0 hn)
  | some a => exact lv_ifnonnull X.1 X.2.1 dd (tw_tgt X hd rfl) (kt a rfl p e s m args below meth c H locs ls' X hl hP hS h0 hn)
end AR
end
section
theorem n_0 : ∀ a, a < 4 → ∀ b, b < 4 → a ≠ b → (T_0 a).2.1 ≠ (T_0 b).2.1 := by decide +kernel
theorem ty_0 : ∀ k, k < 4 → parseFieldDescriptor (T_0 k).2.2.1 = some (t_0 k) := by decide +kernel
theorem i_0 : ∀ w ∈ u_ws "TwinTools$Bell" T_0 4, w ∈ tw_tbl := by
  have h : (u_ws "TwinTools$Bell" T_0 4) = ([578, 580, 582, 584] : List Nat).filterMap (fun i => lw_tbl[i]?) := by decide +kernel
  have g : (u_ws "TwinTools$Bell" T_0 4).all goodWord = true := by decide +kernel
  intro w hw
  have g1 := List.all_eq_true.mp g w hw
  rw [h] at hw
  obtain ⟨i, -, hi⟩ := List.mem_filterMap.mp hw
  exact tw_in i hi g1
theorem in_0 : Cond.instantiable "TwinTools$Bell" 4 ∈ tw_tbl := tw_in 542 (by decide +kernel) rfl
theorem iz_0 : Cond.initialized "TwinTools$Bell" ∈ tw_tbl := tw_in 84 (by decide +kernel) rfl
theorem n_1 : ∀ a, a < 4 → ∀ b, b < 4 → a ≠ b → (T_1 a).2.1 ≠ (T_1 b).2.1 := by decide +kernel
theorem ty_1 : ∀ k, k < 4 → parseFieldDescriptor (T_1 k).2.2.1 = some (t_1 k) := by decide +kernel
theorem i_1 : ∀ w ∈ u_ws "TwinTools$Guessing" T_1 4, w ∈ tw_tbl := by
  have h : (u_ws "TwinTools$Guessing" T_1 4) = ([604, 605, 606, 607] : List Nat).filterMap (fun i => lw_tbl[i]?) := by decide +kernel
  have g : (u_ws "TwinTools$Guessing" T_1 4).all goodWord = true := by decide +kernel
  intro w hw
  have g1 := List.all_eq_true.mp g w hw
  rw [h] at hw
  obtain ⟨i, -, hi⟩ := List.mem_filterMap.mp hw
  exact tw_in i hi g1
theorem in_1 : Cond.instantiable "TwinTools$Guessing" 4 ∈ tw_tbl := tw_in 599 (by decide +kernel) rfl
theorem iz_1 : Cond.initialized "TwinTools$Guessing" ∈ tw_tbl := tw_in 86 (by decide +kernel) rfl
theorem n_2 : ∀ a, a < 4 → ∀ b, b < 4 → a ≠ b → (T_2 a).2.1 ≠ (T_2 b).2.1 := by decide +kernel
theorem ty_2 : ∀ k, k < 4 → parseFieldDescriptor (T_2 k).2.2.1 = some (t_2 k) := by decide +kernel
theorem i_2 : ∀ w ∈ u_ws "TwinTools$Hand" T_2 4, w ∈ tw_tbl := by
  have h : (u_ws "TwinTools$Hand" T_2 4) = ([645, 646, 647, 648] : List Nat).filterMap (fun i => lw_tbl[i]?) := by decide +kernel
  have g : (u_ws "TwinTools$Hand" T_2 4).all goodWord = true := by decide +kernel
  intro w hw
  have g1 := List.all_eq_true.mp g w hw
  rw [h] at hw
  obtain ⟨i, -, hi⟩ := List.mem_filterMap.mp hw
  exact tw_in i hi g1
theorem in_2 : Cond.instantiable "TwinTools$Hand" 4 ∈ tw_tbl := tw_in 643 (by decide +kernel) rfl
theorem iz_2 : Cond.initialized "TwinTools$Hand" ∈ tw_tbl := tw_in 83 (by decide +kernel) rfl
theorem n_3 : ∀ a, a < 4 → ∀ b, b < 4 → a ≠ b → (T_3 a).2.1 ≠ (T_3 b).2.1 := by decide +kernel
theorem ty_3 : ∀ k, k < 4 → parseFieldDescriptor (T_3 k).2.2.1 = some (t_3 k) := by decide +kernel
theorem i_3 : ∀ w ∈ u_ws "TwinTools$Home" T_3 4, w ∈ tw_tbl := by
  have h : (u_ws "TwinTools$Home" T_3 4) = ([593, 594, 595, 596] : List Nat).filterMap (fun i => lw_tbl[i]?) := by decide +kernel
  have g : (u_ws "TwinTools$Home" T_3 4).all goodWord = true := by decide +kernel
  intro w hw
  have g1 := List.all_eq_true.mp g w hw
  rw [h] at hw
  obtain ⟨i, -, hi⟩ := List.mem_filterMap.mp hw
  exact tw_in i hi g1
theorem in_3 : Cond.instantiable "TwinTools$Home" 4 ∈ tw_tbl := tw_in 588 (by decide +kernel) rfl
theorem iz_3 : Cond.initialized "TwinTools$Home" ∈ tw_tbl := tw_in 85 (by decide +kernel) rfl
theorem n_4 : ∀ a, a < 4 → ∀ b, b < 4 → a ≠ b → (T_4 a).2.1 ≠ (T_4 b).2.1 := by decide +kernel
theorem ty_4 : ∀ k, k < 4 → parseFieldDescriptor (T_4 k).2.2.1 = some (t_4 k) := by decide +kernel
theorem i_4 : ∀ w ∈ u_ws "TwinTools$Late" T_4 4, w ∈ tw_tbl := by
  have h : (u_ws "TwinTools$Late" T_4 4) = ([626, 627, 628, 629] : List Nat).filterMap (fun i => lw_tbl[i]?) := by decide +kernel
  have g : (u_ws "TwinTools$Late" T_4 4).all goodWord = true := by decide +kernel
  intro w hw
  have g1 := List.all_eq_true.mp g w hw
  rw [h] at hw
  obtain ⟨i, -, hi⟩ := List.mem_filterMap.mp hw
  exact tw_in i hi g1
theorem in_4 : Cond.instantiable "TwinTools$Late" 4 ∈ tw_tbl := tw_in 621 (by decide +kernel) rfl
theorem iz_4 : Cond.initialized "TwinTools$Late" ∈ tw_tbl := tw_in 88 (by decide +kernel) rfl
theorem n_5 : ∀ a, a < 4 → ∀ b, b < 4 → a ≠ b → (T_5 a).2.1 ≠ (T_5 b).2.1 := by decide +kernel
theorem ty_5 : ∀ k, k < 4 → parseFieldDescriptor (T_5 k).2.2.1 = some (t_5 k) := by decide +kernel
theorem i_5 : ∀ w ∈ u_ws "TwinTools$Lifting" T_5 4, w ∈ tw_tbl := by
  have h : (u_ws "TwinTools$Lifting" T_5 4) = ([615, 616, 617, 618] : List Nat).filterMap (fun i => lw_tbl[i]?) := by decide +kernel
  have g : (u_ws "TwinTools$Lifting" T_5 4).all goodWord = true := by decide +kernel
  intro w hw
  have g1 := List.all_eq_true.mp g w hw
  rw [h] at hw
  obtain ⟨i, -, hi⟩ := List.mem_filterMap.mp hw
  exact tw_in i hi g1
theorem in_5 : Cond.instantiable "TwinTools$Lifting" 4 ∈ tw_tbl := tw_in 610 (by decide +kernel) rfl
theorem iz_5 : Cond.initialized "TwinTools$Lifting" ∈ tw_tbl := tw_in 87 (by decide +kernel) rfl
theorem n_6 : ∀ a, a < 19 → ∀ b, b < 19 → a ≠ b → (T_6 a).2.1 ≠ (T_6 b).2.1 := by decide +kernel
theorem ty_6 : ∀ k, k < 19 → parseFieldDescriptor (T_6 k).2.2.1 = some (t_6 k) := by decide +kernel
theorem i_6 : ∀ w ∈ u_ws "TwinTools$Plan" T_6 19, w ∈ tw_tbl := by
  have h : (u_ws "TwinTools$Plan" T_6 19) = ([239, 241, 243, 245, 247, 249, 251, 253, 255, 257, 259, 261, 263, 265, 267, 269, 271, 273, 275] : List Nat).filterMap (fun i => lw_tbl[i]?) := by decide +kernel
  have g : (u_ws "TwinTools$Plan" T_6 19).all goodWord = true := by decide +kernel
  intro w hw
  have g1 := List.all_eq_true.mp g w hw
  rw [h] at hw
  obtain ⟨i, -, hi⟩ := List.mem_filterMap.mp hw
  exact tw_in i hi g1
theorem in_6 : Cond.instantiable "TwinTools$Plan" 19 ∈ tw_tbl := tw_in 201 (by decide +kernel) rfl
theorem iz_6 : Cond.initialized "TwinTools$Plan" ∈ tw_tbl := tw_in 73 (by decide +kernel) rfl
theorem n_7 : ∀ a, a < 4 → ∀ b, b < 4 → a ≠ b → (T_7 a).2.1 ≠ (T_7 b).2.1 := by decide +kernel
theorem ty_7 : ∀ k, k < 4 → parseFieldDescriptor (T_7 k).2.2.1 = some (t_7 k) := by decide +kernel
theorem i_7 : ∀ w ∈ u_ws "TwinTools$Told" T_7 4, w ∈ tw_tbl := by
  have h : (u_ws "TwinTools$Told" T_7 4) = ([637, 638, 639, 640] : List Nat).filterMap (fun i => lw_tbl[i]?) := by decide +kernel
  have g : (u_ws "TwinTools$Told" T_7 4).all goodWord = true := by decide +kernel
  intro w hw
  have g1 := List.all_eq_true.mp g w hw
  rw [h] at hw
  obtain ⟨i, -, hi⟩ := List.mem_filterMap.mp hw
  exact tw_in i hi g1
theorem in_7 : Cond.instantiable "TwinTools$Told" 4 ∈ tw_tbl := tw_in 632 (by decide +kernel) rfl
theorem iz_7 : Cond.initialized "TwinTools$Told" ∈ tw_tbl := tw_in 89 (by decide +kernel) rfl
theorem n_8 : ∀ a, a < 2 → ∀ b, b < 2 → a ≠ b → (T_8 a).2.1 ≠ (T_8 b).2.1 := by decide +kernel
theorem ty_8 : ∀ k, k < 2 → parseFieldDescriptor (T_8 k).2.2.1 = some (t_8 k) := by decide +kernel
theorem i_8 : ∀ w ∈ u_ws "TwinTools$Trace" T_8 2, w ∈ tw_tbl := by
  have h : (u_ws "TwinTools$Trace" T_8 2) = ([288, 290] : List Nat).filterMap (fun i => lw_tbl[i]?) := by decide +kernel
  have g : (u_ws "TwinTools$Trace" T_8 2).all goodWord = true := by decide +kernel
  intro w hw
  have g1 := List.all_eq_true.mp g w hw
  rw [h] at hw
  obtain ⟨i, -, hi⟩ := List.mem_filterMap.mp hw
  exact tw_in i hi g1
theorem in_8 : Cond.instantiable "TwinTools$Trace" 2 ∈ tw_tbl := tw_in 279 (by decide +kernel) rfl
theorem iz_8 : Cond.initialized "TwinTools$Trace" ∈ tw_tbl := tw_in 74 (by decide +kernel) rfl
theorem n_9 : ∀ a, a < 12 → ∀ b, b < 12 → a ≠ b → (T_9 a).2.1 ≠ (T_9 b).2.1 := by decide +kernel
theorem ty_9 : ∀ k, k < 12 → parseFieldDescriptor (T_9 k).2.2.1 = some (t_9 k) := by decide +kernel
theorem i_9 : ∀ w ∈ u_ws "TwinTools$Valley" T_9 12, w ∈ tw_tbl := by
  have h : (u_ws "TwinTools$Valley" T_9 12) = ([312, 314, 316, 318, 320, 322, 324, 326, 328, 330, 332, 334] : List Nat).filterMap (fun i => lw_tbl[i]?) := by decide +kernel
  have g : (u_ws "TwinTools$Valley" T_9 12).all goodWord = true := by decide +kernel
  intro w hw
  have g1 := List.all_eq_true.mp g w hw
  rw [h] at hw
  obtain ⟨i, -, hi⟩ := List.mem_filterMap.mp hw
  exact tw_in i hi g1
theorem in_9 : Cond.instantiable "TwinTools$Valley" 12 ∈ tw_tbl := tw_in 294 (by decide +kernel) rfl
theorem iz_9 : Cond.initialized "TwinTools$Valley" ∈ tw_tbl := tw_in 75 (by decide +kernel) rfl
theorem n_10 : ∀ a, a < 20 → ∀ b, b < 20 → a ≠ b → (T_10 a).2.1 ≠ (T_10 b).2.1 := by decide +kernel
theorem ty_10 : ∀ k, k < 20 → parseFieldDescriptor (T_10 k).2.2.1 = some (t_10 k) := by decide +kernel
theorem i_10 : ∀ w ∈ u_ws "TwinTools$World" T_10 20, w ∈ tw_tbl := by
  have h : (u_ws "TwinTools$World" T_10 20) = ([157, 159, 161, 163, 165, 167, 169, 171, 173, 175, 177, 179, 181, 183, 185, 187, 189, 191, 193, 195] : List Nat).filterMap (fun i => lw_tbl[i]?) := by decide +kernel
  have g : (u_ws "TwinTools$World" T_10 20).all goodWord = true := by decide +kernel
  intro w hw
  have g1 := List.all_eq_true.mp g w hw
  rw [h] at hw
  obtain ⟨i, -, hi⟩ := List.mem_filterMap.mp hw
  exact tw_in i hi g1
theorem in_10 : Cond.instantiable "TwinTools$World" 20 ∈ tw_tbl := tw_in 102 (by decide +kernel) rfl
theorem iz_10 : Cond.initialized "TwinTools$World" ∈ tw_tbl := tw_in 72 (by decide +kernel) rfl
theorem n_11 : ∀ a, a < 7 → ∀ b, b < 7 → a ≠ b → (T_11 a).2.1 ≠ (T_11 b).2.1 := by decide +kernel
theorem ty_11 : ∀ k, k < 7 → parseFieldDescriptor (T_11 k).2.2.1 = some (t_11 k) := by decide +kernel
theorem i_11 : ∀ w ∈ u_ws "TwinTools" T_11 7, w ∈ tw_tbl := by
  have h : (u_ws "TwinTools" T_11 7) = ([344, 346, 348, 350, 352, 354, 356] : List Nat).filterMap (fun i => lw_tbl[i]?) := by decide +kernel
  have g : (u_ws "TwinTools" T_11 7).all goodWord = true := by decide +kernel
  intro w hw
  have g1 := List.all_eq_true.mp g w hw
  rw [h] at hw
  obtain ⟨i, -, hi⟩ := List.mem_filterMap.mp hw
  exact tw_in i hi g1
theorem in_11 : Cond.instantiable "TwinTools" 7 ∈ tw_tbl := tw_in 94 (by decide +kernel) rfl
theorem iz_11 : Cond.initialized "TwinTools" ∈ tw_tbl := tw_in 71 (by decide +kernel) rfl
theorem n_12 : ∀ a, a < 23 → ∀ b, b < 23 → a ≠ b → (T_12 a).2.1 ≠ (T_12 b).2.1 := by decide +kernel
theorem ty_12 : ∀ k, k < 23 → parseFieldDescriptor (T_12 k).2.2.1 = some (t_12 k) := by decide +kernel
theorem i_12 : ∀ w ∈ u_ws "TwinToolsModel" T_12 23, w ∈ tw_tbl := by
  have h : (u_ws "TwinToolsModel" T_12 23) = ([1187, 1189, 1191, 1193, 1195, 1197, 1199, 1201, 1203, 1205, 1207, 1209, 1211, 1213, 1215, 1217, 1219, 1221, 1223, 1225, 1227, 1229, 1231] : List Nat).filterMap (fun i => lw_tbl[i]?) := by decide +kernel
  have g : (u_ws "TwinToolsModel" T_12 23).all goodWord = true := by decide +kernel
  intro w hw
  have g1 := List.all_eq_true.mp g w hw
  rw [h] at hw
  obtain ⟨i, -, hi⟩ := List.mem_filterMap.mp hw
  exact tw_in i hi g1
theorem in_12 : Cond.instantiable "TwinToolsModel" 23 ∈ tw_tbl := tw_in 1160 (by decide +kernel) rfl
theorem iz_12 : Cond.initialized "TwinToolsModel" ∈ tw_tbl := tw_in 76 (by decide +kernel) rfl
/-- what the tables say of a class -/
theorem tw_cls {ci : Nat} {C : String} {T : u_T} {N : Nat} (h : tCl[ci]? = some (C, T, N)) : (∀ w ∈ u_ws C T N, w ∈ tw_tbl) ∧ (∃ ty : Nat → FieldType, ∀ k, k < N → parseFieldDescriptor (T k).2.2.1 = some (ty k)) ∧ (∀ a, a < N → ∀ b, b < N → a ≠ b → (T a).2.1 ≠ (T b).2.1) ∧ Cond.instantiable C N ∈ tw_tbl ∧ Cond.initialized C ∈ tw_tbl := by
  have hl : ci < 13 := (List.getElem?_eq_some_iff.mp h).1
  match ci, hl with
  | 0, _ => cases h; exact ⟨i_0, ⟨t_0, ty_0⟩, n_0, in_0, iz_0⟩
  | 1, _ => cases h; exact ⟨i_1, ⟨t_1, ty_1⟩, n_1, in_1, iz_1⟩
  | 2, _ => cases h; exact ⟨i_2, ⟨t_2, ty_2⟩, n_2, in_2, iz_2⟩
  | 3, _ => cases h; exact ⟨i_3, ⟨t_3, ty_3⟩, n_3, in_3, iz_3⟩
  | 4, _ => cases h; exact ⟨i_4, ⟨t_4, ty_4⟩, n_4, in_4, iz_4⟩
  | 5, _ => cases h; exact ⟨i_5, ⟨t_5, ty_5⟩, n_5, in_5, iz_5⟩
  | 6, _ => cases h; exact ⟨i_6, ⟨t_6, ty_6⟩, n_6, in_6, iz_6⟩
  | 7, _ => cases h; exact ⟨i_7, ⟨t_7, ty_7⟩, n_7, in_7, iz_7⟩
  | 8, _ => cases h; exact ⟨i_8, ⟨t_8, ty_8⟩, n_8, in_8, iz_8⟩
  | 9, _ => cases h; exact ⟨i_9, ⟨t_9, ty_9⟩, n_9, in_9, iz_9⟩
  | 10, _ => cases h; exact ⟨i_10, ⟨t_10, ty_10⟩, n_10, in_10, iz_10⟩
  | 11, _ => cases h; exact ⟨i_11, ⟨t_11, ty_11⟩, n_11, in_11, iz_11⟩
  | 12, _ => cases h; exact ⟨i_12, ⟨t_12, ty_12⟩, n_12, in_12, iz_12⟩
abbrev tK (h : tH) (a : Nat) (q : Nat × Nat) : Prop := h.1 a = q ∧ a < h.2.2.2
def up (f : Int → Int) (i x : Int) : Int → Int := fun j => if j = i then x else f j
def uI (I : Nat → Int → Int) (a : Nat) (i x : Int) : Nat → Int → Int := fun b => if b = a then up (I a) i x else I b
def upQ (f : Int → Option Nat) (i : Int) (x : Option Nat) : Int → Option Nat := fun j => if j = i then x else f j
def uQ (I : Nat → Int → Option Nat) (a : Nat) (i : Int) (x : Option Nat) : Nat → Int → Option Nat := fun b => if b = a then upQ (I a) i x else I b
abbrev hI (h : tH) (a : Nat) (i x : Int) : tH := (h.1, uI h.2.1 a i x, h.2.2.1, h.2.2.2)
abbrev hQ (h : tH) (a : Nat) (i : Int) (x : Option Nat) : tH := (h.1, h.2.1, uQ h.2.2.1 a i x, h.2.2.2)
def tw_FL (own : String) (idx ci k : Nat) : Prop := ∃ (ref C : String) (T : u_T) (N : Nat), tCl[ci]? = some (C, T, N) ∧ k < N ∧ Cond.fieldLink own idx ref (T k).2.1 (T k).2.2.1 ∈ tw_tbl ∧ (ref = (T k).1 ∨ Cond.sameField ref (T k).1 (T k).2.1 (T k).2.2.1 ∈ tw_tbl)
theorem tw_tcl_len {ci : Nat} {q : vw_C} (h : tCl[ci]? = some q) : ci < 13 := (List.getElem?_eq_some_iff.mp h).1
theorem tw_c_obj {G : tG} {h : tH} {a ci N : Nat} (hk : h.1 a = (ci, N)) (hc : ci < 13) : tw_c G h a = .inr (ci, (List.range N).map (tw_fv G h a)) := by
  unfold tw_c
  rw [hk]
  exact if_pos hc
theorem tw_c_int {G : tG} {h : tH} {a ci N : Nat} (hk : h.1 a = (ci, N)) (h1 : 13 ≤ ci) (h2 : ci < 16) : tw_c G h a = .inl (G.2.1 ci, N, .inl (fun j => Int32.ofInt (h.2.1 a (j : Int)))) := by
  unfold tw_c
  rw [hk, if_neg (show ¬ ci < 13 by omega), if_pos (show ci < 16 from h2)]
theorem tw_c_ref {G : tG} {h : tH} {a ci N : Nat} (hk : h.1 a = (ci, N)) (h1 : 16 ≤ ci) : tw_c G h a = .inl (G.2.1 ci, N, .inr (.inr (.inr (.inr (fun j => (h.2.2.1 a (j : Int)).map (tw_ad G)))))) := by
  unfold tw_c
  rw [hk, if_neg (show ¬ ci < 13 by omega), if_neg (show ¬ ci < 16 by omega)]
theorem tw_c_uI {G : tG} {h : tH} {a b : Nat} {i x : Int} (hb : b ≠ a) : tw_c G (hI h a i x) b = tw_c G h b := by
  have e : uI h.2.1 a i x b = h.2.1 b := if_neg hb
  unfold tw_c tw_fv
  simp only [e]
theorem tw_c_uQ {G : tG} {h : tH} {a b : Nat} {i : Int} {x : Option Nat} (hb : b ≠ a) : tw_c G (hQ h a i x) b = tw_c G h b := by
  have e : uQ h.2.2.1 a i x b = h.2.2.1 b := if_neg hb
  unfold tw_c tw_fv
  simp only [e]
theorem tw_ix {i : Int} {n : Nat} (h1 : 0 ≤ i) (h2 : i < n) (hn : n < 2147483648) : (Int32.ofInt i).toNatClampNeg = i.toNat ∧ vp_in (Int32.ofInt i) n ∧ ((i.toNat : Nat) : Int) = i := by
  have ht : tr i := ⟨by omega, by omega⟩
  have e : (Int32.ofInt i).toNatClampNeg = i.toNat := by
    show (Int32.ofInt i).toInt.toNat = _
    rw [tr_id ht]
  refine ⟨e, ?_, by omega⟩
  rintro (q | q)
  · have := (tr_lt ht (by decide : tr 0)).mp q
    omega
  · rw [e] at q
    omega
section AR2
variable {l : Launch} {G : tG} {M : tM} {d mc ms n0 c2 : Nat} {P : Option tV → tH → Prop} {ls : List (Nat × tV)} {st : List tV} {h : tH} {k pc nx tg : Nat}
theorem tw_same {s : State} {args : Array Value} {ws : List Cond} {ref o n ds : String} (hts : ∀ w ∈ ws, w.before args s = true) (hw : ref = o ∨ Cond.sameField ref o n ds ∈ ws) : ∀ x, s.fieldFound? o n ds = some x → s.fieldFound? ref n ds = some x := by
  intro x hx
  rcases hw with rfl | hw
  · exact hx
  · exact u_same (hts _ hw) x hx
theorem ar_getI {i ci N a kf : Nat} (hd : M.2.2.2.2[k]? = some (pc, .getfield i, nx, tg)) (hk : tK h a (ci, N)) (hF : tw_FL M.1.cls i ci kf) (hN : kf < N) (hr : tRef ci kf = false) (kk : tw_AW l G M d mc ms n0 c2 P nx ls (vi (h.2.1 a (kf : Int)) :: st) h) : tw_AW l G M d mc ms n0 c2 P pc ls (vr (some a) :: st) h := by
  intro p e s m args below meth c H locs ls' X hl hP hS h0 hn
  obtain ⟨dd, e1⟩ := tw_dec X hd rfl
  subst e1
  have K := kk p e s m args below meth c H locs ls' X hl hP hS h0 hn
  obtain ⟨ref, C, T, N', q1, q2, q3, q4⟩ := hF
  have hw : ∀ w ∈ tw_tbl, w.before args s = true := fun w h => X.2.2.2.2.2.1 w (List.mem_cons_of_mem _ h)
  have he := tw_ws_get (G := G) hk.2
  rw [tw_c_obj hk.1 (tw_tcl_len q1)] at he
  refine va_get (v := Value.int (Int32.ofInt (h.2.1 a (kf : Int)))) X.1 X.2.1 hw (tw_cls q1).1 X.2.2.2.2.1 X.2.2.2.2.2.2.1.1 hP a he q1 kf q2 (hw _ q3) (tw_same hw q4) ?_ dd K
  simp [hN, tw_fv, hk.1, hr]
theorem ar_getR {i ci N a kf : Nat} (hd : M.2.2.2.2[k]? = some (pc, .getfield i, nx, tg)) (hk : tK h a (ci, N)) (hF : tw_FL M.1.cls i ci kf) (hN : kf < N) (hr : tRef ci kf = true) (kk : tw_AW l G M d mc ms n0 c2 P nx ls (vr (h.2.2.1 a (kf : Int)) :: st) h) : tw_AW l G M d mc ms n0 c2 P pc ls (vr (some a) :: st) h := by
  intro p e s m args below meth c H locs ls' X hl hP hS h0 hn
  obtain ⟨dd, e1⟩ := tw_dec X hd rfl
  subst e1
  have K := kk p e s m args below meth c H locs ls' X hl hP hS h0 hn
  obtain ⟨ref, C, T, N', q1, q2, q3, q4⟩ := hF
  have hw : ∀ w ∈ tw_tbl, w.before args s = true := fun w h => X.2.2.2.2.2.1 w (List.mem_cons_of_mem _ h)
  have he := tw_ws_get (G := G) hk.2
  rw [tw_c_obj hk.1 (tw_tcl_len q1)] at he
  refine va_get (v := va_rf ((h.2.2.1 a (kf : Int)).map (tw_ad G))) X.1 X.2.1 hw (tw_cls q1).1 X.2.2.2.2.1 X.2.2.2.2.2.2.1.1 hP a he q1 kf q2 (hw _ q3) (tw_same hw q4) ?_ dd K
  simp [hN, tw_fv, hk.1, hr]
theorem ar_putI {i ci N a kf : Nat} {x : Int} (hd : M.2.2.2.2[k]? = some (pc, .putfield i, nx, tg)) (hk : tK h a (ci, N)) (hF : tw_FL M.1.cls i ci kf) (hN : kf < N) (hr : tRef ci kf = false) (hf : ∀ C T N, tCl[ci]? = some (C, T, N) → (T kf).2.2.2 = false ∧ parseFieldDescriptor (T kf).2.2.1 = some .int) (kk : tw_AW l G M d mc ms n0 c2 P nx ls st (hI h a kf x)) : tw_AW l G M d mc ms n0 c2 P pc ls (vi x :: vr (some a) :: st) h := by
  intro p e s m args below meth c H locs ls' X hl hP hS h0 hn
  obtain ⟨dd, e1⟩ := tw_dec X hd rfl
  subst e1
  obtain ⟨ref, C, T, N', q1, q2, q3, q4⟩ := hF
  have hw : ∀ w ∈ tw_tbl, w.before args s = true := fun w h => X.2.2.2.2.2.1 w (List.mem_cons_of_mem _ h)
  have he := tw_ws_get (G := G) hk.2
  rw [tw_c_obj hk.1 (tw_tcl_len q1)] at he
  obtain ⟨z1, ⟨ty, z2⟩, z3, z4, z5⟩ := tw_cls q1
  obtain ⟨hfin, hty⟩ := hf _ _ _ q1
  refine va_put (v := Value.int (Int32.ofInt x)) X.1 X.2.1 hw z1 ty z2 z3 X.2.2.2.2.1 X.2.2.2.2.2.2.1.1 hP (tw_ws_D hn) hS a he q1 kf q2 (hw _ q3) (tw_same hw q4) hfin hty rfl rfl (by simp [hN]) dd (fun H1 locs1 hP1 _ hS1 => ?_)
  have e2 : (tw_ws G h).set a (tw_ad G a, .inr (ci, ((List.range N).map (tw_fv G h a)).set kf (Value.int (Int32.ofInt x)))) = tw_ws G (hI h a kf x) := by
    refine tw_ws_set rfl hk.2 ?_ (fun b hb => tw_c_uI hb)
    rw [tw_c_obj (h := hI h a kf x) hk.1 (tw_tcl_len q1)]
    congr 2
    apply List.ext_getElem?
    intro j
    by_cases hj : j = kf
    · subst hj
      rw [List.getElem?_set_self (by simp [hN])]
      simp [hN, tw_fv, hk.1, hr, uI, up, uQ, upQ]
    · rw [List.getElem?_set_ne (fun q => hj q.symm)]
      have hj' : ¬ (j : Int) = (kf : Int) := by omega
      by_cases hjN : j < N
      · simp [hjN, tw_fv, uI, up, uQ, upQ, hj']
      · simp [hjN]
  rw [e2] at hP1
  exact kk p e s m args below meth c H1 locs1 ls' X hl hP1 hS1 h0 hn
theorem ar_putZ {i ci N a kf : Nat} {x : Int} (hd : M.2.2.2.2[k]? = some (pc, .putfield i, nx, tg)) (hk : tK h a (ci, N)) (hF : tw_FL M.1.cls i ci kf) (hN : kf < N) (hr : tRef ci kf = false) (hx : 0 ≤ x ∧ x ≤ 1) (hf : ∀ C T N, tCl[ci]? = some (C, T, N) → (T kf).2.2.2 = false ∧ parseFieldDescriptor (T kf).2.2.1 = some .boolean) (kk : tw_AW l G M d mc ms n0 c2 P nx ls st (hI h a kf x)) : tw_AW l G M d mc ms n0 c2 P pc ls (vi x :: vr (some a) :: st) h := by
  intro p e s m args below meth c H locs ls' X hl hP hS h0 hn
  obtain ⟨dd, e1⟩ := tw_dec X hd rfl
  subst e1
  obtain ⟨ref, C, T, N', q1, q2, q3, q4⟩ := hF
  have hw : ∀ w ∈ tw_tbl, w.before args s = true := fun w h => X.2.2.2.2.2.1 w (List.mem_cons_of_mem _ h)
  have he := tw_ws_get (G := G) hk.2
  rw [tw_c_obj hk.1 (tw_tcl_len q1)] at he
  obtain ⟨z1, ⟨ty, z2⟩, z3, z4, z5⟩ := tw_cls q1
  obtain ⟨hfin, hty⟩ := hf _ _ _ q1
  have hz : x = 0 ∨ x = 1 := by omega
  refine va_put (v := Value.int (Int32.ofInt x)) X.1 X.2.1 hw z1 ty z2 z3 X.2.2.2.2.1 X.2.2.2.2.2.2.1.1 hP (tw_ws_D hn) hS a he q1 kf q2 (hw _ q3) (tw_same hw q4) hfin hty (by rcases hz with rfl | rfl <;> rfl) (by rcases hz with rfl | rfl <;> rfl) (by simp [hN]) dd (fun H1 locs1 hP1 _ hS1 => ?_)
  have e2 : (tw_ws G h).set a (tw_ad G a, .inr (ci, ((List.range N).map (tw_fv G h a)).set kf (Value.int (Int32.ofInt x)))) = tw_ws G (hI h a kf x) := by
    refine tw_ws_set rfl hk.2 ?_ (fun b hb => tw_c_uI hb)
    rw [tw_c_obj (h := hI h a kf x) hk.1 (tw_tcl_len q1)]
    congr 2
    apply List.ext_getElem?
    intro j
    by_cases hj : j = kf
    · subst hj
      rw [List.getElem?_set_self (by simp [hN])]
      simp [hN, tw_fv, hk.1, hr, uI, up, uQ, upQ]
    · rw [List.getElem?_set_ne (fun q => hj q.symm)]
      have hj' : ¬ (j : Int) = (kf : Int) := by omega
      by_cases hjN : j < N
      · simp [hjN, tw_fv, uI, up, uQ, upQ, hj']
      · simp [hjN]
  rw [e2] at hP1
  exact kk p e s m args below meth c H1 locs1 ls' X hl hP1 hS1 h0 hn
theorem ar_putR {i ci N a kf : Nat} {x : Option Nat} (hd : M.2.2.2.2[k]? = some (pc, .putfield i, nx, tg)) (hk : tK h a (ci, N)) (hF : tw_FL M.1.cls i ci kf) (hN : kf < N) (hr : tRef ci kf = true) (hf : ∀ C T N, tCl[ci]? = some (C, T, N) → (T kf).2.2.2 = false ∧ ∃ ty, parseFieldDescriptor (T kf).2.2.1 = some ty ∧ ty.isReference = true) (kk : tw_AW l G M d mc ms n0 c2 P nx ls st (hQ h a kf x)) : tw_AW l G M d mc ms n0 c2 P pc ls (vr x :: vr (some a) :: st) h := by
  intro p e s m args below meth c H locs ls' X hl hP hS h0 hn
  obtain ⟨dd, e1⟩ := tw_dec X hd rfl
  subst e1
  obtain ⟨ref, C, T, N', q1, q2, q3, q4⟩ := hF
  have hw : ∀ w ∈ tw_tbl, w.before args s = true := fun w h => X.2.2.2.2.2.1 w (List.mem_cons_of_mem _ h)
  have he := tw_ws_get (G := G) hk.2
  rw [tw_c_obj hk.1 (tw_tcl_len q1)] at he
  obtain ⟨z1, ⟨ty, z2⟩, z3, z4, z5⟩ := tw_cls q1
  obtain ⟨hfin, ty1, hty, hrf⟩ := hf _ _ _ q1
  refine va_put (v := va_rf (x.map (tw_ad G))) X.1 X.2.1 hw z1 ty z2 z3 X.2.2.2.2.1 X.2.2.2.2.2.2.1.1 hP (tw_ws_D hn) hS a he q1 kf q2 (hw _ q3) (tw_same hw q4) hfin hty (by cases ty1 <;> first | (cases hrf; done) | (cases x <;> rfl)) (by cases ty1 <;> first | (cases hrf; done) | (cases x <;> rfl)) (by simp [hN]) dd (fun H1 locs1 hP1 _ hS1 => ?_)
  have e2 : (tw_ws G h).set a (tw_ad G a, .inr (ci, ((List.range N).map (tw_fv G h a)).set kf (va_rf (x.map (tw_ad G))))) = tw_ws G (hQ h a kf x) := by
    refine tw_ws_set rfl hk.2 ?_ (fun b hb => tw_c_uQ hb)
    rw [tw_c_obj (h := hQ h a kf x) hk.1 (tw_tcl_len q1)]
    congr 2
    apply List.ext_getElem?
    intro j
    by_cases hj : j = kf
    · subst hj
      rw [List.getElem?_set_self (by simp [hN])]
      simp [hN, tw_fv, hk.1, hr, uI, up, uQ, upQ]
    · rw [List.getElem?_set_ne (fun q => hj q.symm)]
      have hj' : ¬ (j : Int) = (kf : Int) := by omega
      by_cases hjN : j < N
      · simp [hjN, tw_fv, uI, up, uQ, upQ, hj']
      · simp [hjN]
  rw [e2] at hP1
  exact kk p e s m args below meth c H1 locs1 ls' X hl hP1 hS1 h0 hn
theorem ar_putFI {i ci N a kf : Nat} {x : Int} (hd : M.2.2.2.2[k]? = some (pc, .putfield i, nx, tg)) (hk : tK h a (ci, N)) (hF : tw_FL M.1.cls i ci kf) (hN : kf < N) (hr : tRef ci kf = false) (hi : M.1.name = "<init>") (hf : ∀ C T N, tCl[ci]? = some (C, T, N) → (T kf).2.2.2 = true ∧ (T kf).1 = M.1.cls ∧ parseFieldDescriptor (T kf).2.2.1 = some .int) (kk : tw_AW l G M d mc ms n0 c2 P nx ls st (hI h a kf x)) : tw_AW l G M d mc ms n0 c2 P pc ls (vi x :: vr (some a) :: st) h := by
  intro p e s m args below meth c H locs ls' X hl hP hS h0 hn
  obtain ⟨dd, e1⟩ := tw_dec X hd rfl
  subst e1
  obtain ⟨ref, C, T, N', q1, q2, q3, q4⟩ := hF
  have hw : ∀ w ∈ tw_tbl, w.before args s = true := fun w h => X.2.2.2.2.2.1 w (List.mem_cons_of_mem _ h)
  have he := tw_ws_get (G := G) hk.2
  rw [tw_c_obj hk.1 (tw_tcl_len q1)] at he
  obtain ⟨z1, ⟨ty, z2⟩, z3, z4, z5⟩ := tw_cls q1
  obtain ⟨hfin0, hown, hty⟩ := hf _ _ _ q1
  refine va_putF (v := Value.int (Int32.ofInt x)) X.1 X.2.1 hw z1 ty z2 z3 X.2.2.2.2.1 X.2.2.2.2.2.2.1.1 hP (tw_ws_D hn) hS a he q1 kf q2 (hw _ q3) (tw_same hw q4) hfin0 (X.2.2.2.2.2.2.2.2.2.2.1.trans hi) hown hty rfl rfl (by simp [hN]) dd (fun H1 locs1 hP1 _ hS1 => ?_)
  have e2 : (tw_ws G h).set a (tw_ad G a, .inr (ci, ((List.range N).map (tw_fv G h a)).set kf (Value.int (Int32.ofInt x)))) = tw_ws G (hI h a kf x) := by
    refine tw_ws_set rfl hk.2 ?_ (fun b hb => tw_c_uI hb)
    rw [tw_c_obj (h := hI h a kf x) hk.1 (tw_tcl_len q1)]
    congr 2
    apply List.ext_getElem?
    intro j
    by_cases hj : j = kf
    · subst hj
      rw [List.getElem?_set_self (by simp [hN])]
      simp [hN, tw_fv, hk.1, hr, uI, up, uQ, upQ]
    · rw [List.getElem?_set_ne (fun q => hj q.symm)]
      have hj' : ¬ (j : Int) = (kf : Int) := by omega
      by_cases hjN : j < N
      · simp [hjN, tw_fv, uI, up, uQ, upQ, hj']
      · simp [hjN]
  rw [e2] at hP1
  exact kk p e s m args below meth c H1 locs1 ls' X hl hP1 hS1 h0 hn
theorem ar_putFR {i ci N a kf : Nat} {x : Option Nat} (hd : M.2.2.2.2[k]? = some (pc, .putfield i, nx, tg)) (hk : tK h a (ci, N)) (hF : tw_FL M.1.cls i ci kf) (hN : kf < N) (hr : tRef ci kf = true) (hi : M.1.name = "<init>") (hf : ∀ C T N, tCl[ci]? = some (C, T, N) → (T kf).2.2.2 = true ∧ (T kf).1 = M.1.cls ∧ ∃ ty, parseFieldDescriptor (T kf).2.2.1 = some ty ∧ ty.isReference = true) (kk : tw_AW l G M d mc ms n0 c2 P nx ls st (hQ h a kf x)) : tw_AW l G M d mc ms n0 c2 P pc ls (vr x :: vr (some a) :: st) h := by
  intro p e s m args below meth c H locs ls' X hl hP hS h0 hn
  obtain ⟨dd, e1⟩ := tw_dec X hd rfl
  subst e1
  obtain ⟨ref, C, T, N', q1, q2, q3, q4⟩ := hF
  have hw : ∀ w ∈ tw_tbl, w.before args s = true := fun w h => X.2.2.2.2.2.1 w (List.mem_cons_of_mem _ h)
  have he := tw_ws_get (G := G) hk.2
  rw [tw_c_obj hk.1 (tw_tcl_len q1)] at he
  obtain ⟨z1, ⟨ty, z2⟩, z3, z4, z5⟩ := tw_cls q1
  obtain ⟨hfin0, hown, ty1, hty, hrf⟩ := hf _ _ _ q1
  refine va_putF (v := va_rf (x.map (tw_ad G))) X.1 X.2.1 hw z1 ty z2 z3 X.2.2.2.2.1 X.2.2.2.2.2.2.1.1 hP (tw_ws_D hn) hS a he q1 kf q2 (hw _ q3) (tw_same hw q4) hfin0 (X.2.2.2.2.2.2.2.2.2.2.1.trans hi) hown hty (by cases ty1 <;> first | (cases hrf; done) | (cases x <;> rfl)) (by cases ty1 <;> first | (cases hrf; done) | (cases x <;> rfl)) (by simp [hN]) dd (fun H1 locs1 hP1 _ hS1 => ?_)
  have e2 : (tw_ws G h).set a (tw_ad G a, .inr (ci, ((List.range N).map (tw_fv G h a)).set kf (va_rf (x.map (tw_ad G))))) = tw_ws G (hQ h a kf x) := by
    refine tw_ws_set rfl hk.2 ?_ (fun b hb => tw_c_uQ hb)
    rw [tw_c_obj (h := hQ h a kf x) hk.1 (tw_tcl_len q1)]
    congr 2
    apply List.ext_getElem?
    intro j
    by_cases hj : j = kf
    · subst hj
      rw [List.getElem?_set_self (by simp [hN])]
      simp [hN, tw_fv, hk.1, hr, uI, up, uQ, upQ]
    · rw [List.getElem?_set_ne (fun q => hj q.symm)]
      have hj' : ¬ (j : Int) = (kf : Int) := by omega
      by_cases hjN : j < N
      · simp [hjN, tw_fv, uI, up, uQ, upQ, hj']
      · simp [hjN]
  rw [e2] at hP1
  exact kk p e s m args below meth c H1 locs1 ls' X hl hP1 hS1 h0 hn
theorem ar_iald {a N : Nat} {i : Int} (hd : M.2.2.2.2[k]? = some (pc, .iaload, nx, tg)) (hk : tK h a (14, N)) (h1 : 0 ≤ i) (h2 : i < N) (hN : N < 2147483648) (kk : tw_AW l G M d mc ms n0 c2 P nx ls (vi (h.2.1 a i) :: st) h) : tw_AW l G M d mc ms n0 c2 P pc ls (vi i :: vr (some a) :: st) h := by
  intro p e s m args below meth c H locs ls' X hl hP hS h0 hn
  obtain ⟨dd, e1⟩ := tw_dec X hd rfl
  subst e1
  have K := kk p e s m args below meth c H locs ls' X hl hP hS h0 hn
  have he := tw_ws_get (G := G) hk.2
  rw [tw_c_int hk.1 (by decide) (by decide)] at he
  obtain ⟨x1, x2, x3⟩ := tw_ix h1 h2 hN
  refine va_iald X.1 X.2.1 X.2.2.2.2.2.2.1.1 hP a 1 he rfl x2 dd ?_
  rw [x1, x3]
  exact K
theorem ar_bald {a N : Nat} {i : Int} (hd : M.2.2.2.2[k]? = some (pc, .baload, nx, tg)) (hk : tK h a (13, N)) (h1 : 0 ≤ i) (h2 : i < N) (hN : N < 2147483648) (kk : tw_AW l G M d mc ms n0 c2 P nx ls (vi (h.2.1 a i) :: st) h) : tw_AW l G M d mc ms n0 c2 P pc ls (vi i :: vr (some a) :: st) h := by
  intro p e s m args below meth c H locs ls' X hl hP hS h0 hn
  obtain ⟨dd, e1⟩ := tw_dec X hd rfl
  subst e1
  have K := kk p e s m args below meth c H locs ls' X hl hP hS h0 hn
  have he := tw_ws_get (G := G) hk.2
  rw [tw_c_int hk.1 (by decide) (by decide)] at he
  obtain ⟨x1, x2, x3⟩ := tw_ix h1 h2 hN
  refine va_bald X.1 X.2.1 X.2.2.2.2.2.2.1.1 hP a 0 he rfl x2 dd ?_
  rw [x1, x3]
  exact K
theorem ar_zald {a N : Nat} {i : Int} (hd : M.2.2.2.2[k]? = some (pc, .baload, nx, tg)) (hk : tK h a (15, N)) (h1 : 0 ≤ i) (h2 : i < N) (hN : N < 2147483648) (kk : tw_AW l G M d mc ms n0 c2 P nx ls (vi (h.2.1 a i) :: st) h) : tw_AW l G M d mc ms n0 c2 P pc ls (vi i :: vr (some a) :: st) h := by
  intro p e s m args below meth c H locs ls' X hl hP hS h0 hn
  obtain ⟨dd, e1⟩ := tw_dec X hd rfl
  subst e1
  have K := kk p e s m args below meth c H locs ls' X hl hP hS h0 hn
  have he := tw_ws_get (G := G) hk.2
  rw [tw_c_int hk.1 (by decide) (by decide)] at he
  obtain ⟨x1, x2, x3⟩ := tw_ix h1 h2 hN
  refine va_zald X.1 X.2.1 X.2.2.2.2.2.2.1.1 hP a 2 he rfl x2 dd ?_
  rw [x1, x3]
  exact K
theorem ar_iast {a N : Nat} {i x : Int} (hd : M.2.2.2.2[k]? = some (pc, .iastore, nx, tg)) (hk : tK h a (14, N)) (h1 : 0 ≤ i) (h2 : i < N) (hN : N < 2147483648) (kk : tw_AW l G M d mc ms n0 c2 P nx ls st (hI h a i x)) : tw_AW l G M d mc ms n0 c2 P pc ls (vi x :: vi i :: vr (some a) :: st) h := by
  intro p e s m args below meth c H locs ls' X hl hP hS h0 hn
  obtain ⟨dd, e1⟩ := tw_dec X hd rfl
  subst e1
  have he := tw_ws_get (G := G) hk.2
  rw [tw_c_int hk.1 (by decide) (by decide)] at he
  obtain ⟨x1, x2, x3⟩ := tw_ix h1 h2 hN
  refine va_iast X.1 X.2.1 X.2.2.2.2.2.2.1.1 hP (tw_ws_D hn) hS a 1 he rfl x2 dd (fun H1 locs1 hP1 _ hS1 => ?_)
  have e2 : (tw_ws G h).set a (tw_ad G a, .inl (G.2.1 14, N, .inl (upd (fun j => Int32.ofInt (h.2.1 a (j : Int))) (Int32.ofInt i).toNatClampNeg (Int32.ofInt x)))) = tw_ws G (hI h a i x) := by
    refine tw_ws_set rfl hk.2 ?_ (fun b hb => tw_c_uI hb)
    rw [tw_c_int (h := hI h a i x) hk.1 (by decide) (by decide), x1]
    congr 4
    funext j
    by_cases hj : j = i.toNat
    · subst hj
      simp [upd, uI, up, x3]
    · have hj' : ¬ (j : Int) = i := by omega
      simp [upd, uI, up, hj, hj']
  rw [e2] at hP1
  exact kk p e s m args below meth c H1 locs1 ls' X hl hP1 hS1 h0 hn
theorem ar_bast {a N : Nat} {i x : Int} (hd : M.2.2.2.2[k]? = some (pc, .bastore, nx, tg)) (hk : tK h a (13, N)) (h1 : 0 ≤ i) (h2 : i < N) (hN : N < 2147483648) (hx : -128 ≤ x ∧ x ≤ 127) (kk : tw_AW l G M d mc ms n0 c2 P nx ls st (hI h a i x)) : tw_AW l G M d mc ms n0 c2 P pc ls (vi x :: vi i :: vr (some a) :: st) h := by
  intro p e s m args below meth c H locs ls' X hl hP hS h0 hn
  obtain ⟨dd, e1⟩ := tw_dec X hd rfl
  subst e1
  have he := tw_ws_get (G := G) hk.2
  rw [tw_c_int hk.1 (by decide) (by decide)] at he
  obtain ⟨x1, x2, x3⟩ := tw_ix h1 h2 hN
  refine va_bast X.1 X.2.1 X.2.2.2.2.2.2.1.1 hP (tw_ws_D hn) hS a 0 he rfl x2 dd (fun H1 locs1 hP1 _ hS1 => ?_)
  have ex : vp_nar .byte (Int32.ofInt x) = Int32.ofInt x := tr_b hx
  rw [ex] at hP1
  have e2 : (tw_ws G h).set a (tw_ad G a, .inl (G.2.1 13, N, .inl (upd (fun j => Int32.ofInt (h.2.1 a (j : Int))) (Int32.ofInt i).toNatClampNeg (Int32.ofInt x)))) = tw_ws G (hI h a i x) := by
    refine tw_ws_set rfl hk.2 ?_ (fun b hb => tw_c_uI hb)
    rw [tw_c_int (h := hI h a i x) hk.1 (by decide) (by decide), x1]
    congr 4
    funext j
    by_cases hj : j = i.toNat
    · subst hj
      simp [upd, uI, up, x3]
    · have hj' : ¬ (j : Int) = i := by omega
      simp [upd, uI, up, hj, hj']
  rw [e2] at hP1
  exact kk p e s m args below meth c H1 locs1 ls' X hl hP1 hS1 h0 hn
theorem ar_zast {a N : Nat} {i x : Int} (hd : M.2.2.2.2[k]? = some (pc, .bastore, nx, tg)) (hk : tK h a (15, N)) (h1 : 0 ≤ i) (h2 : i < N) (hN : N < 2147483648) (hx : 0 ≤ x ∧ x ≤ 1) (kk : tw_AW l G M d mc ms n0 c2 P nx ls st (hI h a i x)) : tw_AW l G M d mc ms n0 c2 P pc ls (vi x :: vi i :: vr (some a) :: st) h := by
  intro p e s m args below meth c H locs ls' X hl hP hS h0 hn
  obtain ⟨dd, e1⟩ := tw_dec X hd rfl
  subst e1
  have he := tw_ws_get (G := G) hk.2
  rw [tw_c_int hk.1 (by decide) (by decide)] at he
  obtain ⟨x1, x2, x3⟩ := tw_ix h1 h2 hN
  refine va_zast X.1 X.2.1 X.2.2.2.2.2.2.1.1 hP (tw_ws_D hn) hS a 2 he rfl x2 dd (fun H1 locs1 hP1 _ hS1 => ?_)
  have ex : vp_nar .boolean (Int32.ofInt x) = Int32.ofInt x := by
    rcases (show x = 0 ∨ x = 1 by omega) with rfl | rfl <;> rfl
  rw [ex] at hP1
  have e2 : (tw_ws G h).set a (tw_ad G a, .inl (G.2.1 15, N, .inl (upd (fun j => Int32.ofInt (h.2.1 a (j : Int))) (Int32.ofInt i).toNatClampNeg (Int32.ofInt x)))) = tw_ws G (hI h a i x) := by
    refine tw_ws_set rfl hk.2 ?_ (fun b hb => tw_c_uI hb)
    rw [tw_c_int (h := hI h a i x) hk.1 (by decide) (by decide), x1]
    congr 4
    funext j
    by_cases hj : j = i.toNat
    · subst hj
      simp [upd, uI, up, x3]
    · have hj' : ¬ (j : Int) = i := by omega
      simp [upd, uI, up, hj, hj']
  rw [e2] at hP1
  exact kk p e s m args below meth c H1 locs1 ls' X hl hP1 hS1 h0 hn
theorem ar_aald16 {a N : Nat} {i : Int} (hd : M.2.2.2.2[k]? = some (pc, .aaload, nx, tg)) (hk : tK h a (16, N)) (h1 : 0 ≤ i) (h2 : i < N) (hN : N < 2147483648) (kk : tw_AW l G M d mc ms n0 c2 P nx ls (vr (h.2.2.1 a i) :: st) h) : tw_AW l G M d mc ms n0 c2 P pc ls (vi i :: vr (some a) :: st) h := by
  intro p e s m args below meth c H locs ls' X hl hP hS h0 hn
  obtain ⟨dd, e1⟩ := tw_dec X hd rfl
  subst e1
  have K := kk p e s m args below meth c H locs ls' X hl hP hS h0 hn
  have he := tw_ws_get (G := G) hk.2
  rw [tw_c_ref hk.1 (by decide)] at he
  obtain ⟨x1, x2, x3⟩ := tw_ix h1 h2 hN
  refine va_aldq X.1 X.2.1 X.2.2.2.2.2.2.1.1 hP a 3 he rfl x2 dd ?_
  rw [x1, x3]
  exact K
theorem ar_aast16 {a N : Nat} {i : Int} {x : Option Nat} (hd : M.2.2.2.2[k]? = some (pc, .aastore, nx, tg)) (hk : tK h a (16, N)) (h1 : 0 ≤ i) (h2 : i < N) (hN : N < 2147483648) (hx : ∀ b, x = some b → ∃ cb Nb C T, tK h b (cb, Nb) ∧ tCl[cb]? = some (C, T, Nb) ∧ (C = "TwinTools$Hand" ∨ (C, "TwinTools$Hand") ∈ castL)) (kk : tw_AW l G M d mc ms n0 c2 P nx ls st (hQ h a i x)) : tw_AW l G M d mc ms n0 c2 P pc ls (vr x :: vi i :: vr (some a) :: st) h := by
  intro p e s m args below meth c H locs ls' X hl hP hS h0 hn
  obtain ⟨dd, e1⟩ := tw_dec X hd rfl
  subst e1
  have he := tw_ws_get (G := G) hk.2
  rw [tw_c_ref hk.1 (by decide)] at he
  obtain ⟨x1, x2, x3⟩ := tw_ix h1 h2 hN
  have fin : ∀ (H1 : Heap) (locs1 : List Loc), va_P G.1 tCl ((tw_ws G h).set a (tw_ad G a, .inl (G.2.1 16, N, .inr (.inr (.inr (.inr (va_up (fun j => (h.2.2.1 a (j : Int)).map (tw_ad G)) (Int32.ofInt i).toNatClampNeg (x.map (tw_ad G))))))))) H1 → va_S (tw_A G) s.heap H1 locs1 → W p l e (tw_rm d mc ms) s m args below meth c H1 locs1 (h.2.2.2 - n0) c2 (MQ below (tw_Q G P mc) args s mc ms (tw_A G)) (F0 m (pc + 1) ls' (st.map (tw_v G))) := by
    intro H1 locs1 hP1 hS1
    have e2 : (tw_ws G h).set a (tw_ad G a, .inl (G.2.1 16, N, .inr (.inr (.inr (.inr (va_up (fun j => (h.2.2.1 a (j : Int)).map (tw_ad G)) (Int32.ofInt i).toNatClampNeg (x.map (tw_ad G)))))))) = tw_ws G (hQ h a i x) := by
      refine tw_ws_set rfl hk.2 ?_ (fun b hb => tw_c_uQ hb)
      rw [tw_c_ref (h := hQ h a i x) hk.1 (by decide), x1]
      congr 7
      funext j
      by_cases hj : j = i.toNat
      · subst hj
        simp [va_up, uQ, upQ, x3]
      · have hj' : ¬ (j : Int) = i := by omega
        simp [va_up, uQ, upQ, hj, hj']
    rw [e2] at hP1
    exact kk p e s m args below meth c H1 locs1 ls' X hl hP1 hS1 h0 hn
  cases x with
  | none => exact va_astqN X.1 X.2.1 X.2.2.2.2.2.2.1.1 hP (tw_ws_D hn) hS a 3 he rfl x2 dd (fun H1 locs1 hP1 _ hS1 => fin H1 locs1 hP1 hS1)
  | some b =>
    obtain ⟨cb, Nb, C, T, y1, y2, y3⟩ := hx b rfl
    have hb := tw_ws_get (G := G) y1.2
    rw [tw_c_obj y1.1 (tw_tcl_len y2)] at hb
    rcases y3 with rfl | y3
    · exact va_astq X.1 X.2.1 X.2.2.2.2.2.2.1.1 hP (tw_ws_D hn) hS a 3 b cb he rfl hb y2 x2 dd (fun H1 locs1 hP1 _ hS1 => fin H1 locs1 hP1 hS1)
    · exact va_astqO X.1 X.2.1 X.2.2.2.2.2.2.1.1 hP (tw_ws_D hn) hS a 3 b cb he rfl (X.2.2.2.2.2.2.1.2.2.1 _ y3) hb y2 x2 dd (fun H1 locs1 hP1 _ hS1 => fin H1 locs1 hP1 hS1)
theorem ar_aald17 {a N : Nat} {i : Int} (hd : M.2.2.2.2[k]? = some (pc, .aaload, nx, tg)) (hk : tK h a (17, N)) (h1 : 0 ≤ i) (h2 : i < N) (hN : N < 2147483648) (kk : tw_AW l G M d mc ms n0 c2 P nx ls (vr (h.2.2.1 a i) :: st) h) : tw_AW l G M d mc ms n0 c2 P pc ls (vi i :: vr (some a) :: st) h := by
  intro p e s m args below meth c H locs ls' X hl hP hS h0 hn
  obtain ⟨dd, e1⟩ := tw_dec X hd rfl
  subst e1
  have K := kk p e s m args below meth c H locs ls' X hl hP hS h0 hn
  have he := tw_ws_get (G := G) hk.2
  rw [tw_c_ref hk.1 (by decide)] at he
  obtain ⟨x1, x2, x3⟩ := tw_ix h1 h2 hN
  refine va_aldq X.1 X.2.1 X.2.2.2.2.2.2.1.1 hP a 4 he rfl x2 dd ?_
  rw [x1, x3]
  exact K
theorem ar_aast17 {a N : Nat} {i : Int} {x : Option Nat} (hd : M.2.2.2.2[k]? = some (pc, .aastore, nx, tg)) (hk : tK h a (17, N)) (h1 : 0 ≤ i) (h2 : i < N) (hN : N < 2147483648) (hx : ∀ b, x = some b → ∃ cb Nb C T, tK h b (cb, Nb) ∧ tCl[cb]? = some (C, T, Nb) ∧ (C = "TwinTools$Valley" ∨ (C, "TwinTools$Valley") ∈ castL)) (kk : tw_AW l G M d mc ms n0 c2 P nx ls st (hQ h a i x)) : tw_AW l G M d mc ms n0 c2 P pc ls (vr x :: vi i :: vr (some a) :: st) h := by
  intro p e s m args below meth c H locs ls' X hl hP hS h0 hn
  obtain ⟨dd, e1⟩ := tw_dec X hd rfl
  subst e1
  have he := tw_ws_get (G := G) hk.2
  rw [tw_c_ref hk.1 (by decide)] at he
  obtain ⟨x1, x2, x3⟩ := tw_ix h1 h2 hN
  have fin : ∀ (H1 : Heap) (locs1 : List Loc), va_P G.1 tCl ((tw_ws G h).set a (tw_ad G a, .inl (G.2.1 17, N, .inr (.inr (.inr (.inr (va_up (fun j => (h.2.2.1 a (j : Int)).map (tw_ad G)) (Int32.ofInt i).toNatClampNeg (x.map (tw_ad G))))))))) H1 → va_S (tw_A G) s.heap H1 locs1 → W p l e (tw_rm d mc ms) s m args below meth c H1 locs1 (h.2.2.2 - n0) c2 (MQ below (tw_Q G P mc) args s mc ms (tw_A G)) (F0 m (pc + 1) ls' (st.map (tw_v G))) := by
    intro H1 locs1 hP1 hS1
    have e2 : (tw_ws G h).set a (tw_ad G a, .inl (G.2.1 17, N, .inr (.inr (.inr (.inr (va_up (fun j => (h.2.2.1 a (j : Int)).map (tw_ad G)) (Int32.ofInt i).toNatClampNeg (x.map (tw_ad G)))))))) = tw_ws G (hQ h a i x) := by
      refine tw_ws_set rfl hk.2 ?_ (fun b hb => tw_c_uQ hb)
      rw [tw_c_ref (h := hQ h a i x) hk.1 (by decide), x1]
      congr 7
      funext j
      by_cases hj : j = i.toNat
      · subst hj
        simp [va_up, uQ, upQ, x3]
      · have hj' : ¬ (j : Int) = i := by omega
        simp [va_up, uQ, upQ, hj, hj']
    rw [e2] at hP1
    exact kk p e s m args below meth c H1 locs1 ls' X hl hP1 hS1 h0 hn
  cases x with
  | none => exact va_astqN X.1 X.2.1 X.2.2.2.2.2.2.1.1 hP (tw_ws_D hn) hS a 4 he rfl x2 dd (fun H1 locs1 hP1 _ hS1 => fin H1 locs1 hP1 hS1)
  | some b =>
    obtain ⟨cb, Nb, C, T, y1, y2, y3⟩ := hx b rfl
    have hb := tw_ws_get (G := G) y1.2
    rw [tw_c_obj y1.1 (tw_tcl_len y2)] at hb
    rcases y3 with rfl | y3
    · exact va_astq X.1 X.2.1 X.2.2.2.2.2.2.1.1 hP (tw_ws_D hn) hS a 4 b cb he rfl hb y2 x2 dd (fun H1 locs1 hP1 _ hS1 => fin H1 locs1 hP1 hS1)
    · exact va_astqO X.1 X.2.1 X.2.2.2.2.2.2.1.1 hP (tw_ws_D hn) hS a 4 b cb he rfl (X.2.2.2.2.2.2.1.2.2.1 _ y3) hb y2 x2 dd (fun H1 locs1 hP1 _ hS1 => fin H1 locs1 hP1 hS1)
theorem ar_aald18 {a N : Nat} {i : Int} (hd : M.2.2.2.2[k]? = some (pc, .aaload, nx, tg)) (hk : tK h a (18, N)) (h1 : 0 ≤ i) (h2 : i < N) (hN : N < 2147483648) (kk : tw_AW l G M d mc ms n0 c2 P nx ls (vr (h.2.2.1 a i) :: st) h) : tw_AW l G M d mc ms n0 c2 P pc ls (vi i :: vr (some a) :: st) h := by
  intro p e s m args below meth c H locs ls' X hl hP hS h0 hn
  obtain ⟨dd, e1⟩ := tw_dec X hd rfl
  subst e1
  have K := kk p e s m args below meth c H locs ls' X hl hP hS h0 hn
  have he := tw_ws_get (G := G) hk.2
  rw [tw_c_ref hk.1 (by decide)] at he
  obtain ⟨x1, x2, x3⟩ := tw_ix h1 h2 hN
  have hlt : (Int32.ofInt i).toNatClampNeg < N := Nat.not_le.mp fun q => x2 (Or.inr q)
  refine W.aald (v := va_rf ((h.2.2.1 a i).map (tw_ad G))) (ty := .array .int) X.1 X.2.1 (hP a _ he) ((X.2.2.2.2.2.2.1.1.2 5 _ rfl).1 N (fun j => va_rf ((h.2.2.1 a (j : Int)).map (tw_ad G)))) rfl (fun q => by cases q) (by show ¬ (_ ∨ (arrV _ _ _).slots.size ≤ _); rw [arrV_size]; exact x2) ?_ rfl rfl dd K
  show (arrV _ _ _).slots[_]? = _
  rw [arrV_read _ _ hlt, x1]
  show some (va_rf (Option.map (tw_ad G) (h.2.2.1 a ((i.toNat : Nat) : Int)))) = _
  rw [x3]
theorem ar_alen {a ci N : Nat} (hd : M.2.2.2.2[k]? = some (pc, .arraylength, nx, tg)) (hk : tK h a (ci, N)) (h1 : 13 ≤ ci) (h2 : ci < 19) (kk : tw_AW l G M d mc ms n0 c2 P nx ls (vi N :: st) h) : tw_AW l G M d mc ms n0 c2 P pc ls (vr (some a) :: st) h := by
  intro p e s m args below meth c H locs ls' X hl hP hS h0 hn
  obtain ⟨dd, e1⟩ := tw_dec X hd rfl
  subst e1
  have K := kk p e s m args below meth c H locs ls' X hl hP hS h0 hn
  have he := tw_ws_get (G := G) hk.2
  have ht : ∃ ty, (tw_tys G)[ci - 13]? = some (G.2.1 ci, ty) := by
    rcases (show ci = 13 ∨ ci = 14 ∨ ci = 15 ∨ ci = 16 ∨ ci = 17 ∨ ci = 18 by omega) with rfl | rfl | rfl | rfl | rfl | rfl <;> exact ⟨_, rfl⟩
  obtain ⟨ty, ht⟩ := ht
  have hx : ∃ x, tw_c G h a = .inl (G.2.1 ci, N, x) := by
    by_cases hc : ci < 16
    · exact ⟨_, tw_c_int hk.1 h1 hc⟩
    · exact ⟨_, tw_c_ref hk.1 (by omega)⟩
  obtain ⟨x, hx⟩ := hx
  rw [hx] at he
  exact va_alen X.1 X.2.1 X.2.2.2.2.2.2.1.1 hP a (ci - 13) he ht (v := Int32.ofInt (N : Int)) (Int32.ofInt_eq_ofNat).symm dd K
end AR2
end
section
theorem tw_goodIn {M : tM} {ws : List Cond} (h : ∀ w ∈ ws, w ∈ tw_tbl) : GoodIn (tw_wds M) ws := fun w hw => ⟨List.mem_cons_of_mem _ (h w hw), good_of_word (List.mem_filter.mp (h w hw)).2⟩
theorem tw_blind {G : tG} {av : List Value} {h : tH} {mc : Nat} : FrameBlind (va_Pc av (fun U => va_P G.1 tCl (tw_ws G h) U.heap ∧ U.heap.size = G.2.2.1 + h.2.2.2 ∧ tw_U G U ∧ h.2.2.2 + mc < 1000000)) := by
  intro a U g mk q
  obtain ⟨q1, q2, q3, q4, q5⟩ := q
  exact ⟨q1, q2, q3, tw_U_vm (u := U) rfl rfl q4, q5⟩
section AR3
variable {l : Launch} {G : tG} {M : tM} {d mc ms n0 c2 : Nat} {P : Option tV → tH → Prop} {ls : List (Nat × tV)} {st : List tV} {h : tH} {k pc nx tg : Nat}
/-- behind a call -/
theorem tw_run {p : Program} {e : Env} {s : State} {m : MethodId} {args : Array Value} {below : List Frame} {meth : Method} {c : Code} {H : Heap} {locs : List Loc} {ls' : Array Slot} {mc' ms' : Nat} {P' : Option tV → tH → Prop} {st0 : List Value} {av : Array Value}
    (X : tw_X l G M n0 mc p s m args meth c) (hl : lv_has ls' M.2.2.1 (tw_L G ls)) (hP : va_P G.1 tCl (tw_ws G h) H) (hS : va_S (tw_A G) s.heap H locs) (h0 : n0 ≤ h.2.2.2) (hn : h.2.2.2 < 1000000) (hb : h.2.2.2 + mc' < 1000000)
    (hr : H.size = G.2.2.1 + h.2.2.2 → va_Run p l e (tw_rm d mc ms) s m args below meth c H locs (h.2.2.2 - n0) c2 mc' ms' (F0 m pc ls' st0) (st.map (tw_v G)) (tw_Q G P' mc' av) (tw_A G))
    (kk : ∀ r h', P' r h' → tw_AW l G M d mc ms n0 (c2 + ms') P (pc + 3) ls (r.toList ++ st) h') :
    W p l e (tw_rm d mc ms) s m args below meth c H locs (h.2.2.2 - n0) c2 (MQ below (tw_Q G P mc) args s mc ms (tw_A G)) (F0 m pc ls' st0) := by
  intro T hT Y
  have hz : H.size = G.2.2.1 + h.2.2.2 := by
    rw [← hT]
    exact tw_size Y X.2.2.2.2.2.2.2.2.1 h0 hn (by rw [hT]; exact hP) (by rw [hT]; exact hS.1)
  obtain ⟨v, st₀, t, T', L, z0, Y', hL, e1, e2, ⟨r, h', hv, hp, hP', hsz, hF⟩, stp⟩ := hr hz T hT Y
  have hn' : h'.2.2.2 = h.2.2.2 + mc' := by rw [z0] at hsz; omega
  have hS' : va_S (tw_A G) s.heap T'.heap (locs ++ L) := by
    rw [e1]
    refine ⟨Nat.le_trans hS.1 (by rw [← z0]; exact hF.1), fun q h1 h2 => ?_, fun q hq => ?_⟩
    · rw [hF.2 q (by rw [z0]; exact Nat.lt_of_lt_of_le h1 hS.1) h2, z0]
      exact hS.2.1 q h1 h2
    · rcases List.mem_append.mp hq with h | h
      · exact hS.2.2 q h
      · exact hL q h
  have ec : h.2.2.2 - n0 + mc' = h'.2.2.2 - n0 := by omega
  rw [ec] at Y'
  obtain ⟨t2, a1, b1⟩ := kk r h' hp p e s m args below meth c T'.heap (locs ++ L) ls' X hl (by rw [e1]; exact hP') hS' (by omega) (by omega) T' rfl Y'
  refine ⟨t2, stp t2 ?_, b1⟩
  have ev : v = r.map (tw_v G) := by simpa using hv
  have es : v.toList ++ st.map (tw_v G) = (r.toList ++ st).map (tw_v G) := by
    rw [ev, List.map_append]
    cases r <;> rfl
  show Steps p.tables e below (T'.setTop (F0 m (pc + 3) ls' (v.toList ++ st.map (tw_v G)))) t2
  rw [es]
  exact a1
theorem tw_pre {p : Program} {s : State} {m : MethodId} {args : Array Value} {meth : Method} {c : Code} {H : Heap} {locs : List Loc} {av : List tV} {mc' : Nat} (X : tw_X l G M n0 mc p s m args meth c) (hP : va_P G.1 tCl (tw_ws G h) H) (hS : va_S (tw_A G) s.heap H locs) (hb : h.2.2.2 + mc' < 1000000) (hz : H.size = G.2.2.1 + h.2.2.2) :
    ∀ U : State, U.heap = H → s.WarmedH U.vm → va_Pc (av.map (tw_v G)) (fun U => va_P G.1 tCl (tw_ws G h) U.heap ∧ U.heap.size = G.2.2.1 + h.2.2.2 ∧ tw_U G U ∧ h.2.2.2 + mc' < 1000000) ((av.map (tw_v G)).toArray) U := by
  intro U hU hW
  refine ⟨rfl, by rw [hU]; exact hP, by rw [hU]; exact hz, tw_U_warm hW (by rw [hU]; exact hS.1) (fun a h1 h2 => by rw [hU]; exact hS.2.1 a h1 h2) X.2.2.2.2.2.2.1, hb⟩
theorem tw_recv {s : State} {H : Heap} {a ci N : Nat} {C : String} {T : u_T} (hK : va_K G.1 tCl (tw_tys G) s) (hP : va_P G.1 tCl (tw_ws G h) H) (hk : tK h a (ci, N)) (hc : tCl[ci]? = some (C, T, N)) : ∃ cell : Cell, H[tw_ad G a]? = some cell ∧ cell.vm.isStatics = false ∧ s.vm.findClass C = some cell.cls := by
  have he := tw_ws_get (G := G) hk.2
  rw [tw_c_obj hk.1 (tw_tcl_len hc)] at he
  exact va_recv hK hP hc he
theorem tw_cat_sum (G : tG) (st : List tV) : ((st.map (tw_v G)).map fun v => v.category).sum = (st.map tw_w).sum := by
  rw [List.map_map]
  congr 1
  apply List.map_congr_left
  intro v _
  exact tw_v_cat G v
theorem tw_lvroom {m : MethodId} {ls' : Array Slot} {st0 : List Value} (h : (st.map tw_w).sum ≤ 8) : 2 * (F0 m pc ls' st0).monitorRoom + ((st.map (tw_v G)).map fun v => v.category).sum ≤ 8 := lv_room (rest := st0) (by rw [tw_cat_sum]; exact h)
def tw_PD (y : MethodName) (n : Nat) : Prop := y.cls ≠ "java/lang/invoke/MethodHandle" ∧ y.cls ≠ "java/lang/invoke/VarHandle" ∧ (parseMethodDescriptor y.desc).map (fun d => d.parameters.length) = some n
/-- the words of a call -/
def tw_LV (own : String) (i : Nat) (M' : tM) (C : String) (n : Nat) : Prop := (Cond.methodLink own i M'.1 ∈ tw_tbl ∧ Cond.instanceMethod M'.1 ∈ tw_tbl ∧ Cond.selects C M'.1 M'.1 ∈ tw_tbl ∧ Cond.initialized C ∈ tw_tbl ∧ Cond.code M'.1 M'.2.1 M'.2.2.1 M'.2.2.2.1 ∈ tw_tbl) ∧ M'.1.cls = C ∧ tw_PD M'.1 n
def tw_LS (own : String) (i : Nat) (M' : tM) (n : Nat) : Prop := (Cond.methodLink own i M'.1 ∈ tw_tbl ∧ Cond.static M'.1 ∈ tw_tbl ∧ Cond.initialized M'.1.cls ∈ tw_tbl ∧ Cond.code M'.1 M'.2.1 M'.2.2.1 M'.2.2.2.1 ∈ tw_tbl) ∧ tw_PD M'.1 n
def tw_LI (own : String) (i : Nat) (M' : tM) (n : Nat) : Prop := (Cond.methodLink own i M'.1 ∈ tw_tbl ∧ Cond.instanceMethod M'.1 ∈ tw_tbl ∧ Cond.initialized M'.1.cls ∈ tw_tbl ∧ Cond.code M'.1 M'.2.1 M'.2.2.1 M'.2.2.2.1 ∈ tw_tbl) ∧ (M'.1.name = "<init>" ∧ M'.2.2.2.1 = none) ∧ tw_PD M'.1 n
def tw_LU (own : String) (i : Nat) (x : MethodName) (M' : tM) (C : String) (n : Nat) : Prop := (Cond.methodLink own i x ∈ tw_tbl ∧ Cond.sameMethod x.cls M'.1.cls x.name x.desc ∈ tw_tbl ∧ Cond.selects C x M'.1 ∈ tw_tbl ∧ Cond.instanceMethod M'.1 ∈ tw_tbl ∧ Cond.initialized M'.1.cls ∈ tw_tbl ∧ Cond.code M'.1 M'.2.1 M'.2.2.1 M'.2.2.2.1 ∈ tw_tbl) ∧ M'.1 = ⟨M'.1.cls, x.name, x.desc⟩ ∧ tw_PD M'.1 n
def tw_LO (own : String) (i : Nat) (x : MethodName) (owner : String) (M' M0 : tM) (C : String) (n : Nat) : Prop := (Cond.methodLink own i x ∈ tw_tbl ∧ Cond.sameMethod x.cls owner x.name x.desc ∈ tw_tbl ∧ Cond.instanceMethod M0.1 ∈ tw_tbl ∧ Cond.selects C x M'.1 ∈ tw_tbl ∧ Cond.instanceMethod M'.1 ∈ tw_tbl ∧ Cond.initialized M'.1.cls ∈ tw_tbl ∧ Cond.code M'.1 M'.2.1 M'.2.2.1 M'.2.2.2.1 ∈ tw_tbl ∧ Cond.code M0.1 M0.2.1 M0.2.2.1 M0.2.2.2.1 ∈ tw_tbl) ∧ M0.1 = ⟨owner, x.name, x.desc⟩ ∧ tw_PD M0.1 n
def tw_LP (own : String) (i : Nat) (M' : tM) (n : Nat) : Prop := (Cond.methodLink own i M'.1 ∈ tw_tbl ∧ Cond.sameMethod M'.1.cls M'.1.cls M'.1.name M'.1.desc ∈ tw_tbl ∧ Cond.superclass own M'.1.cls ∈ tw_tbl ∧ Cond.instanceMethod M'.1 ∈ tw_tbl ∧ Cond.initialized M'.1.cls ∈ tw_tbl ∧ Cond.code M'.1 M'.2.1 M'.2.2.1 M'.2.2.2.1 ∈ tw_tbl) ∧ M'.1.name ≠ "<init>" ∧ tw_PD M'.1 n
theorem tw_wds_in {M' : tM} (h : Cond.code M'.1 M'.2.1 M'.2.2.1 M'.2.2.2.1 ∈ tw_tbl) : ∀ w ∈ tw_wds M', w ∈ tw_tbl := by
  intro w hw
  rcases List.mem_cons.mp hw with rfl | hw
  · exact h
  · exact hw
theorem ar_callV {i mc' ms' d' n : Nat} {M' : tM} {as : List tV} {P' : Option tV → tH → Prop} {a ci N : Nat} {C : String} {T : u_T} (hd : M.2.2.2.2[k]? = some (pc, .invokevirtual i, nx, tg)) (hw : tw_LV M.1.cls i M' C n) (hk : tK h a (ci, N)) (hc : tCl[ci]? = some (C, T, N)) (hM : tw_M l G d' mc' ms' M' (vr (some a) :: as) h P') (hn' : as.length = n) (hdd : d' + 1 ≤ d) (hL : M'.2.2.1 ≤ 45) (hm : h.2.2.2 - n0 + mc' ≤ mc ∧ c2 + ms' ≤ ms) (hst : (st.map tw_w).sum ≤ 8) (kk : ∀ r h', P' r h' → tw_AW l G M d mc ms n0 (c2 + ms') P nx ls (r.toList ++ st) h') : tw_AW l G M d mc ms n0 c2 P pc ls (as.reverse ++ vr (some a) :: st) h := by
  intro p e s m args below meth c H locs ls' X hl hP hS h0 hn
  obtain ⟨dd, e1⟩ := tw_dec X hd rfl
  subst e1
  have hB : h.2.2.2 + mc' < 1000000 := by have := X.2.2.2.2.2.2.2.2.2.1; omega
  have hws : ∀ w ∈ tw_wds M, w.before args s = true := X.2.2.2.2.2.1
  refine tw_run (mc' := mc') (ms' := ms') (P' := P') (av := ((vr (some a) :: as).map (tw_v G)).toArray) X hl hP hS h0 hn hB (fun hz => ?_) kk
  obtain ⟨⟨w1, w2, w3, w4, w5⟩, hC, w6⟩ := hw
  have hg : GoodIn (tw_wds M) (wsV M.1.cls i C M'.1 (tw_wds M')) := tw_goodIn (by
    intro w hw
    rcases List.mem_append.mp hw with hw | hw
    · simp only [List.mem_cons, List.not_mem_nil, or_false] at hw
      rcases hw with rfl | rfl | rfl | rfl <;> assumption
    · exact tw_wds_in w5 w hw)
  exact va_runV (As := as.map (tw_v G)) ⟨X.1, X.2.1, X.2.2.2.1, X.2.2.2.2.1, hws⟩ hM (cwV n hws hg rfl rfl rfl ⟨hC, w6⟩ ⟨hdd, by show 8 + (M'.2.2.1 + 11) + 64 * d' ≤ 64 * d; omega⟩) ⟨tw_blind, tw_recv X.2.2.2.2.2.2.1.1 hP hk hc, fun U hU hW => tw_pre (av := vr (some a) :: as) X hP hS hB hz U hU hW⟩ rfl (by rw [List.length_map]; exact hn') hl.1 (by simp [List.map_append, List.map_reverse, tw_v, va_rf]) (tw_lvroom hst) dd ⟨hm.1, hm.2⟩
theorem ar_callU {i mc' ms' d' n : Nat} {M' : tM} {as : List tV} {P' : Option tV → tH → Prop} {a ci N : Nat} {C : String} {T : u_T} {x : MethodName} (hd : M.2.2.2.2[k]? = some (pc, .invokevirtual i, nx, tg)) (hw : tw_LU M.1.cls i x M' C n) (hk : tK h a (ci, N)) (hc : tCl[ci]? = some (C, T, N)) (hM : tw_M l G d' mc' ms' M' (vr (some a) :: as) h P') (hn' : as.length = n) (hdd : d' + 1 ≤ d) (hL : M'.2.2.1 ≤ 45) (hm : h.2.2.2 - n0 + mc' ≤ mc ∧ c2 + ms' ≤ ms) (hst : (st.map tw_w).sum ≤ 8) (kk : ∀ r h', P' r h' → tw_AW l G M d mc ms n0 (c2 + ms') P nx ls (r.toList ++ st) h') : tw_AW l G M d mc ms n0 c2 P pc ls (as.reverse ++ vr (some a) :: st) h := by
  intro p e s m args below meth c H locs ls' X hl hP hS h0 hn
  obtain ⟨dd, e1⟩ := tw_dec X hd rfl
  subst e1
  have hB : h.2.2.2 + mc' < 1000000 := by have := X.2.2.2.2.2.2.2.2.2.1; omega
  have hws : ∀ w ∈ tw_wds M, w.before args s = true := X.2.2.2.2.2.1
  refine tw_run (mc' := mc') (ms' := ms') (P' := P') (av := ((vr (some a) :: as).map (tw_v G)).toArray) X hl hP hS h0 hn hB (fun hz => ?_) kk
  obtain ⟨⟨w1, w2, w3, w4, w5, w7⟩, hC, w6⟩ := hw
  have hg : GoodIn (tw_wds M) (va_wsU M.1.cls i C M'.1.cls x M'.1 (tw_wds M')) := tw_goodIn (by
    intro w hw
    rcases List.mem_append.mp hw with hw | hw
    · simp only [List.mem_cons, List.not_mem_nil, or_false] at hw
      rcases hw with rfl | rfl | rfl | rfl | rfl <;> assumption
    · exact tw_wds_in w7 w hw)
  have w8 := w6.2.2
  rw [show M'.1.desc = x.desc by rw [hC]] at w8
  exact va_runU (As := as.map (tw_v G)) ⟨X.1, X.2.1, X.2.2.2.1, X.2.2.2.2.1, hws⟩ hM (va_cwU n hws hg rfl rfl rfl hC ⟨w6.1, w6.2.1, w8⟩ ⟨hdd, by show 8 + (M'.2.2.1 + 11) + 64 * d' ≤ 64 * d; omega⟩) ⟨tw_blind, tw_recv X.2.2.2.2.2.2.1.1 hP hk hc, fun U hU hW => tw_pre (av := vr (some a) :: as) X hP hS hB hz U hU hW⟩ rfl (by rw [List.length_map]; exact hn') hl.1 (by simp [List.map_append, List.map_reverse, tw_v, va_rf]) (tw_lvroom hst) dd ⟨hm.1, hm.2⟩
theorem ar_callO {i mc' ms' d' n : Nat} {M' : tM} {as : List tV} {P' : Option tV → tH → Prop} {a ci N : Nat} {C : String} {T : u_T} {x : MethodName} {owner : String} {M0 : tM} (hd : M.2.2.2.2[k]? = some (pc, .invokevirtual i, nx, tg)) (hw : tw_LO M.1.cls i x owner M' M0 C n) (hk : tK h a (ci, N)) (hc : tCl[ci]? = some (C, T, N)) (hM : tw_M l G d' mc' ms' M' (vr (some a) :: as) h P') (hn' : as.length = n) (hdd : d' + 1 ≤ d) (hL : M'.2.2.1 ≤ 45) (hm : h.2.2.2 - n0 + mc' ≤ mc ∧ c2 + ms' ≤ ms) (hst : (st.map tw_w).sum ≤ 8) (kk : ∀ r h', P' r h' → tw_AW l G M d mc ms n0 (c2 + ms') P nx ls (r.toList ++ st) h') : tw_AW l G M d mc ms n0 c2 P pc ls (as.reverse ++ vr (some a) :: st) h := by
  intro p e s m args below meth c H locs ls' X hl hP hS h0 hn
  obtain ⟨dd, e1⟩ := tw_dec X hd rfl
  subst e1
  have hB : h.2.2.2 + mc' < 1000000 := by have := X.2.2.2.2.2.2.2.2.2.1; omega
  have hws : ∀ w ∈ tw_wds M, w.before args s = true := X.2.2.2.2.2.1
  refine tw_run (mc' := mc') (ms' := ms') (P' := P') (av := ((vr (some a) :: as).map (tw_v G)).toArray) X hl hP hS h0 hn hB (fun hz => ?_) kk
  obtain ⟨⟨w1, w2, w3, w4, w5, w9, w7, wA⟩, hC, w6⟩ := hw
  rw [hC] at w3
  have hg : GoodIn (tw_wds M) (va_wsO M.1.cls i C owner x M'.1 (tw_wds M')) := tw_goodIn (by
    intro w hw
    rcases List.mem_append.mp hw with hw | hw
    · simp only [List.mem_cons, List.not_mem_nil, or_false] at hw
      rcases hw with rfl | rfl | rfl | rfl | rfl | rfl <;> assumption
    · exact tw_wds_in w7 w hw)
  have w8 := w6.2.2
  rw [show M0.1.desc = x.desc by rw [hC]] at w8
  have w61 := w6.1
  have w62 := w6.2.1
  rw [show M0.1.cls = owner by rw [hC]] at w61 w62
  rw [hC] at wA
  exact va_runU (As := as.map (tw_v G)) ⟨X.1, X.2.1, X.2.2.2.1, X.2.2.2.2.1, hws⟩ hM (va_cwO n hws hg rfl rfl rfl (List.mem_cons_of_mem _ wA) ⟨w61, w62, w8⟩ ⟨hdd, by show 8 + (M'.2.2.1 + 11) + 64 * d' ≤ 64 * d; omega⟩) ⟨tw_blind, tw_recv X.2.2.2.2.2.2.1.1 hP hk hc, fun U hU hW => tw_pre (av := vr (some a) :: as) X hP hS hB hz U hU hW⟩ rfl (by rw [List.length_map]; exact hn') hl.1 (by simp [List.map_append, List.map_reverse, tw_v, va_rf]) (tw_lvroom hst) dd ⟨hm.1, hm.2⟩
theorem ar_callP {i mc' ms' d' n : Nat} {M' : tM} {as : List tV} {P' : Option tV → tH → Prop} {a ci N : Nat} {C : String} {T : u_T} (hd : M.2.2.2.2[k]? = some (pc, .invokespecial i, nx, tg)) (hw : tw_LP M.1.cls i M' n) (hk : tK h a (ci, N)) (hc : tCl[ci]? = some (C, T, N)) (hM : tw_M l G d' mc' ms' M' (vr (some a) :: as) h P') (hn' : as.length = n) (hdd : d' + 1 ≤ d) (hL : M'.2.2.1 ≤ 45) (hm : h.2.2.2 - n0 + mc' ≤ mc ∧ c2 + ms' ≤ ms) (hst : (st.map tw_w).sum ≤ 8) (kk : ∀ r h', P' r h' → tw_AW l G M d mc ms n0 (c2 + ms') P nx ls (r.toList ++ st) h') : tw_AW l G M d mc ms n0 c2 P pc ls (as.reverse ++ vr (some a) :: st) h := by
  intro p e s m args below meth c H locs ls' X hl hP hS h0 hn
  obtain ⟨dd, e1⟩ := tw_dec X hd rfl
  subst e1
  have hB : h.2.2.2 + mc' < 1000000 := by have := X.2.2.2.2.2.2.2.2.2.1; omega
  have hws : ∀ w ∈ tw_wds M, w.before args s = true := X.2.2.2.2.2.1
  refine tw_run (mc' := mc') (ms' := ms') (P' := P') (av := ((vr (some a) :: as).map (tw_v G)).toArray) X hl hP hS h0 hn hB (fun hz => ?_) kk
  obtain ⟨⟨w1, w2, w3, w4, w5, w7⟩, hC, w6⟩ := hw
  have hg : GoodIn (tw_wds M) (va_wsSU M.1.cls i M'.1 (tw_wds M')) := tw_goodIn (by
    intro w hw
    rcases List.mem_append.mp hw with hw | hw
    · simp only [List.mem_cons, List.not_mem_nil, or_false] at hw
      rcases hw with rfl | rfl | rfl | rfl | rfl <;> assumption
    · exact tw_wds_in w7 w hw)
  exact va_runSU (As := as.map (tw_v G)) (X.2.2.2.2.2.2.1.1.1 ci _ hc).2 ⟨X.1, X.2.1, X.2.2.2.1, X.2.2.2.2.1, hws⟩ hM (va_cwSU n hws hg rfl rfl rfl ⟨hC, w6.2.2⟩ ⟨hdd, by show 8 + (M'.2.2.1 + 11) + 64 * d' ≤ 64 * d; omega⟩) ⟨tw_blind, tw_recv X.2.2.2.2.2.2.1.1 hP hk hc, fun U hU hW => tw_pre (av := vr (some a) :: as) X hP hS hB hz U hU hW⟩ rfl (by rw [List.length_map]; exact hn') hl.1 (by simp [List.map_append, List.map_reverse, tw_v, va_rf]) (tw_lvroom hst) dd ⟨hm.1, hm.2⟩
theorem ar_callS {i mc' ms' d' n : Nat} {M' : tM} {as : List tV} {P' : Option tV → tH → Prop} (hd : M.2.2.2.2[k]? = some (pc, .invokestatic i, nx, tg)) (hw : tw_LS M.1.cls i M' n) (hM : tw_M l G d' mc' ms' M' (as) h P') (hn' : as.length = n) (hdd : d' + 1 ≤ d) (hL : M'.2.2.1 ≤ 45) (hm : h.2.2.2 - n0 + mc' ≤ mc ∧ c2 + ms' ≤ ms) (hst : (st.map tw_w).sum ≤ 8) (kk : ∀ r h', P' r h' → tw_AW l G M d mc ms n0 (c2 + ms') P nx ls (r.toList ++ st) h') : tw_AW l G M d mc ms n0 c2 P pc ls (as.reverse ++ st) h := by
  intro p e s m args below meth c H locs ls' X hl hP hS h0 hn
  obtain ⟨dd, e1⟩ := tw_dec X hd rfl
  subst e1
  have hB : h.2.2.2 + mc' < 1000000 := by have := X.2.2.2.2.2.2.2.2.2.1; omega
  have hws : ∀ w ∈ tw_wds M, w.before args s = true := X.2.2.2.2.2.1
  refine tw_run (mc' := mc') (ms' := ms') (P' := P') (av := ((as).map (tw_v G)).toArray) X hl hP hS h0 hn hB (fun hz => ?_) kk
  obtain ⟨⟨w1, w2, w3, w4⟩, w6⟩ := hw
  have hg : GoodIn (tw_wds M) (va_wsS M.1.cls i M'.1 (tw_wds M')) := tw_goodIn (by
    intro w hw
    rcases List.mem_append.mp hw with hw | hw
    · simp only [List.mem_cons, List.not_mem_nil, or_false] at hw
      rcases hw with rfl | rfl | rfl <;> assumption
    · exact tw_wds_in w4 w hw)
  exact va_runS (As := as.map (tw_v G)) ⟨X.1, X.2.1, X.2.2.2.1, X.2.2.2.2.1, hws⟩ hM (va_cwS n hws hg rfl rfl rfl w6 ⟨hdd, by show 8 + (M'.2.2.1 + 11) + 64 * d' ≤ 64 * d; omega⟩) ⟨tw_blind, fun U hU hW => tw_pre (av := as) X hP hS hB hz U hU hW⟩ rfl (by rw [List.length_map]; exact hn') hl.1 (by simp [List.map_append, List.map_reverse, tw_v, va_rf]) (tw_lvroom hst) dd ⟨hm.1, hm.2⟩
theorem ar_callI {i mc' ms' d' n : Nat} {M' : tM} {as : List tV} {P' : Option tV → tH → Prop} {a : Nat} (hd : M.2.2.2.2[k]? = some (pc, .invokespecial i, nx, tg)) (hw : tw_LI M.1.cls i M' n) (hM : tw_M l G d' mc' ms' M' (vr (some a) :: as) h P') (hn' : as.length = n) (hdd : d' + 1 ≤ d) (hL : M'.2.2.1 ≤ 45) (hm : h.2.2.2 - n0 + mc' ≤ mc ∧ c2 + ms' ≤ ms) (hst : (st.map tw_w).sum ≤ 8) (kk : ∀ r h', P' r h' → tw_AW l G M d mc ms n0 (c2 + ms') P nx ls (r.toList ++ st) h') : tw_AW l G M d mc ms n0 c2 P pc ls (as.reverse ++ vr (some a) :: st) h := by
  intro p e s m args below meth c H locs ls' X hl hP hS h0 hn
  obtain ⟨dd, e1⟩ := tw_dec X hd rfl
  subst e1
  have hB : h.2.2.2 + mc' < 1000000 := by have := X.2.2.2.2.2.2.2.2.2.1; omega
  have hws : ∀ w ∈ tw_wds M, w.before args s = true := X.2.2.2.2.2.1
  refine tw_run (mc' := mc') (ms' := ms') (P' := P') (av := ((vr (some a) :: as).map (tw_v G)).toArray) X hl hP hS h0 hn hB (fun hz => ?_) kk
  obtain ⟨⟨w1, w2, w3, w4⟩, ⟨hC, hC2⟩, w6⟩ := hw
  have hg : GoodIn (tw_wds M) (tw_wds M') := tw_goodIn (tw_wds_in w4)
  have hw' : tw_wds M' = Cond.code M'.1 M'.2.1 M'.2.2.1 none :: tw_tbl := by rw [← hC2]; rfl
  exact va_runI (As := as.map (tw_v G)) ⟨X.1, X.2.1, X.2.2.2.1, X.2.2.2.2.1, hws⟩ hM (cwI n hws hg hw' rfl rfl (hws _ (List.mem_cons_of_mem _ w3)) (hws _ (List.mem_cons_of_mem _ w1)) (hws _ (List.mem_cons_of_mem _ w2)) hC w6 ⟨hdd, by show 8 + (M'.2.2.1 + 11) + 64 * d' ≤ 64 * d; omega⟩) ⟨tw_blind, fun U hU hW => tw_pre (av := vr (some a) :: as) X hP hS hB hz U hU hW⟩ rfl (by rw [List.length_map]; exact hn') hl.1 (by simp [List.map_append, List.map_reverse, tw_v, va_rf]) (tw_lvroom hst) dd ⟨hm.1, hm.2⟩
end AR3
end
section
section AR4
variable {l : Launch} {G : tG} {M : tM} {d mc ms n0 c2 : Nat} {P : Option tV → tH → Prop} {ls : List (Nat × tV)} {st : List tV} {h : tH} {k pc nx tg : Nat}
theorem tw_end {p : Program} {s : State} {m : MethodId} {args : Array Value} {meth : Method} {c : Code} {H : Heap} {locs : List Loc} (X : tw_X l G M n0 mc p s m args meth c) (hP : va_P G.1 tCl (tw_ws G h) H) (hS : va_S (tw_A G) s.heap H locs) (hc : h.2.2.2 = n0 + mc) (r : Option tV) (hp : P r h) : ∀ t : State, t.heap = H → s.WarmedH t.vm → tw_Q G P mc args s (.returned (r.map (tw_v G))) t :=
  fun t ht _ => ⟨r, h, rfl, hp, by rw [ht]; exact hP, by rw [X.2.2.2.2.2.2.2.2.1, hc]; omega, hS.F ht⟩
theorem ar_iret {x : Int} (hd : M.2.2.2.2[k]? = some (pc, .ireturn, nx, tg)) (hr : M.2.2.2.1 = some .int) (hc : h.2.2.2 = n0 + mc) (hs : c2 ≤ ms) (hp : P (some (vi x)) h) : tw_AW l G M d mc ms n0 c2 P pc ls [vi x] h := by
  intro p e s m args below meth c H locs ls' X hl hP hS h0 hn
  obtain ⟨dd, e1⟩ := tw_dec X hd rfl
  subst e1
  have ec : h.2.2.2 - n0 = mc := by omega
  rw [ec]
  refine W.widen (k := mc) (n := ms) (Nat.le_refl _) hs ?_
  exact W.iret X.1 X.2.1 (X.2.2.1.trans hr) (tw_end X hP hS hc (some (vi x)) hp) hS.2.2 dd X.2.2.2.2.2.2.2.1
theorem ar_zret {x : Int} (hd : M.2.2.2.2[k]? = some (pc, .ireturn, nx, tg)) (hr : M.2.2.2.1 = some .boolean) (hx : 0 ≤ x ∧ x ≤ 1) (hc : h.2.2.2 = n0 + mc) (hs : c2 ≤ ms) (hp : P (some (vi x)) h) : tw_AW l G M d mc ms n0 c2 P pc ls [vi x] h := by
  intro p e s m args below meth c H locs ls' X hl hP hS h0 hn
  obtain ⟨dd, e1⟩ := tw_dec X hd rfl
  subst e1
  have ec : h.2.2.2 - n0 = mc := by omega
  rw [ec]
  refine W.widen (k := mc) (n := ms) (Nat.le_refl _) hs ?_
  exact W.zret X.1 X.2.1 (X.2.2.1.trans hr) (by rcases (show x = 0 ∨ x = 1 by omega) with rfl | rfl <;> rfl) (tw_end X hP hS hc (some (vi x)) hp) hS.2.2 dd X.2.2.2.2.2.2.2.1
theorem ar_lret {x : Int} (hd : M.2.2.2.2[k]? = some (pc, .lreturn, nx, tg)) (hr : M.2.2.2.1 = some .long) (hc : h.2.2.2 = n0 + mc) (hs : c2 ≤ ms) (hp : P (some (vl x)) h) : tw_AW l G M d mc ms n0 c2 P pc ls [vl x] h := by
  intro p e s m args below meth c H locs ls' X hl hP hS h0 hn
  obtain ⟨dd, e1⟩ := tw_dec X hd rfl
  subst e1
  have ec : h.2.2.2 - n0 = mc := by omega
  rw [ec]
  refine W.widen (k := mc) (n := ms) (Nat.le_refl _) hs ?_
  exact W.lret X.1 X.2.1 (X.2.2.1.trans hr) (tw_end X hP hS hc (some (vl x)) hp) hS.2.2 dd X.2.2.2.2.2.2.2.1
theorem ar_ret (hd : M.2.2.2.2[k]? = some (pc, .return_, nx, tg)) (hr : M.2.2.2.1 = none) (hc : h.2.2.2 = n0 + mc) (hs : c2 ≤ ms) (hp : P none h) : tw_AW l G M d mc ms n0 c2 P pc ls [] h := by
  intro p e s m args below meth c H locs ls' X hl hP hS h0 hn
  obtain ⟨dd, e1⟩ := tw_dec X hd rfl
  subst e1
  have ec : h.2.2.2 - n0 = mc := by omega
  rw [ec]
  refine W.widen (k := mc) (n := ms) (Nat.le_refl _) hs ?_
  exact W.vret X.1 X.2.1 (X.2.2.1.trans hr) (tw_end X hP hS hc none hp) hS.2.2 dd X.2.2.2.2.2.2.2.1
theorem ar_aret {r : Option Nat} {nm : String} (hd : M.2.2.2.2[k]? = some (pc, .areturn, nx, tg)) (hr : M.2.2.2.1 = some (.object nm)) (hc : h.2.2.2 = n0 + mc) (hs : c2 ≤ ms) (hp : P (some (vr r)) h) : tw_AW l G M d mc ms n0 c2 P pc ls [vr r] h := by
  intro p e s m args below meth c H locs ls' X hl hP hS h0 hn
  obtain ⟨dd, e1⟩ := tw_dec X hd rfl
  subst e1
  have ec : h.2.2.2 - n0 = mc := by omega
  rw [ec]
  refine W.widen (k := mc) (n := ms) (Nat.le_refl _) hs ?_
  exact W.aret X.1 X.2.1 (X.2.2.1.trans hr) (Or.inl ⟨nm, rfl⟩) (va_rf_or _) (tw_end X hP hS hc (some (vr r)) hp) hS.2.2 dd X.2.2.2.2.2.2.2.1
theorem ar_objInit {i a : Nat} (hd : M.2.2.2.2[k]? = some (pc, .invokespecial i, nx, tg)) (hw : Cond.methodLink M.1.cls i Lib.objectInit ∈ tw_tbl) (h1 : Cond.instanceMethod Lib.objectInit ∈ tw_tbl) (h2 : Cond.code Lib.objectInit ⟨#[0xb1]⟩ 1 none ∈ tw_tbl) (hdd : 1 ≤ d) (hst : (st.map tw_w).sum ≤ 8) (kk : tw_AW l G M d mc ms n0 c2 P nx ls st h) : tw_AW l G M d mc ms n0 c2 P pc ls (vr (some a) :: st) h := by
  intro p e s m args below meth c H locs ls' X hl hP hS h0 hn
  obtain ⟨dd, e1⟩ := tw_dec X hd rfl
  subst e1
  have K := kk p e s m args below meth c H locs ls' X hl hP hS h0 hn
  have hws : ∀ w ∈ tw_tbl, w.before args s = true := fun w h => X.2.2.2.2.2.1 w (List.mem_cons_of_mem _ h)
  refine W.objInit X.1 X.2.1 X.2.2.2.2.1 (hws _ hw) (hws _ h1) (hws _ h2) (g := F0 m pc ls' _) rfl (hl.1.trans X.2.2.2.1.symm) rfl dd ?_ ?_ K
  · exact hdd
  · have := tw_lvroom (G := G) (m := m) (pc := pc) (ls' := ls') (st0 := (vr (some a) :: st).map (tw_v G)) hst
    show _ + 12 ≤ 64 * d
    have e : 2 * (F0 m pc ls' ((vr (some a) :: st).map (tw_v G))).monitorRoom + ((st.map (tw_v G)).map fun v => v.category).sum ≤ 8 := this
    omega
def tw_args : Nat → List tV → List (Nat × tV)
  | _, [] => []
  | i, v :: vs => (i, v) :: tw_args (if tw_w v = 2 then i + 2 else i + 1) vs
theorem tw_args_L (G : tG) : ∀ (vs : List tV) (i : Nat), lv_args i (vs.map (tw_v G)) = tw_L G (tw_args i vs)
  | [], _ => rfl
  | v :: vs, i => by
    simp only [List.map_cons, lv_args, tw_args, tw_L, tw_v_cat]
    rw [tw_args_L G vs]
theorem tw_sl_len (G : tG) : ∀ (vs : List tV), (lg_sl (vs.map (tw_v G))).length = (vs.map tw_w).sum
  | [] => rfl
  | v :: vs => by
    have ih := tw_sl_len G vs
    simp only [lg_sl] at ih
    simp only [lg_sl, List.map_cons, List.flatMap_cons, List.length_append, List.sum_cons, ih, tw_v_cat]
    congr 1
    rcases v with z | r | z <;> simp [tw_w]
def tw_ok (M : tM) : Prop := (plainName M.1.cls = true ∧ M.2.2.2.2.all (tw_okI M.2.1) = true)
/-- a contract, out of a walk of the body -/
theorem tw_intro {av : List tV} (hM : tw_ok M) (ha : (av.map tw_w).sum ≤ M.2.2.1) (body : tw_AW l G M d mc ms h.2.2.2 0 P 0 (tw_args 0 av) [] h) : tw_M l G d mc ms M av h P := by
  refine Met.ofW (cc := M.2.1) (maxL := M.2.2.1) (ret := M.2.2.2.1) hM.1 rfl ?_
  intro p e s m args below meth c s₁ B hml hv
  obtain ⟨rfl, hP, hz, hU, hb⟩ := hv
  have hl := lv_entry (av.map (tw_v G)) (n := M.2.2.1) (by rw [tw_sl_len]; exact ha)
  rw [tw_args_L] at hl
  rw [lg_entry_eq]
  have K := body p e s m ((av.map (tw_v G)).toArray) below meth c s.heap [] _ ⟨B.exec, B.bytes, B.returns, hml, findClass_of_methodNamed B.named, atoms_spec (ws := tw_wds M) B.pre, hU, B.notSynchronized, hz, hb, (name_of_methodNamed B.named B.method).1, fun q hq => List.all_eq_true.mp hM.2 q hq⟩ hl hP va_S.rf (Nat.le_refl _) (by omega)
  rw [Nat.sub_self] at K
  exact K
end AR4
end
section
def zK (K : Nat → Nat × Nat) (n : Nat) (q : Nat × Nat) : Nat → Nat × Nat := fun b => if b = n then q else K b
def zI (I : Nat → Int → Int) (n : Nat) : Nat → Int → Int := fun b => if b = n then fun _ => 0 else I b
def zQ (Q : Nat → Int → Option Nat) (n : Nat) : Nat → Int → Option Nat := fun b => if b = n then fun _ => none else Q b
/-- a heap with one cell more -/
abbrev hNw (h : tH) (q : Nat × Nat) : tH := (zK h.1 h.2.2.2 q, zI h.2.1 h.2.2.2, zQ h.2.2.1 h.2.2.2, h.2.2.2 + 1)
theorem tw_c_hNw {G : tG} {h : tH} {q : Nat × Nat} {b : Nat} (hb : b < h.2.2.2) : tw_c G (hNw h q) b = tw_c G h b := by
  have e1 : zK h.1 h.2.2.2 q b = h.1 b := if_neg (by omega)
  have e2 : zI h.2.1 h.2.2.2 b = h.2.1 b := if_neg (by omega)
  have e3 : zQ h.2.2.1 h.2.2.2 b = h.2.2.1 b := if_neg (by omega)
  unfold tw_c tw_fv
  simp only [e1, e2, e3]
section AR5
variable {l : Launch} {G : tG} {M : tM} {d mc ms n0 c2 : Nat} {P : Option tV → tH → Prop} {ls : List (Nat × tV)} {st : List tV} {h : tH} {k pc nx tg : Nat}
/-- what is made lies behind what there was -/
theorem tw_fresh {p : Program} {e : Env} {s : State} {m : MethodId} {args : Array Value} {below : List Frame} {meth : Method} {c : Code} {H1 : Heap} {locs : List Loc} {slots q : Nat} {x : va_E} {R : Room} {T : State} {D : va_G} {cl : List vw_C}
    (hsz : s.heap.size = G.2.2.1 + n0) (h0 : n0 ≤ h.2.2.2) (hn : h.2.2.2 < 1000000) (hP1 : va_P D cl (tw_ws G h ++ [(q, x)]) H1) (hD1 : va_D (tw_A G) (tw_ws G h ++ [(q, x)])) (hT : T.heap = H1) (Y : Stand p l e R s m args below meth c T locs (h.2.2.2 - n0 + 1) slots) : q = tw_ad G h.2.2.2 := by
  have e0 : (tw_ws G h ++ [(q, x)])[h.2.2.2]? = some (q, x) := by
    rw [List.getElem?_append_right (by simp [tw_ws])]
    simp [tw_ws]
  have h1 : q < H1.size := (hP1 _ _ e0).lt
  have h2 := Y.heapSize
  rw [hT] at h2
  have h3 : G.2.2.1 ≤ q := hD1.2 _ _ e0
  rw [tw_ad_lt hn]
  by_cases hq : q = G.2.2.1 + h.2.2.2
  · exact hq
  · exfalso
    have hb : q - G.2.2.1 < h.2.2.2 := by omega
    have e2 : (tw_ws G h ++ [(q, x)])[q - G.2.2.1]? = some (tw_ad G (q - G.2.2.1), tw_c G h (q - G.2.2.1)) := by
      rw [List.getElem?_append_left (by simp [tw_ws]; exact hb)]
      exact tw_ws_get hb
    have := hD1.1 _ _ _ _ e0 e2 (by rw [tw_ad_lt (by omega)]; omega)
    omega
theorem ar_new {i ci N : Nat} {C : String} {T : u_T} (hd : M.2.2.2.2[k]? = some (pc, .new i, nx, tg)) (hw : Cond.classLink M.1.cls i C ∈ tw_tbl) (hc : tCl[ci]? = some (C, T, N)) (hty : ∀ j, j < N → ∃ ty, parseFieldDescriptor (T j).2.2.1 = some ty ∧ defaultValue ty = (if tRef ci j = true then .null else .int 0)) (hm : h.2.2.2 - n0 + 1 ≤ mc ∧ c2 + N ≤ ms) (kk : tw_AW l G M d mc ms n0 (c2 + N) P nx ls (vr (some h.2.2.2) :: st) (hNw h (ci, N))) : tw_AW l G M d mc ms n0 c2 P pc ls st h := by
  intro p e s m args below meth c H locs ls' X hl hP hS h0 hn
  obtain ⟨dd, e1⟩ := tw_dec X hd rfl
  subst e1
  have hws : ∀ w ∈ tw_tbl, w.before args s = true := fun w h => X.2.2.2.2.2.1 w (List.mem_cons_of_mem _ h)
  obtain ⟨z1, ⟨ty, z2⟩, z3, z4, z5⟩ := tw_cls hc
  have hA : ∀ q, s.heap.size ≤ q → tw_A G q := fun q hq => by show G.2.2.1 ≤ q; rw [X.2.2.2.2.2.2.2.2.1] at hq; omega
  have hB := X.2.2.2.2.2.2.2.2.2.1
  refine va_new (ci := ci) (fs := (List.range N).map (tw_fv G (hNw h (ci, N)) h.2.2.2)) X.1 X.2.1 hws z1 ty z2 X.2.2.2.2.1 (hws _ hw) (hws _ z4) (hws _ z5) X.2.2.2.2.2.2.1.1 hP (tw_ws_D hn) hS hA hc ?_ hm.1 hm.2 dd (fun q H1 hP1 hD1 hS1 => ?_)
  · intro j hj
    obtain ⟨t1, y1, y2⟩ := hty j hj
    have : ty j = t1 := Option.some.inj ((z2 j hj).symm.trans y1)
    rw [this, y2]
    have e1 : zK h.1 h.2.2.2 (ci, N) h.2.2.2 = (ci, N) := if_pos rfl
    have e2 : zI h.2.1 h.2.2.2 h.2.2.2 = fun _ => 0 := if_pos rfl
    have e3 : zQ h.2.2.1 h.2.2.2 h.2.2.2 = fun _ => none := if_pos rfl
    simp only [vp_V, List.getD_eq_getElem?_getD, List.getElem?_map, List.getElem?_range hj, Option.map_some, Option.getD_some, tw_fv, e1, e2, e3]
    rfl
  · intro T' hT Y
    have hq := tw_fresh X.2.2.2.2.2.2.2.2.1 h0 hn hP1 hD1 hT Y
    subst hq
    have e2 : tw_ws G h ++ [(tw_ad G h.2.2.2, .inr (ci, (List.range N).map (tw_fv G (hNw h (ci, N)) h.2.2.2)))] = tw_ws G (hNw h (ci, N)) :=
      tw_ws_push rfl (tw_c_obj (h := hNw h (ci, N)) (if_pos rfl) (tw_tcl_len hc)) (fun b hb => tw_c_hNw hb)
    rw [e2] at hP1
    have K := kk p e s m args below meth c H1 locs ls' X hl hP1 hS1 (by show n0 ≤ h.2.2.2 + 1; omega) (by show h.2.2.2 + 1 < 1000000; omega)
    rw [show (hNw h (ci, N)).2.2.2 - n0 = h.2.2.2 - n0 + 1 by show h.2.2.2 + 1 - n0 = _; omega] at K
    exact K T' hT Y
theorem ar_newa_int {N : Nat} {z : Int} (hd : M.2.2.2.2[k]? = some (pc, .newarray .int, nx, tg)) (hw : Cond.arrayClass .int ∈ tw_tbl) (hz : z = (N : Int)) (hN : N < 10000) (hm : h.2.2.2 - n0 + 1 ≤ mc ∧ c2 + N ≤ ms) (kk : tw_AW l G M d mc ms n0 (c2 + N) P nx ls (vr (some h.2.2.2) :: st) (hNw h (14, N))) : tw_AW l G M d mc ms n0 c2 P pc ls (vi z :: st) h := by
  intro p e s m args below meth c H locs ls' X hl hP hS h0 hn
  obtain ⟨dd, e1⟩ := tw_dec X hd rfl
  subst e1
  have hws : ∀ w ∈ tw_tbl, w.before args s = true := fun w h => X.2.2.2.2.2.1 w (List.mem_cons_of_mem _ h)
  have hA : ∀ q, s.heap.size ≤ q → tw_A G q := fun q hq => by show G.2.2.1 ≤ q; rw [X.2.2.2.2.2.2.2.2.1] at hq; omega
  have hB := X.2.2.2.2.2.2.2.2.2.1
  subst hz
  have ht : tr (N : Int) := ⟨by omega, by omega⟩
  refine va_newa (atype := .int) (n := Int32.ofInt (N : Int)) (N' := N) (a0 := (N, .inl (fun _ => 0))) X.1 X.2.1 (hws _ hw) (ty := .int) rfl X.2.2.2.2.2.2.1.1 hP (tw_ws_D hn) hS hA (fun cA => rfl) (fun q => by have := (tr_lt ht (by decide : tr 0)).mp q; omega) (by show (Int32.ofInt (N : Int)).toInt.toNat = N; rw [tr_id ht]; omega) (by show N * _ ≤ _; simp only [componentBytes]; omega) hm.1 hm.2 dd (fun q cA H1 hK1 hP1 hD1 hS1 => ?_)
  have hcA : cA = G.2.1 14 := by
    have f1 := (hK1.2 6 (cA, .int) rfl).2
    have f2 := (X.2.2.2.2.2.2.1.1.2 1 (G.2.1 14, .int) rfl).2
    exact Option.some.inj (f1.symm.trans f2)
  subst hcA
  intro T' hT Y
  have hq := tw_fresh X.2.2.2.2.2.2.2.2.1 h0 hn hP1 hD1 hT Y
  subst hq
  have e2 : tw_ws G h ++ [(tw_ad G h.2.2.2, .inl (G.2.1 14, N, .inl (fun _ => 0)))] = tw_ws G (hNw h (14, N)) := by
    refine tw_ws_push rfl ?_ (fun b hb => tw_c_hNw hb)
    rw [tw_c_int (h := hNw h (14, N)) (ci := 14) (N := N) (if_pos rfl) (by decide) (by decide)]
    have e3 : zI h.2.1 h.2.2.2 h.2.2.2 = fun _ => 0 := if_pos rfl
    simp only [e3]
    rfl
  rw [e2] at hP1
  have K := kk p e s m args below meth c H1 locs ls' X hl hP1 hS1 (by show n0 ≤ h.2.2.2 + 1; omega) (by show h.2.2.2 + 1 < 1000000; omega)
  rw [show (hNw h (14, N)).2.2.2 - n0 = h.2.2.2 - n0 + 1 by show h.2.2.2 + 1 - n0 = _; omega] at K
  exact K T' hT Y
theorem ar_newa_byte {N : Nat} {z : Int} (hd : M.2.2.2.2[k]? = some (pc, .newarray .byte, nx, tg)) (hw : Cond.arrayClass .byte ∈ tw_tbl) (hz : z = (N : Int)) (hN : N < 10000) (hm : h.2.2.2 - n0 + 1 ≤ mc ∧ c2 + N ≤ ms) (kk : tw_AW l G M d mc ms n0 (c2 + N) P nx ls (vr (some h.2.2.2) :: st) (hNw h (13, N))) : tw_AW l G M d mc ms n0 c2 P pc ls (vi z :: st) h := by
  intro p e s m args below meth c H locs ls' X hl hP hS h0 hn
  obtain ⟨dd, e1⟩ := tw_dec X hd rfl
  subst e1
  have hws : ∀ w ∈ tw_tbl, w.before args s = true := fun w h => X.2.2.2.2.2.1 w (List.mem_cons_of_mem _ h)
  have hA : ∀ q, s.heap.size ≤ q → tw_A G q := fun q hq => by show G.2.2.1 ≤ q; rw [X.2.2.2.2.2.2.2.2.1] at hq; omega
  have hB := X.2.2.2.2.2.2.2.2.2.1
  subst hz
  have ht : tr (N : Int) := ⟨by omega, by omega⟩
  refine va_newa (atype := .byte) (n := Int32.ofInt (N : Int)) (N' := N) (a0 := (N, .inl (fun _ => 0))) X.1 X.2.1 (hws _ hw) (ty := .byte) rfl X.2.2.2.2.2.2.1.1 hP (tw_ws_D hn) hS hA (fun cA => rfl) (fun q => by have := (tr_lt ht (by decide : tr 0)).mp q; omega) (by show (Int32.ofInt (N : Int)).toInt.toNat = N; rw [tr_id ht]; omega) (by show N * _ ≤ _; simp only [componentBytes]; omega) hm.1 hm.2 dd (fun q cA H1 hK1 hP1 hD1 hS1 => ?_)
  have hcA : cA = G.2.1 13 := by
    have f1 := (hK1.2 6 (cA, .byte) rfl).2
    have f2 := (X.2.2.2.2.2.2.1.1.2 0 (G.2.1 13, .byte) rfl).2
    exact Option.some.inj (f1.symm.trans f2)
  subst hcA
  intro T' hT Y
  have hq := tw_fresh X.2.2.2.2.2.2.2.2.1 h0 hn hP1 hD1 hT Y
  subst hq
  have e2 : tw_ws G h ++ [(tw_ad G h.2.2.2, .inl (G.2.1 13, N, .inl (fun _ => 0)))] = tw_ws G (hNw h (13, N)) := by
    refine tw_ws_push rfl ?_ (fun b hb => tw_c_hNw hb)
    rw [tw_c_int (h := hNw h (13, N)) (ci := 13) (N := N) (if_pos rfl) (by decide) (by decide)]
    have e3 : zI h.2.1 h.2.2.2 h.2.2.2 = fun _ => 0 := if_pos rfl
    simp only [e3]
    rfl
  rw [e2] at hP1
  have K := kk p e s m args below meth c H1 locs ls' X hl hP1 hS1 (by show n0 ≤ h.2.2.2 + 1; omega) (by show h.2.2.2 + 1 < 1000000; omega)
  rw [show (hNw h (13, N)).2.2.2 - n0 = h.2.2.2 - n0 + 1 by show h.2.2.2 + 1 - n0 = _; omega] at K
  exact K T' hT Y
theorem ar_newa_boolean {N : Nat} {z : Int} (hd : M.2.2.2.2[k]? = some (pc, .newarray .boolean, nx, tg)) (hw : Cond.arrayClass .boolean ∈ tw_tbl) (hz : z = (N : Int)) (hN : N < 10000) (hm : h.2.2.2 - n0 + 1 ≤ mc ∧ c2 + N ≤ ms) (kk : tw_AW l G M d mc ms n0 (c2 + N) P nx ls (vr (some h.2.2.2) :: st) (hNw h (15, N))) : tw_AW l G M d mc ms n0 c2 P pc ls (vi z :: st) h := by
  intro p e s m args below meth c H locs ls' X hl hP hS h0 hn
  obtain ⟨dd, e1⟩ := tw_dec X hd rfl
  subst e1
  have hws : ∀ w ∈ tw_tbl, w.before args s = true := fun w h => X.2.2.2.2.2.1 w (List.mem_cons_of_mem _ h)
  have hA : ∀ q, s.heap.size ≤ q → tw_A G q := fun q hq => by show G.2.2.1 ≤ q; rw [X.2.2.2.2.2.2.2.2.1] at hq; omega
  have hB := X.2.2.2.2.2.2.2.2.2.1
  subst hz
  have ht : tr (N : Int) := ⟨by omega, by omega⟩
  refine va_newa (atype := .boolean) (n := Int32.ofInt (N : Int)) (N' := N) (a0 := (N, .inl (fun _ => 0))) X.1 X.2.1 (hws _ hw) (ty := .boolean) rfl X.2.2.2.2.2.2.1.1 hP (tw_ws_D hn) hS hA (fun cA => rfl) (fun q => by have := (tr_lt ht (by decide : tr 0)).mp q; omega) (by show (Int32.ofInt (N : Int)).toInt.toNat = N; rw [tr_id ht]; omega) (by show N * _ ≤ _; simp only [componentBytes]; omega) hm.1 hm.2 dd (fun q cA H1 hK1 hP1 hD1 hS1 => ?_)
  have hcA : cA = G.2.1 15 := by
    have f1 := (hK1.2 6 (cA, .boolean) rfl).2
    have f2 := (X.2.2.2.2.2.2.1.1.2 2 (G.2.1 15, .boolean) rfl).2
    exact Option.some.inj (f1.symm.trans f2)
  subst hcA
  intro T' hT Y
  have hq := tw_fresh X.2.2.2.2.2.2.2.2.1 h0 hn hP1 hD1 hT Y
  subst hq
  have e2 : tw_ws G h ++ [(tw_ad G h.2.2.2, .inl (G.2.1 15, N, .inl (fun _ => 0)))] = tw_ws G (hNw h (15, N)) := by
    refine tw_ws_push rfl ?_ (fun b hb => tw_c_hNw hb)
    rw [tw_c_int (h := hNw h (15, N)) (ci := 15) (N := N) (if_pos rfl) (by decide) (by decide)]
    have e3 : zI h.2.1 h.2.2.2 h.2.2.2 = fun _ => 0 := if_pos rfl
    simp only [e3]
    rfl
  rw [e2] at hP1
  have K := kk p e s m args below meth c H1 locs ls' X hl hP1 hS1 (by show n0 ≤ h.2.2.2 + 1; omega) (by show h.2.2.2 + 1 < 1000000; omega)
  rw [show (hNw h (15, N)).2.2.2 - n0 = h.2.2.2 - n0 + 1 by show h.2.2.2 + 1 - n0 = _; omega] at K
  exact K T' hT Y
theorem ar_anew_Hand {i N : Nat} {z : Int} (hd : M.2.2.2.2[k]? = some (pc, .anewarray i, nx, tg)) (hw : Cond.classLink M.1.cls i "TwinTools$Hand" ∈ tw_tbl) (hz : z = (N : Int)) (hN : N < 10000) (hm : h.2.2.2 - n0 + 1 ≤ mc ∧ c2 + N ≤ ms) (kk : tw_AW l G M d mc ms n0 (c2 + N) P nx ls (vr (some h.2.2.2) :: st) (hNw h (16, N))) : tw_AW l G M d mc ms n0 c2 P pc ls (vi z :: st) h := by
  intro p e s m args below meth c H locs ls' X hl hP hS h0 hn
  obtain ⟨dd, e1⟩ := tw_dec X hd rfl
  subst e1
  have hws : ∀ w ∈ tw_tbl, w.before args s = true := fun w h => X.2.2.2.2.2.1 w (List.mem_cons_of_mem _ h)
  have hA : ∀ q, s.heap.size ≤ q → tw_A G q := fun q hq => by show G.2.2.1 ≤ q; rw [X.2.2.2.2.2.2.2.2.1] at hq; omega
  have hB := X.2.2.2.2.2.2.2.2.2.1
  subst hz
  have ht : tr (N : Int) := ⟨by omega, by omega⟩
  refine va_newq (n := Int32.ofInt (N : Int)) (N' := N) X.1 X.2.1 X.2.2.2.2.1 (hws _ hw) X.2.2.2.2.2.2.1.2.2.2.2.1 X.2.2.2.2.2.2.1.1 hP (tw_ws_D hn) hS hA (fun q => by have := (tr_lt ht (by decide : tr 0)).mp q; omega) (by show (Int32.ofInt (N : Int)).toInt.toNat = N; rw [tr_id ht]; omega) (by omega) hm.1 hm.2 dd (fun q cA H1 hK1 hP1 hD1 hS1 => ?_)
  have hcA : cA = G.2.1 16 := by
    obtain ⟨_, _, _, _, _, f1⟩ := (hK1.2 6 (cA, .object "TwinTools$Hand") rfl).2
    obtain ⟨_, _, _, _, _, f2⟩ := (X.2.2.2.2.2.2.1.1.2 3 (G.2.1 16, .object "TwinTools$Hand") rfl).2
    exact Option.some.inj (f1.symm.trans f2)
  subst hcA
  intro T' hT Y
  have hq := tw_fresh X.2.2.2.2.2.2.2.2.1 h0 hn hP1 hD1 hT Y
  subst hq
  have e2 : tw_ws G h ++ [(tw_ad G h.2.2.2, .inl (G.2.1 16, N, .inr (.inr (.inr (.inr (fun _ => none))))))] = tw_ws G (hNw h (16, N)) := by
    refine tw_ws_push rfl ?_ (fun b hb => tw_c_hNw hb)
    rw [tw_c_ref (h := hNw h (16, N)) (ci := 16) (N := N) (if_pos rfl) (by decide)]
    have e3 : zQ h.2.2.1 h.2.2.2 h.2.2.2 = fun _ => none := if_pos rfl
    simp only [e3]
    rfl
  rw [e2] at hP1
  have K := kk p e s m args below meth c H1 locs ls' X hl hP1 hS1 (by show n0 ≤ h.2.2.2 + 1; omega) (by show h.2.2.2 + 1 < 1000000; omega)
  rw [show (hNw h (16, N)).2.2.2 - n0 = h.2.2.2 - n0 + 1 by show h.2.2.2 + 1 - n0 = _; omega] at K
  exact K T' hT Y
theorem ar_anew_Valley {i N : Nat} {z : Int} (hd : M.2.2.2.2[k]? = some (pc, .anewarray i, nx, tg)) (hw : Cond.classLink M.1.cls i "TwinTools$Valley" ∈ tw_tbl) (hz : z = (N : Int)) (hN : N < 10000) (hm : h.2.2.2 - n0 + 1 ≤ mc ∧ c2 + N ≤ ms) (kk : tw_AW l G M d mc ms n0 (c2 + N) P nx ls (vr (some h.2.2.2) :: st) (hNw h (17, N))) : tw_AW l G M d mc ms n0 c2 P pc ls (vi z :: st) h := by
  intro p e s m args below meth c H locs ls' X hl hP hS h0 hn
  obtain ⟨dd, e1⟩ := tw_dec X hd rfl
  subst e1
  have hws : ∀ w ∈ tw_tbl, w.before args s = true := fun w h => X.2.2.2.2.2.1 w (List.mem_cons_of_mem _ h)
  have hA : ∀ q, s.heap.size ≤ q → tw_A G q := fun q hq => by show G.2.2.1 ≤ q; rw [X.2.2.2.2.2.2.2.2.1] at hq; omega
  have hB := X.2.2.2.2.2.2.2.2.2.1
  subst hz
  have ht : tr (N : Int) := ⟨by omega, by omega⟩
  refine va_newq (n := Int32.ofInt (N : Int)) (N' := N) X.1 X.2.1 X.2.2.2.2.1 (hws _ hw) X.2.2.2.2.2.2.1.2.2.2.2.2.1 X.2.2.2.2.2.2.1.1 hP (tw_ws_D hn) hS hA (fun q => by have := (tr_lt ht (by decide : tr 0)).mp q; omega) (by show (Int32.ofInt (N : Int)).toInt.toNat = N; rw [tr_id ht]; omega) (by omega) hm.1 hm.2 dd (fun q cA H1 hK1 hP1 hD1 hS1 => ?_)
  have hcA : cA = G.2.1 17 := by
    obtain ⟨_, _, _, _, _, f1⟩ := (hK1.2 6 (cA, .object "TwinTools$Valley") rfl).2
    obtain ⟨_, _, _, _, _, f2⟩ := (X.2.2.2.2.2.2.1.1.2 4 (G.2.1 17, .object "TwinTools$Valley") rfl).2
    exact Option.some.inj (f1.symm.trans f2)
  subst hcA
  intro T' hT Y
  have hq := tw_fresh X.2.2.2.2.2.2.2.2.1 h0 hn hP1 hD1 hT Y
  subst hq
  have e2 : tw_ws G h ++ [(tw_ad G h.2.2.2, .inl (G.2.1 17, N, .inr (.inr (.inr (.inr (fun _ => none))))))] = tw_ws G (hNw h (17, N)) := by
    refine tw_ws_push rfl ?_ (fun b hb => tw_c_hNw hb)
    rw [tw_c_ref (h := hNw h (17, N)) (ci := 17) (N := N) (if_pos rfl) (by decide)]
    have e3 : zQ h.2.2.1 h.2.2.2 h.2.2.2 = fun _ => none := if_pos rfl
    simp only [e3]
    rfl
  rw [e2] at hP1
  have K := kk p e s m args below meth c H1 locs ls' X hl hP1 hS1 (by show n0 ≤ h.2.2.2 + 1; omega) (by show h.2.2.2 + 1 < 1000000; omega)
  rw [show (hNw h (17, N)).2.2.2 - n0 = h.2.2.2 - n0 + 1 by show h.2.2.2 + 1 - n0 = _; omega] at K
  exact K T' hT Y
theorem ar_inst {i a ci N : Nat} {C nm : String} {T : u_T} {b : Int} (hd : M.2.2.2.2[k]? = some (pc, .instanceof i, nx, tg)) (hw : Cond.classLink M.1.cls i nm ∈ tw_tbl) (hk : tK h a (ci, N)) (hc : tCl[ci]? = some (C, T, N)) (hb : (b = 1 ∧ (C = nm ∨ (C, nm) ∈ castL)) ∨ (b = 0 ∧ (C, nm) ∈ ncL)) (kk : tw_AW l G M d mc ms n0 c2 P nx ls (vi b :: st) h) : tw_AW l G M d mc ms n0 c2 P pc ls (vr (some a) :: st) h := by
  intro p e s m args below meth c H locs ls' X hl hP hS h0 hn
  obtain ⟨dd, e1⟩ := tw_dec X hd rfl
  subst e1
  have hws : ∀ w ∈ tw_tbl, w.before args s = true := fun w h => X.2.2.2.2.2.1 w (List.mem_cons_of_mem _ h)
  have K := kk p e s m args below meth c H locs ls' X hl hP hS h0 hn
  have hr := tw_recv (G := G) X.2.2.2.2.2.2.1.1 hP hk hc
  rcases hb with ⟨rfl, hb⟩ | ⟨rfl, hb⟩
  · rcases hb with rfl | hb
    · exact va_instS X.1 X.2.1 X.2.2.2.2.1 (hws _ hw) (X.2.2.2.2.2.2.1.1.1 ci _ hc).2 hr dd K
    · exact va_instY X.1 X.2.1 X.2.2.2.2.1 (hws _ hw) (X.2.2.2.2.2.2.1.2.2.1 _ hb) hr dd K
  · exact va_instNo X.1 X.2.1 X.2.2.2.2.1 (hws _ hw) (X.2.2.2.2.2.2.1.2.2.2.1 _ hb) hr dd K
theorem ar_tswIn {dflt lo hi off : Int} {offs : Array Int} {z : Int} {t : Nat} (hd : M.2.2.2.2[k]? = some (pc, .tableswitch dflt lo hi offs, nx, tg)) (hz : tr z) (h1 : lo ≤ z) (h2 : z ≤ hi) (ho : offs[(z - lo).toNat]? = some off) (ht : (pc : Int) + off = (t : Int)) (kk : tw_AW l G M d mc ms n0 c2 P t ls st h) : tw_AW l G M d mc ms n0 c2 P pc ls (vi z :: st) h := by
  intro p e s m args below meth c H locs ls' X hl hP hS h0 hn
  have dd := tw_sw X hd
  exact lv_tableIn X.1 X.2.1 dd (by rw [tr_id hz]; omega) (by rw [tr_id hz]; omega) (by rw [tr_id hz]; exact ho) ht (kk p e s m args below meth c H locs ls' X hl hP hS h0 hn)
theorem ar_tswOut {dflt lo hi : Int} {offs : Array Int} {z : Int} {t : Nat} (hd : M.2.2.2.2[k]? = some (pc, .tableswitch dflt lo hi offs, nx, tg)) (hz : tr z) (h1 : z < lo ∨ hi < z) (ht : (pc : Int) + dflt = (t : Int)) (kk : tw_AW l G M d mc ms n0 c2 P t ls st h) : tw_AW l G M d mc ms n0 c2 P pc ls (vi z :: st) h := by
  intro p e s m args below meth c H locs ls' X hl hP hS h0 hn
  have dd := tw_sw X hd
  exact lv_tableOut X.1 X.2.1 dd (by rw [tr_id hz]; exact h1) ht (kk p e s m args below meth c H locs ls' X hl hP hS h0 hn)
theorem ar_lsw {dflt off : Int} {ps : Array (Int × Int)} {z : Int} {t : Nat} (hd : M.2.2.2.2[k]? = some (pc, .lookupswitch dflt ps, nx, tg)) (hz : tr z) (hp : (ps.toList.zip (ps.toList.drop 1)).all (fun (a, next) => a.1 < next.1) = true) (ho : Op.lookupswitch.offset ps.toList dflt z = off) (ht : (pc : Int) + off = (t : Int)) (kk : tw_AW l G M d mc ms n0 c2 P t ls st h) : tw_AW l G M d mc ms n0 c2 P pc ls (vi z :: st) h := by
  intro p e s m args below meth c H locs ls' X hl hP hS h0 hn
  have dd := tw_sw X hd
  exact lv_lookup X.1 X.2.1 dd hp (by rw [tr_id hz]; exact ho) ht (kk p e s m args below meth c H locs ls' X hl hP hS h0 hn)
def tcpy (f g : Int → Int) (n : Nat) : Int → Int := fun j => if 0 ≤ j ∧ j < n then f j else g j
def hC (h : tH) (a b n : Nat) : tH := (h.1, fun x => if x = b then tcpy (h.2.1 a) (h.2.1 b) n else h.2.1 x, h.2.2.1, h.2.2.2)
theorem ar_copyi {i a b N N' n : Nat} {z : Int} (hd : M.2.2.2.2[k]? = some (pc, .invokestatic i, nx, tg)) (hw : Cond.methodLink M.1.cls i arraycopyName ∈ tw_tbl ∧ Cond.native arraycopyName ∈ tw_tbl ∧ Cond.static arraycopyName ∈ tw_tbl ∧ Cond.initialized "java/lang/System" ∈ tw_tbl) (hka : tK h a (14, N)) (hkb : tK h b (14, N')) (hz : z = (n : Int)) (hN : n ≤ N ∧ n ≤ N' ∧ n < 10000) (hdd : 1 ≤ d) (hst : (st.map tw_w).sum ≤ 8) (kk : tw_AW l G M d mc ms n0 c2 P nx ls st (hC h a b n)) : tw_AW l G M d mc ms n0 c2 P pc ls (vi z :: vi 0 :: vr (some b) :: vi 0 :: vr (some a) :: st) h := by
  intro p e s m args below meth c H locs ls' X hl hP hS h0 hn
  obtain ⟨dd, e1⟩ := tw_dec X hd rfl
  subst e1
  have hws : ∀ w ∈ tw_tbl, w.before args s = true := fun w h => X.2.2.2.2.2.1 w (List.mem_cons_of_mem _ h)
  have ha := tw_ws_get (G := G) hka.2
  rw [tw_c_int hka.1 (by decide) (by decide)] at ha
  have hb := tw_ws_get (G := G) hkb.2
  rw [tw_c_int hkb.1 (by decide) (by decide)] at hb
  subst hz
  have ht : tr (n : Int) := ⟨by omega, by omega⟩
  have en : (Int32.ofInt (n : Int)).toNatClampNeg = n := by show (Int32.ofInt (n : Int)).toInt.toNat = n; rw [tr_id ht]; omega
  have e0 : (Int32.ofInt 0).toNatClampNeg = 0 := rfl
  refine va_copyi (sp := Int32.ofInt 0) (dp := Int32.ofInt 0) (n := Int32.ofInt (n : Int)) X.1 X.2.1 (X.2.2.2.1.trans hl.1.symm) X.2.2.2.2.1 (hws _ hw.1) (hws _ hw.2.1) (hws _ hw.2.2.1) (hws _ hw.2.2.2) X.2.2.2.2.2.2.1.1 hP (tw_ws_D hn) hS a b 1 1 ha hb rfl rfl rfl (by decide) (by decide) (fun q => by have := (tr_lt ht (by decide : tr 0)).mp q; omega) (by rw [en, e0]; omega) (by rw [en, e0]; omega) (fun i _ => rfl) hdd ?_ dd (fun H1 locs1 hP1 _ hS1 => ?_)
  · have := tw_cat_sum G st
    rw [this]
    show _ ≤ 64 * d
    have e : nativeFrameWords "java/lang/System" "arraycopy" 5 ≤ 40 := by decide
    omega
  · have e2 : (tw_ws G h).set b (tw_ad G b, .inl (G.2.1 14, N', .inl (va_cpy (fun j => Int32.ofInt (h.2.1 a (j : Int))) (fun j => Int32.ofInt (h.2.1 b (j : Int))) (Int32.ofInt 0).toNatClampNeg (Int32.ofInt 0).toNatClampNeg (Int32.ofInt (n : Int)).toNatClampNeg))) = tw_ws G (hC h a b n) := by
      refine tw_ws_set rfl hkb.2 ?_ (fun x hx => ?_)
      · rw [tw_c_int (h := hC h a b n) hkb.1 (by decide) (by decide), en, e0]
        congr 4
        funext j
        have e3 : (hC h a b n).2.1 b = tcpy (h.2.1 a) (h.2.1 b) n := if_pos rfl
        rw [e3]
        by_cases hj : j < n
        · have hj' : (0 : Int) ≤ (j : Int) ∧ (j : Int) < (n : Int) := by omega
          simp [va_cpy, tcpy, hj, hj']
        · have hj' : ¬ ((0 : Int) ≤ (j : Int) ∧ (j : Int) < (n : Int)) := by omega
          simp [va_cpy, tcpy, hj]
      · have e3 : (hC h a b n).2.1 x = h.2.1 x := if_neg hx
        unfold tw_c tw_fv
        simp only [e3]
        rfl
    rw [e2] at hP1
    exact kk p e s m args below meth c H1 locs1 ls' X hl hP1 hS1 h0 hn
theorem ar_copyb {i a b N N' n : Nat} {z : Int} (hd : M.2.2.2.2[k]? = some (pc, .invokestatic i, nx, tg)) (hw : Cond.methodLink M.1.cls i arraycopyName ∈ tw_tbl ∧ Cond.native arraycopyName ∈ tw_tbl ∧ Cond.static arraycopyName ∈ tw_tbl ∧ Cond.initialized "java/lang/System" ∈ tw_tbl) (hka : tK h a (13, N)) (hkb : tK h b (13, N')) (hz : z = (n : Int)) (hN : n ≤ N ∧ n ≤ N' ∧ n < 10000) (hf : ∀ j : Int, 0 ≤ j → j < n → -128 ≤ h.2.1 a j ∧ h.2.1 a j ≤ 127) (hdd : 1 ≤ d) (hst : (st.map tw_w).sum ≤ 8) (kk : tw_AW l G M d mc ms n0 c2 P nx ls st (hC h a b n)) : tw_AW l G M d mc ms n0 c2 P pc ls (vi z :: vi 0 :: vr (some b) :: vi 0 :: vr (some a) :: st) h := by
  intro p e s m args below meth c H locs ls' X hl hP hS h0 hn
  obtain ⟨dd, e1⟩ := tw_dec X hd rfl
  subst e1
  have hws : ∀ w ∈ tw_tbl, w.before args s = true := fun w h => X.2.2.2.2.2.1 w (List.mem_cons_of_mem _ h)
  have ha := tw_ws_get (G := G) hka.2
  rw [tw_c_int hka.1 (by decide) (by decide)] at ha
  have hb := tw_ws_get (G := G) hkb.2
  rw [tw_c_int hkb.1 (by decide) (by decide)] at hb
  subst hz
  have ht : tr (n : Int) := ⟨by omega, by omega⟩
  have en : (Int32.ofInt (n : Int)).toNatClampNeg = n := by show (Int32.ofInt (n : Int)).toInt.toNat = n; rw [tr_id ht]; omega
  have e0 : (Int32.ofInt 0).toNatClampNeg = 0 := rfl
  refine va_copyi (sp := Int32.ofInt 0) (dp := Int32.ofInt 0) (n := Int32.ofInt (n : Int)) X.1 X.2.1 (X.2.2.2.1.trans hl.1.symm) X.2.2.2.2.1 (hws _ hw.1) (hws _ hw.2.1) (hws _ hw.2.2.1) (hws _ hw.2.2.2) X.2.2.2.2.2.2.1.1 hP (tw_ws_D hn) hS a b 0 0 ha hb rfl rfl rfl (by decide) (by decide) (fun q => by have := (tr_lt ht (by decide : tr 0)).mp q; omega) (by rw [en, e0]; omega) (by rw [en, e0]; omega) (?_) hdd ?_ dd (fun H1 locs1 hP1 _ hS1 => ?_)
  · intro j hj
    rw [e0, Nat.zero_add]
    rw [en] at hj
    have hh := hf (j : Int) (by omega) (by omega)
    have hx : tr (h.2.1 a (j : Int)) := ⟨by omega, by omega⟩
    have q1 : (-128 : Int32) ≤ Int32.ofInt (h.2.1 a (j : Int)) := (tr_le (by decide : tr (-128)) hx).mpr hh.1
    have q2 : Int32.ofInt (h.2.1 a (j : Int)) ≤ (127 : Int32) := (tr_le hx (by decide : tr 127)).mpr hh.2
    show (decide ((-128 : Int32) ≤ Int32.ofInt (h.2.1 a (j : Int))) && decide (Int32.ofInt (h.2.1 a (j : Int)) ≤ 127)) = true
    simp [q1, q2]
  · have := tw_cat_sum G st
    rw [this]
    show _ ≤ 64 * d
    have e : nativeFrameWords "java/lang/System" "arraycopy" 5 ≤ 40 := by decide
    omega
  · have e2 : (tw_ws G h).set b (tw_ad G b, .inl (G.2.1 13, N', .inl (va_cpy (fun j => Int32.ofInt (h.2.1 a (j : Int))) (fun j => Int32.ofInt (h.2.1 b (j : Int))) (Int32.ofInt 0).toNatClampNeg (Int32.ofInt 0).toNatClampNeg (Int32.ofInt (n : Int)).toNatClampNeg))) = tw_ws G (hC h a b n) := by
      refine tw_ws_set rfl hkb.2 ?_ (fun x hx => ?_)
      · rw [tw_c_int (h := hC h a b n) hkb.1 (by decide) (by decide), en, e0]
        congr 4
        funext j
        have e3 : (hC h a b n).2.1 b = tcpy (h.2.1 a) (h.2.1 b) n := if_pos rfl
        rw [e3]
        by_cases hj : j < n
        · have hj' : (0 : Int) ≤ (j : Int) ∧ (j : Int) < (n : Int) := by omega
          simp [va_cpy, tcpy, hj, hj']
        · have hj' : ¬ ((0 : Int) ≤ (j : Int) ∧ (j : Int) < (n : Int)) := by omega
          simp [va_cpy, tcpy, hj]
      · have e3 : (hC h a b n).2.1 x = h.2.1 x := if_neg hx
        unfold tw_c tw_fv
        simp only [e3]
        rfl
    rw [e2] at hP1
    exact kk p e s m args below meth c H1 locs1 ls' X hl hP1 hS1 h0 hn
end AR5
end
