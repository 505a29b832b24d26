section
-- ===== PART A: goes FIRST, ahead of the names: the tables' words, and 'selects' of the private methods out of them =====
/-- a private method of a class that the tables say can be made, by its rows of tables_1 -/
def lw_okq (q : MethodName × Nat) : Prop := (q.1.cls ≠ "java/lang/invoke/MethodHandle" ∧ q.1.cls ≠ "java/lang/invoke/VarHandle") ∧ Cond.instantiable q.1.cls q.2 ∈ tables_1 ∧ Cond.privateMethod q.1 ∈ tables_1 ∧ Cond.instanceMethod q.1 ∈ tables_1
theorem lw_p0 : lw_okq (⟨"TwinTools$Valley", "readClause", "()Z"⟩, 12) := ⟨⟨by decide +kernel, by decide +kernel⟩, List.mem_of_getElem? (i := 224) (by decide +kernel), List.mem_of_getElem? (i := 305) (by decide +kernel), List.mem_of_getElem? (i := 306) (by decide +kernel)⟩
theorem lw_p1 : lw_okq (⟨"TwinTools$Valley", "next", "()I"⟩, 12) := ⟨⟨by decide +kernel, by decide +kernel⟩, List.mem_of_getElem? (i := 224) (by decide +kernel), List.mem_of_getElem? (i := 309) (by decide +kernel), List.mem_of_getElem? (i := 310) (by decide +kernel)⟩
theorem lw_p2 : lw_okq (⟨"TwinTools$Valley", "takeAll", "(Ljava/lang/String;)Z"⟩, 12) := ⟨⟨by decide +kernel, by decide +kernel⟩, List.mem_of_getElem? (i := 224) (by decide +kernel), List.mem_of_getElem? (i := 314) (by decide +kernel), List.mem_of_getElem? (i := 315) (by decide +kernel)⟩
theorem lw_p3 : lw_okq (⟨"TwinTools$Valley", "take", "(C)Z"⟩, 12) := ⟨⟨by decide +kernel, by decide +kernel⟩, List.mem_of_getElem? (i := 224) (by decide +kernel), List.mem_of_getElem? (i := 366) (by decide +kernel), List.mem_of_getElem? (i := 367) (by decide +kernel)⟩
theorem lw_p4 : lw_okq (⟨"TwinTools$Valley", "readAmount", "(I)Z"⟩, 12) := ⟨⟨by decide +kernel, by decide +kernel⟩, List.mem_of_getElem? (i := 224) (by decide +kernel), List.mem_of_getElem? (i := 370) (by decide +kernel), List.mem_of_getElem? (i := 371) (by decide +kernel)⟩
theorem lw_p5 : lw_okq (⟨"TwinTools$Valley", "readNumber", "()Z"⟩, 12) := ⟨⟨by decide +kernel, by decide +kernel⟩, List.mem_of_getElem? (i := 224) (by decide +kernel), List.mem_of_getElem? (i := 374) (by decide +kernel), List.mem_of_getElem? (i := 375) (by decide +kernel)⟩
theorem lw_p6 : lw_okq (⟨"TwinTools$Valley", "takeOneOf", "(Ljava/lang/String;)I"⟩, 12) := ⟨⟨by decide +kernel, by decide +kernel⟩, List.mem_of_getElem? (i := 224) (by decide +kernel), List.mem_of_getElem? (i := 379) (by decide +kernel), List.mem_of_getElem? (i := 380) (by decide +kernel)⟩
theorem lw_p7 : lw_okq (⟨"TwinTools$Valley", "readPart", "(II)Z"⟩, 12) := ⟨⟨by decide +kernel, by decide +kernel⟩, List.mem_of_getElem? (i := 224) (by decide +kernel), List.mem_of_getElem? (i := 440) (by decide +kernel), List.mem_of_getElem? (i := 441) (by decide +kernel)⟩
theorem lw_p8 : lw_okq (⟨"TwinTools$Valley", "readOpened", "(I)Z"⟩, 12) := ⟨⟨by decide +kernel, by decide +kernel⟩, List.mem_of_getElem? (i := 224) (by decide +kernel), List.mem_of_getElem? (i := 444) (by decide +kernel), List.mem_of_getElem? (i := 445) (by decide +kernel)⟩
theorem lw_p9 : lw_okq (⟨"TwinTools$Valley", "addStep", "(I)V"⟩, 12) := ⟨⟨by decide +kernel, by decide +kernel⟩, List.mem_of_getElem? (i := 224) (by decide +kernel), List.mem_of_getElem? (i := 448) (by decide +kernel), List.mem_of_getElem? (i := 449) (by decide +kernel)⟩
theorem lw_p10 : lw_okq (⟨"TwinTools$Valley", "readTest", "()Z"⟩, 12) := ⟨⟨by decide +kernel, by decide +kernel⟩, List.mem_of_getElem? (i := 224) (by decide +kernel), List.mem_of_getElem? (i := 452) (by decide +kernel), List.mem_of_getElem? (i := 453) (by decide +kernel)⟩
theorem lw_p11 : lw_okq (⟨"TwinTools$Valley", "readBell", "()Z"⟩, 12) := ⟨⟨by decide +kernel, by decide +kernel⟩, List.mem_of_getElem? (i := 224) (by decide +kernel), List.mem_of_getElem? (i := 460) (by decide +kernel), List.mem_of_getElem? (i := 461) (by decide +kernel)⟩
theorem lw_p12 : lw_okq (⟨"TwinTools$Plan", "addPair", "(IILTwinTools$Valley;)V"⟩, 19) := ⟨⟨by decide +kernel, by decide +kernel⟩, List.mem_of_getElem? (i := 131) (by decide +kernel), List.mem_of_getElem? (i := 651) (by decide +kernel), List.mem_of_getElem? (i := 652) (by decide +kernel)⟩
theorem lw_p13 : lw_okq (⟨"TwinTools$Valley", "holdsWhen", "(II)I"⟩, 12) := ⟨⟨by decide +kernel, by decide +kernel⟩, List.mem_of_getElem? (i := 224) (by decide +kernel), List.mem_of_getElem? (i := 663) (by decide +kernel), List.mem_of_getElem? (i := 664) (by decide +kernel)⟩
theorem lw_p14 : lw_okq (⟨"TwinTools$Valley", "testedWhen", "(I)I"⟩, 12) := ⟨⟨by decide +kernel, by decide +kernel⟩, List.mem_of_getElem? (i := 224) (by decide +kernel), List.mem_of_getElem? (i := 667) (by decide +kernel), List.mem_of_getElem? (i := 668) (by decide +kernel)⟩
theorem lw_p15 : lw_okq (⟨"TwinTools$Plan", "reckonSets", "()V"⟩, 19) := ⟨⟨by decide +kernel, by decide +kernel⟩, List.mem_of_getElem? (i := 131) (by decide +kernel), List.mem_of_getElem? (i := 675) (by decide +kernel), List.mem_of_getElem? (i := 676) (by decide +kernel)⟩
def lw_privs_1 : List (MethodName × Nat) := [(⟨"TwinTools$Valley", "readClause", "()Z"⟩, 12), (⟨"TwinTools$Valley", "next", "()I"⟩, 12), (⟨"TwinTools$Valley", "takeAll", "(Ljava/lang/String;)Z"⟩, 12), (⟨"TwinTools$Valley", "take", "(C)Z"⟩, 12), (⟨"TwinTools$Valley", "readAmount", "(I)Z"⟩, 12), (⟨"TwinTools$Valley", "readNumber", "()Z"⟩, 12), (⟨"TwinTools$Valley", "takeOneOf", "(Ljava/lang/String;)I"⟩, 12), (⟨"TwinTools$Valley", "readPart", "(II)Z"⟩, 12), (⟨"TwinTools$Valley", "readOpened", "(I)Z"⟩, 12), (⟨"TwinTools$Valley", "addStep", "(I)V"⟩, 12), (⟨"TwinTools$Valley", "readTest", "()Z"⟩, 12), (⟨"TwinTools$Valley", "readBell", "()Z"⟩, 12), (⟨"TwinTools$Plan", "addPair", "(IILTwinTools$Valley;)V"⟩, 19), (⟨"TwinTools$Valley", "holdsWhen", "(II)I"⟩, 12), (⟨"TwinTools$Valley", "testedWhen", "(I)I"⟩, 12), (⟨"TwinTools$Plan", "reckonSets", "()V"⟩, 19)]
theorem lw_r1 : ∀ q ∈ lw_privs_1, lw_okq q := List.forall_mem_cons.mpr ⟨lw_p0, List.forall_mem_cons.mpr ⟨lw_p1, List.forall_mem_cons.mpr ⟨lw_p2, List.forall_mem_cons.mpr ⟨lw_p3, List.forall_mem_cons.mpr ⟨lw_p4, List.forall_mem_cons.mpr ⟨lw_p5, List.forall_mem_cons.mpr ⟨lw_p6, List.forall_mem_cons.mpr ⟨lw_p7, List.forall_mem_cons.mpr ⟨lw_p8, List.forall_mem_cons.mpr ⟨lw_p9, List.forall_mem_cons.mpr ⟨lw_p10, List.forall_mem_cons.mpr ⟨lw_p11, List.forall_mem_cons.mpr ⟨lw_p12, List.forall_mem_cons.mpr ⟨lw_p13, List.forall_mem_cons.mpr ⟨lw_p14, List.forall_mem_cons.mpr ⟨lw_p15, fun _ h => absurd h List.not_mem_nil⟩⟩⟩⟩⟩⟩⟩⟩⟩⟩⟩⟩⟩⟩⟩⟩
theorem lw_p16 : lw_okq (⟨"TwinTools$Plan", "bestSet", "(I)I"⟩, 19) := ⟨⟨by decide +kernel, by decide +kernel⟩, List.mem_of_getElem? (i := 131) (by decide +kernel), List.mem_of_getElem? (i := 824) (by decide +kernel), List.mem_of_getElem? (i := 825) (by decide +kernel)⟩
theorem lw_p17 : lw_okq (⟨"TwinTools$World", "copyPeople", "(LTwinTools$World;)V"⟩, 20) := ⟨⟨by decide +kernel, by decide +kernel⟩, List.mem_of_getElem? (i := 32) (by decide +kernel), List.mem_of_getElem? (i := 865) (by decide +kernel), List.mem_of_getElem? (i := 866) (by decide +kernel)⟩
theorem lw_p18 : lw_okq (⟨"TwinTools$World", "copyTools", "(LTwinTools$World;)V"⟩, 20) := ⟨⟨by decide +kernel, by decide +kernel⟩, List.mem_of_getElem? (i := 32) (by decide +kernel), List.mem_of_getElem? (i := 869) (by decide +kernel), List.mem_of_getElem? (i := 870) (by decide +kernel)⟩
theorem lw_p19 : lw_okq (⟨"TwinTools$World", "copyRows", "(LTwinTools$World;)V"⟩, 20) := ⟨⟨by decide +kernel, by decide +kernel⟩, List.mem_of_getElem? (i := 32) (by decide +kernel), List.mem_of_getElem? (i := 873) (by decide +kernel), List.mem_of_getElem? (i := 874) (by decide +kernel)⟩
theorem lw_p20 : lw_okq (⟨"TwinTools$Plan", "keepChange", "(III)V"⟩, 19) := ⟨⟨by decide +kernel, by decide +kernel⟩, List.mem_of_getElem? (i := 131) (by decide +kernel), List.mem_of_getElem? (i := 887) (by decide +kernel), List.mem_of_getElem? (i := 888) (by decide +kernel)⟩
theorem lw_p21 : lw_okq (⟨"TwinTools$Plan", "joinRest", "(LTwinTools$World;I)V"⟩, 19) := ⟨⟨by decide +kernel, by decide +kernel⟩, List.mem_of_getElem? (i := 131) (by decide +kernel), List.mem_of_getElem? (i := 911) (by decide +kernel), List.mem_of_getElem? (i := 912) (by decide +kernel)⟩
theorem lw_p22 : lw_okq (⟨"TwinTools$Plan", "keepJoin", "(LTwinTools$World;I)V"⟩, 19) := ⟨⟨by decide +kernel, by decide +kernel⟩, List.mem_of_getElem? (i := 131) (by decide +kernel), List.mem_of_getElem? (i := 919) (by decide +kernel), List.mem_of_getElem? (i := 920) (by decide +kernel)⟩
theorem lw_p23 : lw_okq (⟨"TwinTools$World", "mayBeBroken", "(I)Z"⟩, 20) := ⟨⟨by decide +kernel, by decide +kernel⟩, List.mem_of_getElem? (i := 32) (by decide +kernel), List.mem_of_getElem? (i := 945) (by decide +kernel), List.mem_of_getElem? (i := 946) (by decide +kernel)⟩
theorem lw_p24 : lw_okq (⟨"TwinTools$World", "wentIn", "(I)Z"⟩, 20) := ⟨⟨by decide +kernel, by decide +kernel⟩, List.mem_of_getElem? (i := 32) (by decide +kernel), List.mem_of_getElem? (i := 949) (by decide +kernel), List.mem_of_getElem? (i := 950) (by decide +kernel)⟩
theorem lw_p25 : lw_okq (⟨"TwinToolsModel", "clauseHere", "()V"⟩, 23) := ⟨⟨by decide +kernel, by decide +kernel⟩, List.mem_of_getElem? (i := 1090) (by decide +kernel), List.mem_of_getElem? (i := 1177) (by decide +kernel), List.mem_of_getElem? (i := 1178) (by decide +kernel)⟩
theorem lw_p26 : lw_okq (⟨"TwinToolsModel", "here", "()I"⟩, 23) := ⟨⟨by decide +kernel, by decide +kernel⟩, List.mem_of_getElem? (i := 1090) (by decide +kernel), List.mem_of_getElem? (i := 1181) (by decide +kernel), List.mem_of_getElem? (i := 1182) (by decide +kernel)⟩
theorem lw_p27 : lw_okq (⟨"TwinToolsModel", "much", "(ILjava/lang/String;)V"⟩, 23) := ⟨⟨by decide +kernel, by decide +kernel⟩, List.mem_of_getElem? (i := 1090) (by decide +kernel), List.mem_of_getElem? (i := 1186) (by decide +kernel), List.mem_of_getElem? (i := 1187) (by decide +kernel)⟩
theorem lw_p28 : lw_okq (⟨"TwinToolsModel", "spells", "(Ljava/lang/String;)V"⟩, 23) := ⟨⟨by decide +kernel, by decide +kernel⟩, List.mem_of_getElem? (i := 1090) (by decide +kernel), List.mem_of_getElem? (i := 1190) (by decide +kernel), List.mem_of_getElem? (i := 1191) (by decide +kernel)⟩
theorem lw_p29 : lw_okq (⟨"TwinToolsModel", "must", "(I)V"⟩, 23) := ⟨⟨by decide +kernel, by decide +kernel⟩, List.mem_of_getElem? (i := 1090) (by decide +kernel), List.mem_of_getElem? (i := 1196) (by decide +kernel), List.mem_of_getElem? (i := 1197) (by decide +kernel)⟩
theorem lw_p30 : lw_okq (⟨"TwinToolsModel", "figures", "()I"⟩, 23) := ⟨⟨by decide +kernel, by decide +kernel⟩, List.mem_of_getElem? (i := 1090) (by decide +kernel), List.mem_of_getElem? (i := 1200) (by decide +kernel), List.mem_of_getElem? (i := 1201) (by decide +kernel)⟩
theorem lw_p31 : lw_okq (⟨"TwinToolsModel", "some", "()V"⟩, 23) := ⟨⟨by decide +kernel, by decide +kernel⟩, List.mem_of_getElem? (i := 1090) (by decide +kernel), List.mem_of_getElem? (i := 1204) (by decide +kernel), List.mem_of_getElem? (i := 1205) (by decide +kernel)⟩
def lw_privs_2 : List (MethodName × Nat) := [(⟨"TwinTools$Plan", "bestSet", "(I)I"⟩, 19), (⟨"TwinTools$World", "copyPeople", "(LTwinTools$World;)V"⟩, 20), (⟨"TwinTools$World", "copyTools", "(LTwinTools$World;)V"⟩, 20), (⟨"TwinTools$World", "copyRows", "(LTwinTools$World;)V"⟩, 20), (⟨"TwinTools$Plan", "keepChange", "(III)V"⟩, 19), (⟨"TwinTools$Plan", "joinRest", "(LTwinTools$World;I)V"⟩, 19), (⟨"TwinTools$Plan", "keepJoin", "(LTwinTools$World;I)V"⟩, 19), (⟨"TwinTools$World", "mayBeBroken", "(I)Z"⟩, 20), (⟨"TwinTools$World", "wentIn", "(I)Z"⟩, 20), (⟨"TwinToolsModel", "clauseHere", "()V"⟩, 23), (⟨"TwinToolsModel", "here", "()I"⟩, 23), (⟨"TwinToolsModel", "much", "(ILjava/lang/String;)V"⟩, 23), (⟨"TwinToolsModel", "spells", "(Ljava/lang/String;)V"⟩, 23), (⟨"TwinToolsModel", "must", "(I)V"⟩, 23), (⟨"TwinToolsModel", "figures", "()I"⟩, 23), (⟨"TwinToolsModel", "some", "()V"⟩, 23)]
theorem lw_r2 : ∀ q ∈ lw_privs_2, lw_okq q := List.forall_mem_cons.mpr ⟨lw_p16, List.forall_mem_cons.mpr ⟨lw_p17, List.forall_mem_cons.mpr ⟨lw_p18, List.forall_mem_cons.mpr ⟨lw_p19, List.forall_mem_cons.mpr ⟨lw_p20, List.forall_mem_cons.mpr ⟨lw_p21, List.forall_mem_cons.mpr ⟨lw_p22, List.forall_mem_cons.mpr ⟨lw_p23, List.forall_mem_cons.mpr ⟨lw_p24, List.forall_mem_cons.mpr ⟨lw_p25, List.forall_mem_cons.mpr ⟨lw_p26, List.forall_mem_cons.mpr ⟨lw_p27, List.forall_mem_cons.mpr ⟨lw_p28, List.forall_mem_cons.mpr ⟨lw_p29, List.forall_mem_cons.mpr ⟨lw_p30, List.forall_mem_cons.mpr ⟨lw_p31, fun _ h => absurd h List.not_mem_nil⟩⟩⟩⟩⟩⟩⟩⟩⟩⟩⟩⟩⟩⟩⟩⟩
theorem lw_p32 : lw_okq (⟨"TwinToolsModel", "every", "()V"⟩, 23) := ⟨⟨by decide +kernel, by decide +kernel⟩, List.mem_of_getElem? (i := 1090) (by decide +kernel), List.mem_of_getElem? (i := 1208) (by decide +kernel), List.mem_of_getElem? (i := 1209) (by decide +kernel)⟩
theorem lw_p33 : lw_okq (⟨"TwinToolsModel", "factor", "()V"⟩, 23) := ⟨⟨by decide +kernel, by decide +kernel⟩, List.mem_of_getElem? (i := 1090) (by decide +kernel), List.mem_of_getElem? (i := 1212) (by decide +kernel), List.mem_of_getElem? (i := 1213) (by decide +kernel)⟩
theorem lw_p34 : lw_okq (⟨"TwinToolsModel", "emits", "(I)V"⟩, 23) := ⟨⟨by decide +kernel, by decide +kernel⟩, List.mem_of_getElem? (i := 1090) (by decide +kernel), List.mem_of_getElem? (i := 1216) (by decide +kernel), List.mem_of_getElem? (i := 1217) (by decide +kernel)⟩
theorem lw_p35 : lw_okq (⟨"TwinToolsModel", "among", "(Ljava/lang/String;)I"⟩, 23) := ⟨⟨by decide +kernel, by decide +kernel⟩, List.mem_of_getElem? (i := 1090) (by decide +kernel), List.mem_of_getElem? (i := 1221) (by decide +kernel), List.mem_of_getElem? (i := 1222) (by decide +kernel)⟩
theorem lw_p36 : lw_okq (⟨"TwinToolsModel", "isPerson", "(I)Z"⟩, 23) := ⟨⟨by decide +kernel, by decide +kernel⟩, List.mem_of_getElem? (i := 1090) (by decide +kernel), List.mem_of_getElem? (i := 1236) (by decide +kernel), List.mem_of_getElem? (i := 1237) (by decide +kernel)⟩
theorem lw_p37 : lw_okq (⟨"TwinToolsModel", "isTool", "(I)Z"⟩, 23) := ⟨⟨by decide +kernel, by decide +kernel⟩, List.mem_of_getElem? (i := 1090) (by decide +kernel), List.mem_of_getElem? (i := 1253) (by decide +kernel), List.mem_of_getElem? (i := 1254) (by decide +kernel)⟩
theorem lw_p38 : lw_okq (⟨"TwinToolsModel", "parts", "(I)V"⟩, 23) := ⟨⟨by decide +kernel, by decide +kernel⟩, List.mem_of_getElem? (i := 1090) (by decide +kernel), List.mem_of_getElem? (i := 1257) (by decide +kernel), List.mem_of_getElem? (i := 1258) (by decide +kernel)⟩
theorem lw_p39 : lw_okq (⟨"TwinToolsModel", "worthOf", "(II)I"⟩, 23) := ⟨⟨by decide +kernel, by decide +kernel⟩, List.mem_of_getElem? (i := 1090) (by decide +kernel), List.mem_of_getElem? (i := 1280) (by decide +kernel), List.mem_of_getElem? (i := 1281) (by decide +kernel)⟩
theorem lw_p40 : lw_okq (⟨"TwinToolsModel", "lesser", "(I)I"⟩, 23) := ⟨⟨by decide +kernel, by decide +kernel⟩, List.mem_of_getElem? (i := 1090) (by decide +kernel), List.mem_of_getElem? (i := 1284) (by decide +kernel), List.mem_of_getElem? (i := 1285) (by decide +kernel)⟩
theorem lw_p41 : lw_okq (⟨"TwinToolsModel", "atOf", "(II)I"⟩, 23) := ⟨⟨by decide +kernel, by decide +kernel⟩, List.mem_of_getElem? (i := 1090) (by decide +kernel), List.mem_of_getElem? (i := 1292) (by decide +kernel), List.mem_of_getElem? (i := 1293) (by decide +kernel)⟩
theorem lw_p42 : lw_okq (⟨"TwinToolsModel", "isFree", "(II)Z"⟩, 23) := ⟨⟨by decide +kernel, by decide +kernel⟩, List.mem_of_getElem? (i := 1090) (by decide +kernel), List.mem_of_getElem? (i := 1296) (by decide +kernel), List.mem_of_getElem? (i := 1297) (by decide +kernel)⟩
theorem lw_p43 : lw_okq (⟨"TwinToolsModel", "bell", "()I"⟩, 23) := ⟨⟨by decide +kernel, by decide +kernel⟩, List.mem_of_getElem? (i := 1090) (by decide +kernel), List.mem_of_getElem? (i := 1300) (by decide +kernel), List.mem_of_getElem? (i := 1301) (by decide +kernel)⟩
theorem lw_p44 : lw_okq (⟨"TwinToolsModel", "atBest", "(IIZ)I"⟩, 23) := ⟨⟨by decide +kernel, by decide +kernel⟩, List.mem_of_getElem? (i := 1090) (by decide +kernel), List.mem_of_getElem? (i := 1304) (by decide +kernel), List.mem_of_getElem? (i := 1305) (by decide +kernel)⟩
theorem lw_p45 : lw_okq (⟨"TwinToolsModel", "isFit", "(II)Z"⟩, 23) := ⟨⟨by decide +kernel, by decide +kernel⟩, List.mem_of_getElem? (i := 1090) (by decide +kernel), List.mem_of_getElem? (i := 1308) (by decide +kernel), List.mem_of_getElem? (i := 1309) (by decide +kernel)⟩
theorem lw_p46 : lw_okq (⟨"TwinToolsModel", "atHome", "(I)I"⟩, 23) := ⟨⟨by decide +kernel, by decide +kernel⟩, List.mem_of_getElem? (i := 1090) (by decide +kernel), List.mem_of_getElem? (i := 1312) (by decide +kernel), List.mem_of_getElem? (i := 1313) (by decide +kernel)⟩
theorem lw_p47 : lw_okq (⟨"TwinToolsModel", "atLeast", "(I)I"⟩, 23) := ⟨⟨by decide +kernel, by decide +kernel⟩, List.mem_of_getElem? (i := 1090) (by decide +kernel), List.mem_of_getElem? (i := 1316) (by decide +kernel), List.mem_of_getElem? (i := 1317) (by decide +kernel)⟩
def lw_privs_3 : List (MethodName × Nat) := [(⟨"TwinToolsModel", "every", "()V"⟩, 23), (⟨"TwinToolsModel", "factor", "()V"⟩, 23), (⟨"TwinToolsModel", "emits", "(I)V"⟩, 23), (⟨"TwinToolsModel", "among", "(Ljava/lang/String;)I"⟩, 23), (⟨"TwinToolsModel", "isPerson", "(I)Z"⟩, 23), (⟨"TwinToolsModel", "isTool", "(I)Z"⟩, 23), (⟨"TwinToolsModel", "parts", "(I)V"⟩, 23), (⟨"TwinToolsModel", "worthOf", "(II)I"⟩, 23), (⟨"TwinToolsModel", "lesser", "(I)I"⟩, 23), (⟨"TwinToolsModel", "atOf", "(II)I"⟩, 23), (⟨"TwinToolsModel", "isFree", "(II)Z"⟩, 23), (⟨"TwinToolsModel", "bell", "()I"⟩, 23), (⟨"TwinToolsModel", "atBest", "(IIZ)I"⟩, 23), (⟨"TwinToolsModel", "isFit", "(II)Z"⟩, 23), (⟨"TwinToolsModel", "atHome", "(I)I"⟩, 23), (⟨"TwinToolsModel", "atLeast", "(I)I"⟩, 23)]
theorem lw_r3 : ∀ q ∈ lw_privs_3, lw_okq q := List.forall_mem_cons.mpr ⟨lw_p32, List.forall_mem_cons.mpr ⟨lw_p33, List.forall_mem_cons.mpr ⟨lw_p34, List.forall_mem_cons.mpr ⟨lw_p35, List.forall_mem_cons.mpr ⟨lw_p36, List.forall_mem_cons.mpr ⟨lw_p37, List.forall_mem_cons.mpr ⟨lw_p38, List.forall_mem_cons.mpr ⟨lw_p39, List.forall_mem_cons.mpr ⟨lw_p40, List.forall_mem_cons.mpr ⟨lw_p41, List.forall_mem_cons.mpr ⟨lw_p42, List.forall_mem_cons.mpr ⟨lw_p43, List.forall_mem_cons.mpr ⟨lw_p44, List.forall_mem_cons.mpr ⟨lw_p45, List.forall_mem_cons.mpr ⟨lw_p46, List.forall_mem_cons.mpr ⟨lw_p47, fun _ h => absurd h List.not_mem_nil⟩⟩⟩⟩⟩⟩⟩⟩⟩⟩⟩⟩⟩⟩⟩⟩
theorem lw_p48 : lw_okq (⟨"TwinToolsModel", "going", "(I)I"⟩, 23) := ⟨⟨by decide +kernel, by decide +kernel⟩, List.mem_of_getElem? (i := 1090) (by decide +kernel), List.mem_of_getElem? (i := 1324) (by decide +kernel), List.mem_of_getElem? (i := 1325) (by decide +kernel)⟩
theorem lw_p49 : lw_okq (⟨"TwinToolsModel", "workedAt", "(I)I"⟩, 23) := ⟨⟨by decide +kernel, by decide +kernel⟩, List.mem_of_getElem? (i := 1090) (by decide +kernel), List.mem_of_getElem? (i := 1328) (by decide +kernel), List.mem_of_getElem? (i := 1329) (by decide +kernel)⟩
theorem lw_p50 : lw_okq (⟨"TwinToolsModel", "doesGo", "(II)Z"⟩, 23) := ⟨⟨by decide +kernel, by decide +kernel⟩, List.mem_of_getElem? (i := 1090) (by decide +kernel), List.mem_of_getElem? (i := 1332) (by decide +kernel), List.mem_of_getElem? (i := 1333) (by decide +kernel)⟩
theorem lw_p51 : lw_okq (⟨"TwinToolsModel", "waiting", "(I)I"⟩, 23) := ⟨⟨by decide +kernel, by decide +kernel⟩, List.mem_of_getElem? (i := 1090) (by decide +kernel), List.mem_of_getElem? (i := 1336) (by decide +kernel), List.mem_of_getElem? (i := 1337) (by decide +kernel)⟩
theorem lw_p52 : lw_okq (⟨"TwinToolsModel", "looksForMost", "(I)V"⟩, 23) := ⟨⟨by decide +kernel, by decide +kernel⟩, List.mem_of_getElem? (i := 1090) (by decide +kernel), List.mem_of_getElem? (i := 1340) (by decide +kernel), List.mem_of_getElem? (i := 1341) (by decide +kernel)⟩
theorem lw_p53 : lw_okq (⟨"TwinToolsModel", "setsFrom", "(IIIIII)V"⟩, 23) := ⟨⟨by decide +kernel, by decide +kernel⟩, List.mem_of_getElem? (i := 1090) (by decide +kernel), List.mem_of_getElem? (i := 1344) (by decide +kernel), List.mem_of_getElem? (i := 1345) (by decide +kernel)⟩
theorem lw_p54 : lw_okq (⟨"TwinToolsModel", "can", "(III)Z"⟩, 23) := ⟨⟨by decide +kernel, by decide +kernel⟩, List.mem_of_getElem? (i := 1090) (by decide +kernel), List.mem_of_getElem? (i := 1348) (by decide +kernel), List.mem_of_getElem? (i := 1349) (by decide +kernel)⟩
theorem lw_p55 : lw_okq (⟨"TwinToolsModel", "allWorth", "()I"⟩, 23) := ⟨⟨by decide +kernel, by decide +kernel⟩, List.mem_of_getElem? (i := 1090) (by decide +kernel), List.mem_of_getElem? (i := 1360) (by decide +kernel), List.mem_of_getElem? (i := 1361) (by decide +kernel)⟩
theorem lw_p56 : lw_okq (⟨"TwinToolsModel", "allWaiting", "()I"⟩, 23) := ⟨⟨by decide +kernel, by decide +kernel⟩, List.mem_of_getElem? (i := 1090) (by decide +kernel), List.mem_of_getElem? (i := 1364) (by decide +kernel), List.mem_of_getElem? (i := 1365) (by decide +kernel)⟩
theorem lw_p57 : lw_okq (⟨"TwinToolsModel", "bestDay", "()I"⟩, 23) := ⟨⟨by decide +kernel, by decide +kernel⟩, List.mem_of_getElem? (i := 1090) (by decide +kernel), List.mem_of_getElem? (i := 1371) (by decide +kernel), List.mem_of_getElem? (i := 1372) (by decide +kernel)⟩
theorem lw_p58 : lw_okq (⟨"TwinToolsModel", "changes", "(II)V"⟩, 23) := ⟨⟨by decide +kernel, by decide +kernel⟩, List.mem_of_getElem? (i := 1090) (by decide +kernel), List.mem_of_getElem? (i := 1379) (by decide +kernel), List.mem_of_getElem? (i := 1380) (by decide +kernel)⟩
theorem lw_p59 : lw_okq (⟨"TwinToolsModel", "awayOf", "(I)I"⟩, 23) := ⟨⟨by decide +kernel, by decide +kernel⟩, List.mem_of_getElem? (i := 1090) (by decide +kernel), List.mem_of_getElem? (i := 1387) (by decide +kernel), List.mem_of_getElem? (i := 1388) (by decide +kernel)⟩
theorem lw_p60 : lw_okq (⟨"TwinToolsModel", "joins", "()V"⟩, 23) := ⟨⟨by decide +kernel, by decide +kernel⟩, List.mem_of_getElem? (i := 1090) (by decide +kernel), List.mem_of_getElem? (i := 1399) (by decide +kernel), List.mem_of_getElem? (i := 1400) (by decide +kernel)⟩
theorem lw_p61 : lw_okq (⟨"TwinToolsModel", "brokenOnes", "()I"⟩, 23) := ⟨⟨by decide +kernel, by decide +kernel⟩, List.mem_of_getElem? (i := 1090) (by decide +kernel), List.mem_of_getElem? (i := 1415) (by decide +kernel), List.mem_of_getElem? (i := 1416) (by decide +kernel)⟩
theorem lw_p62 : lw_okq (⟨"TwinToolsModel", "nextTry", "()I"⟩, 23) := ⟨⟨by decide +kernel, by decide +kernel⟩, List.mem_of_getElem? (i := 1090) (by decide +kernel), List.mem_of_getElem? (i := 1419) (by decide +kernel), List.mem_of_getElem? (i := 1420) (by decide +kernel)⟩
theorem lw_p63 : lw_okq (⟨"TwinToolsModel", "liftsActs", "(I)I"⟩, 23) := ⟨⟨by decide +kernel, by decide +kernel⟩, List.mem_of_getElem? (i := 1090) (by decide +kernel), List.mem_of_getElem? (i := 1448) (by decide +kernel), List.mem_of_getElem? (i := 1449) (by decide +kernel)⟩
def lw_privs_4 : List (MethodName × Nat) := [(⟨"TwinToolsModel", "going", "(I)I"⟩, 23), (⟨"TwinToolsModel", "workedAt", "(I)I"⟩, 23), (⟨"TwinToolsModel", "doesGo", "(II)Z"⟩, 23), (⟨"TwinToolsModel", "waiting", "(I)I"⟩, 23), (⟨"TwinToolsModel", "looksForMost", "(I)V"⟩, 23), (⟨"TwinToolsModel", "setsFrom", "(IIIIII)V"⟩, 23), (⟨"TwinToolsModel", "can", "(III)Z"⟩, 23), (⟨"TwinToolsModel", "allWorth", "()I"⟩, 23), (⟨"TwinToolsModel", "allWaiting", "()I"⟩, 23), (⟨"TwinToolsModel", "bestDay", "()I"⟩, 23), (⟨"TwinToolsModel", "changes", "(II)V"⟩, 23), (⟨"TwinToolsModel", "awayOf", "(I)I"⟩, 23), (⟨"TwinToolsModel", "joins", "()V"⟩, 23), (⟨"TwinToolsModel", "brokenOnes", "()I"⟩, 23), (⟨"TwinToolsModel", "nextTry", "()I"⟩, 23), (⟨"TwinToolsModel", "liftsActs", "(I)I"⟩, 23)]
theorem lw_r4 : ∀ q ∈ lw_privs_4, lw_okq q := List.forall_mem_cons.mpr ⟨lw_p48, List.forall_mem_cons.mpr ⟨lw_p49, List.forall_mem_cons.mpr ⟨lw_p50, List.forall_mem_cons.mpr ⟨lw_p51, List.forall_mem_cons.mpr ⟨lw_p52, List.forall_mem_cons.mpr ⟨lw_p53, List.forall_mem_cons.mpr ⟨lw_p54, List.forall_mem_cons.mpr ⟨lw_p55, List.forall_mem_cons.mpr ⟨lw_p56, List.forall_mem_cons.mpr ⟨lw_p57, List.forall_mem_cons.mpr ⟨lw_p58, List.forall_mem_cons.mpr ⟨lw_p59, List.forall_mem_cons.mpr ⟨lw_p60, List.forall_mem_cons.mpr ⟨lw_p61, List.forall_mem_cons.mpr ⟨lw_p62, List.forall_mem_cons.mpr ⟨lw_p63, fun _ h => absurd h List.not_mem_nil⟩⟩⟩⟩⟩⟩⟩⟩⟩⟩⟩⟩⟩⟩⟩⟩
theorem lw_p64 : lw_okq (⟨"TwinToolsModel", "ranBody", "(I)V"⟩, 23) := ⟨⟨by decide +kernel, by decide +kernel⟩, List.mem_of_getElem? (i := 1090) (by decide +kernel), List.mem_of_getElem? (i := 1455) (by decide +kernel), List.mem_of_getElem? (i := 1456) (by decide +kernel)⟩
theorem lw_p65 : lw_okq (⟨"TwinToolsModel", "plainLifts", "(I)I"⟩, 23) := ⟨⟨by decide +kernel, by decide +kernel⟩, List.mem_of_getElem? (i := 1090) (by decide +kernel), List.mem_of_getElem? (i := 1459) (by decide +kernel), List.mem_of_getElem? (i := 1460) (by decide +kernel)⟩
theorem lw_p66 : lw_okq (⟨"TwinToolsModel", "waitsActs", "(I)I"⟩, 23) := ⟨⟨by decide +kernel, by decide +kernel⟩, List.mem_of_getElem? (i := 1090) (by decide +kernel), List.mem_of_getElem? (i := 1463) (by decide +kernel), List.mem_of_getElem? (i := 1464) (by decide +kernel)⟩
theorem lw_p67 : lw_okq (⟨"TwinToolsModel", "plainWaits", "(I)I"⟩, 23) := ⟨⟨by decide +kernel, by decide +kernel⟩, List.mem_of_getElem? (i := 1090) (by decide +kernel), List.mem_of_getElem? (i := 1467) (by decide +kernel), List.mem_of_getElem? (i := 1468) (by decide +kernel)⟩
theorem lw_p68 : lw_okq (⟨"TwinToolsModel", "tellsActs", "(I)I"⟩, 23) := ⟨⟨by decide +kernel, by decide +kernel⟩, List.mem_of_getElem? (i := 1090) (by decide +kernel), List.mem_of_getElem? (i := 1471) (by decide +kernel), List.mem_of_getElem? (i := 1472) (by decide +kernel)⟩
theorem lw_p69 : lw_okq (⟨"TwinToolsModel", "plainTells", "(I)I"⟩, 23) := ⟨⟨by decide +kernel, by decide +kernel⟩, List.mem_of_getElem? (i := 1090) (by decide +kernel), List.mem_of_getElem? (i := 1475) (by decide +kernel), List.mem_of_getElem? (i := 1476) (by decide +kernel)⟩
def lw_privs_5 : List (MethodName × Nat) := [(⟨"TwinToolsModel", "ranBody", "(I)V"⟩, 23), (⟨"TwinToolsModel", "plainLifts", "(I)I"⟩, 23), (⟨"TwinToolsModel", "waitsActs", "(I)I"⟩, 23), (⟨"TwinToolsModel", "plainWaits", "(I)I"⟩, 23), (⟨"TwinToolsModel", "tellsActs", "(I)I"⟩, 23), (⟨"TwinToolsModel", "plainTells", "(I)I"⟩, 23)]
theorem lw_r5 : ∀ q ∈ lw_privs_5, lw_okq q := List.forall_mem_cons.mpr ⟨lw_p64, List.forall_mem_cons.mpr ⟨lw_p65, List.forall_mem_cons.mpr ⟨lw_p66, List.forall_mem_cons.mpr ⟨lw_p67, List.forall_mem_cons.mpr ⟨lw_p68, List.forall_mem_cons.mpr ⟨lw_p69, fun _ h => absurd h List.not_mem_nil⟩⟩⟩⟩⟩⟩
def lw_privs : List (MethodName × Nat) := lw_privs_1 ++ (lw_privs_2 ++ (lw_privs_3 ++ (lw_privs_4 ++ (lw_privs_5))))
def lw_tbl : List Cond := k2_sels lw_privs ++ tables_1
theorem lw_privs_ok : ∀ q ∈ lw_privs, lw_okq q := by
  show ∀ q ∈ lw_privs_1 ++ (lw_privs_2 ++ (lw_privs_3 ++ (lw_privs_4 ++ (lw_privs_5)))), lw_okq q
  exact List.forall_mem_append.mpr ⟨lw_r1, List.forall_mem_append.mpr ⟨lw_r2, List.forall_mem_append.mpr ⟨lw_r3, List.forall_mem_append.mpr ⟨lw_r4, lw_r5⟩⟩⟩⟩
end
section
/-! class tables, string constants -/
def nC (k : Nat) : String := match k with
  | 0 => "TwinTools$Bell"
  | 1 => "TwinTools$Guessing"
  | 2 => "TwinTools$Hand"
  | 3 => "TwinTools$Home"
  | 4 => "TwinTools$Late"
  | 5 => "TwinTools$Lifting"
  | 6 => "TwinTools$Plan"
  | 7 => "TwinTools$Told"
  | 8 => "TwinTools$Trace"
  | 9 => "TwinTools$Valley"
  | 10 => "TwinTools$World"
  | 11 => "TwinTools"
  | _ => "TwinToolsModel"
def T_0 : u_T := fun k => match k with
  | 0 => ("TwinTools$Hand", "kind", "I", true)
  | 1 => ("TwinTools$Hand", "number", "I", true)
  | 2 => ("TwinTools$Hand", "v", "I", true)
  | _ => ("TwinTools$Hand", "house", "I", true)
def t_0 : Nat → FieldType := fun k => match k with
  | 0 => .int
  | 1 => .int
  | 2 => .int
  | _ => .int
def T_1 : u_T := fun k => match k with
  | 0 => ("TwinTools$Hand", "kind", "I", true)
  | 1 => ("TwinTools$Hand", "number", "I", true)
  | 2 => ("TwinTools$Hand", "v", "I", true)
  | _ => ("TwinTools$Hand", "house", "I", true)
def t_1 : Nat → FieldType := fun k => match k with
  | 0 => .int
  | 1 => .int
  | 2 => .int
  | _ => .int
def T_2 : u_T := fun k => match k with
  | 0 => ("TwinTools$Hand", "kind", "I", true)
  | 1 => ("TwinTools$Hand", "number", "I", true)
  | 2 => ("TwinTools$Hand", "v", "I", true)
  | _ => ("TwinTools$Hand", "house", "I", true)
def t_2 : Nat → FieldType := fun k => match k with
  | 0 => .int
  | 1 => .int
  | 2 => .int
  | _ => .int
def T_3 : u_T := fun k => match k with
  | 0 => ("TwinTools$Hand", "kind", "I", true)
  | 1 => ("TwinTools$Hand", "number", "I", true)
  | 2 => ("TwinTools$Hand", "v", "I", true)
  | _ => ("TwinTools$Hand", "house", "I", true)
def t_3 : Nat → FieldType := fun k => match k with
  | 0 => .int
  | 1 => .int
  | 2 => .int
  | _ => .int
def T_4 : u_T := fun k => match k with
  | 0 => ("TwinTools$Hand", "kind", "I", true)
  | 1 => ("TwinTools$Hand", "number", "I", true)
  | 2 => ("TwinTools$Hand", "v", "I", true)
  | _ => ("TwinTools$Hand", "house", "I", true)
def t_4 : Nat → FieldType := fun k => match k with
  | 0 => .int
  | 1 => .int
  | 2 => .int
  | _ => .int
def T_5 : u_T := fun k => match k with
  | 0 => ("TwinTools$Hand", "kind", "I", true)
  | 1 => ("TwinTools$Hand", "number", "I", true)
  | 2 => ("TwinTools$Hand", "v", "I", true)
  | _ => ("TwinTools$Hand", "house", "I", true)
def t_5 : Nat → FieldType := fun k => match k with
  | 0 => .int
  | 1 => .int
  | 2 => .int
  | _ => .int
def T_6 : u_T := fun k => match k with
  | 0 => ("TwinTools$Plan", "world", "LTwinTools$World;", false)
  | 1 => ("TwinTools$Plan", "bell", "I", false)
  | 2 => ("TwinTools$Plan", "worth", "[[I", true)
  | 3 => ("TwinTools$Plan", "held", "[I", true)
  | 4 => ("TwinTools$Plan", "twinHeld", "[I", true)
  | 5 => ("TwinTools$Plan", "fit", "I", false)
  | 6 => ("TwinTools$Plan", "inOneHouse", "I", false)
  | 7 => ("TwinTools$Plan", "pairs", "[I", true)
  | 8 => ("TwinTools$Plan", "pairHolders", "[I", true)
  | 9 => ("TwinTools$Plan", "pairHours", "[I", true)
  | 10 => ("TwinTools$Plan", "pairCount", "I", false)
  | 11 => ("TwinTools$Plan", "setHolders", "[I", true)
  | 12 => ("TwinTools$Plan", "setHours", "[I", true)
  | 13 => ("TwinTools$Plan", "setWorth", "[I", true)
  | 14 => ("TwinTools$Plan", "changeOne", "I", false)
  | 15 => ("TwinTools$Plan", "changeOther", "I", false)
  | 16 => ("TwinTools$Plan", "changeMore", "I", false)
  | 17 => ("TwinTools$Plan", "joinRow", "[I", true)
  | _ => ("TwinTools$Plan", "joinBest", "I", false)
def t_6 : Nat → FieldType := fun k => match k with
  | 0 => .object "TwinTools$World"
  | 1 => .int
  | 2 => .array (.array .int)
  | 3 => .array .int
  | 4 => .array .int
  | 5 => .int
  | 6 => .int
  | 7 => .array .int
  | 8 => .array .int
  | 9 => .array .int
  | 10 => .int
  | 11 => .array .int
  | 12 => .array .int
  | 13 => .array .int
  | 14 => .int
  | 15 => .int
  | 16 => .int
  | 17 => .array .int
  | _ => .int
def T_7 : u_T := fun k => match k with
  | 0 => ("TwinTools$Hand", "kind", "I", true)
  | 1 => ("TwinTools$Hand", "number", "I", true)
  | 2 => ("TwinTools$Hand", "v", "I", true)
  | _ => ("TwinTools$Hand", "house", "I", true)
def t_7 : Nat → FieldType := fun k => match k with
  | 0 => .int
  | 1 => .int
  | 2 => .int
  | _ => .int
def T_8 : u_T := fun k => match k with
  | 0 => ("TwinTools$Trace", "bodies", "[I", true)
  | _ => ("TwinTools$Trace", "size", "I", false)
def t_8 : Nat → FieldType := fun k => match k with
  | 0 => .array .int
  | _ => .int
def T_9 : u_T := fun k => match k with
  | 0 => ("TwinTools$Valley", "bell", "I", false)
  | 1 => ("TwinTools$Valley", "amounts", "[I", true)
  | 2 => ("TwinTools$Valley", "ends", "[I", true)
  | 3 => ("TwinTools$Valley", "clauseCount", "I", false)
  | 4 => ("TwinTools$Valley", "steps", "[I", true)
  | 5 => ("TwinTools$Valley", "stepCount", "I", false)
  | 6 => ("TwinTools$Valley", "facts", "[I", true)
  | 7 => ("TwinTools$Valley", "parts", "[I", true)
  | 8 => ("TwinTools$Valley", "text", "[B", true)
  | 9 => ("TwinTools$Valley", "size", "I", false)
  | 10 => ("TwinTools$Valley", "place", "I", false)
  | _ => ("TwinTools$Valley", "number", "I", false)
def t_9 : Nat → FieldType := fun k => match k with
  | 0 => .int
  | 1 => .array .int
  | 2 => .array .int
  | 3 => .int
  | 4 => .array .int
  | 5 => .int
  | 6 => .array .int
  | 7 => .array .int
  | 8 => .array .byte
  | 9 => .int
  | 10 => .int
  | _ => .int
def T_10 : u_T := fun k => match k with
  | 0 => ("TwinTools$World", "tape", "[B", true)
  | 1 => ("TwinTools$World", "signs", "I", false)
  | 2 => ("TwinTools$World", "valleys", "[LTwinTools$Valley;", true)
  | 3 => ("TwinTools$World", "valleyCount", "I", false)
  | 4 => ("TwinTools$World", "people", "[LTwinTools$Hand;", true)
  | 5 => ("TwinTools$World", "peopleCount", "I", false)
  | 6 => ("TwinTools$World", "free", "[I", true)
  | 7 => ("TwinTools$World", "rows", "[I", true)
  | 8 => ("TwinTools$World", "sort", "[I", true)
  | 9 => ("TwinTools$World", "holder", "[I", true)
  | 10 => ("TwinTools$World", "twin", "[I", true)
  | 11 => ("TwinTools$World", "broken", "I", false)
  | 12 => ("TwinTools$World", "toolCount", "I", false)
  | 13 => ("TwinTools$World", "trialOne", "[I", true)
  | 14 => ("TwinTools$World", "trialOther", "[I", true)
  | 15 => ("TwinTools$World", "trialsThatWent", "I", false)
  | 16 => ("TwinTools$World", "trialCount", "I", false)
  | 17 => ("TwinTools$World", "bookHour", "[I", true)
  | 18 => ("TwinTools$World", "bookTool", "[I", true)
  | _ => ("TwinTools$World", "bookCount", "I", false)
def t_10 : Nat → FieldType := fun k => match k with
  | 0 => .array .byte
  | 1 => .int
  | 2 => .array (.object "TwinTools$Valley")
  | 3 => .int
  | 4 => .array (.object "TwinTools$Hand")
  | 5 => .int
  | 6 => .array .int
  | 7 => .array .int
  | 8 => .array .int
  | 9 => .array .int
  | 10 => .array .int
  | 11 => .int
  | 12 => .int
  | 13 => .array .int
  | 14 => .array .int
  | 15 => .int
  | 16 => .int
  | 17 => .array .int
  | 18 => .array .int
  | _ => .int
def T_11 : u_T := fun k => match k with
  | 0 => ("TwinTools", "now", "LTwinTools$World;", true)
  | 1 => ("TwinTools", "kept", "LTwinTools$World;", true)
  | 2 => ("TwinTools", "guess", "LTwinTools$World;", true)
  | 3 => ("TwinTools", "hasKept", "Z", false)
  | 4 => ("TwinTools", "plan", "LTwinTools$Plan;", true)
  | 5 => ("TwinTools", "ran", "LTwinTools$Trace;", true)
  | _ => ("TwinTools", "spare", "LTwinTools$Valley;", false)
def t_11 : Nat → FieldType := fun k => match k with
  | 0 => .object "TwinTools$World"
  | 1 => .object "TwinTools$World"
  | 2 => .object "TwinTools$World"
  | 3 => .boolean
  | 4 => .object "TwinTools$Plan"
  | 5 => .object "TwinTools$Trace"
  | _ => .object "TwinTools$Valley"
def T_12 : u_T := fun k => match k with
  | 0 => ("TwinToolsModel", "thrown", "I", false)
  | 1 => ("TwinToolsModel", "s", "[I", true)
  | 2 => ("TwinToolsModel", "image", "[I", true)
  | 3 => ("TwinToolsModel", "hasImage", "Z", false)
  | 4 => ("TwinToolsModel", "act", "I", false)
  | 5 => ("TwinToolsModel", "spot", "I", false)
  | 6 => ("TwinToolsModel", "end", "I", false)
  | 7 => ("TwinToolsModel", "isWrong", "Z", false)
  | 8 => ("TwinToolsModel", "open", "I", false)
  | 9 => ("TwinToolsModel", "by", "[I", true)
  | 10 => ("TwinToolsModel", "truths", "[Z", true)
  | 11 => ("TwinToolsModel", "most", "I", false)
  | 12 => ("TwinToolsModel", "mostSet", "I", false)
  | 13 => ("TwinToolsModel", "manyAtOnce", "I", false)
  | 14 => ("TwinToolsModel", "twins", "[I", true)
  | 15 => ("TwinToolsModel", "bestTwins", "[I", true)
  | 16 => ("TwinToolsModel", "bestJoined", "I", false)
  | 17 => ("TwinToolsModel", "isJoined", "Z", false)
  | 18 => ("TwinToolsModel", "bodies", "[I", true)
  | 19 => ("TwinToolsModel", "ran", "I", false)
  | 20 => ("TwinToolsModel", "kind", "I", false)
  | 21 => ("TwinToolsModel", "number", "I", false)
  | _ => ("TwinToolsModel", "tellsV", "I", false)
def t_12 : Nat → FieldType := fun k => match k with
  | 0 => .int
  | 1 => .array .int
  | 2 => .array .int
  | 3 => .boolean
  | 4 => .int
  | 5 => .int
  | 6 => .int
  | 7 => .boolean
  | 8 => .int
  | 9 => .array .int
  | 10 => .array .boolean
  | 11 => .int
  | 12 => .int
  | 13 => .int
  | 14 => .array .int
  | 15 => .array .int
  | 16 => .int
  | 17 => .boolean
  | 18 => .array .int
  | 19 => .int
  | 20 => .int
  | 21 => .int
  | _ => .int
abbrev tCl : List vw_C := [("TwinTools$Bell", T_0, 4), ("TwinTools$Guessing", T_1, 4), ("TwinTools$Hand", T_2, 4), ("TwinTools$Home", T_3, 4), ("TwinTools$Late", T_4, 4), ("TwinTools$Lifting", T_5, 4), ("TwinTools$Plan", T_6, 19), ("TwinTools$Told", T_7, 4), ("TwinTools$Trace", T_8, 2), ("TwinTools$Valley", T_9, 12), ("TwinTools$World", T_10, 20), ("TwinTools", T_11, 7), ("TwinToolsModel", T_12, 23)]
/-- which fields of a class are references -/
def tRefL : List (List Bool) := [[false, false, false, false], [false, false, false, false], [false, false, false, false], [false, false, false, false], [false, false, false, false], [false, false, false, false], [true, false, true, true, true, false, false, true, true, true, false, true, true, true, false, false, false, true, false], [false, false, false, false], [true, false], [false, true, true, false, true, false, true, true, true, false, false, false], [true, false, true, false, true, false, true, true, true, true, true, false, false, true, true, false, false, true, true, false], [true, true, true, false, true, true, true], [false, true, true, false, false, false, false, false, false, true, true, false, false, false, true, true, false, false, true, false, false, false, false]]
def tRef (c k : Nat) : Bool := (tRefL.getD c []).getD k false
/-- the string constants: class, entry, text, number -/
def sTab : List (String × Nat × String × Nat) := [("TwinTools$Valley", 68, "worth ", 0), ("TwinTools$Valley", 113, "0123456789", 1), ("TwinTools$Valley", 105, "hstkx", 2), ("TwinTools$Valley", 111, "<=>", 3), ("TwinTools$Valley", 78, "less ", 4), ("TwinTools$Valley", 80, "bell ", 5), ("TwinToolsModel", 102, "worth ", 0), ("TwinToolsModel", 84, "hstkx", 2), ("TwinToolsModel", 90, "<=>", 3), ("TwinToolsModel", 108, "less ", 4), ("TwinToolsModel", 110, "bell ", 5)]
def sLen : List Nat := [6, 10, 5, 3, 5, 5]
def sByt : List (List Int32) := [[119, 111, 114, 116, 104, 32], [48, 49, 50, 51, 52, 53, 54, 55, 56, 57], [104, 115, 116, 107, 120], [60, 61, 62], [108, 101, 115, 115, 32], [98, 101, 108, 108, 32]]
def castL : List (String × String) := [("TwinTools$Lifting", "TwinTools$Bell"), ("TwinTools$Late", "TwinTools$Home"), ("TwinTools$Told", "TwinTools$Guessing"), ("TwinTools$Bell", "TwinTools$Hand"), ("TwinTools$Home", "TwinTools$Hand"), ("TwinTools$Guessing", "TwinTools$Hand"), ("TwinTools$Lifting", "TwinTools$Hand"), ("TwinTools$Late", "TwinTools$Hand"), ("TwinTools$Told", "TwinTools$Hand")]
def ncL : List (String × String) := [("TwinTools$Bell", "TwinTools$Told"), ("TwinTools$Home", "TwinTools$Told"), ("TwinTools$Guessing", "TwinTools$Told"), ("TwinTools$Lifting", "TwinTools$Told"), ("TwinTools$Late", "TwinTools$Told"), ("TwinTools$Hand", "TwinTools$Told"), ("TwinTools$Home", "TwinTools$Bell"), ("TwinTools$Guessing", "TwinTools$Bell"), ("TwinTools$Late", "TwinTools$Bell"), ("TwinTools$Told", "TwinTools$Bell"), ("TwinTools$Hand", "TwinTools$Bell"), ("TwinTools$Bell", "TwinTools$Home"), ("TwinTools$Guessing", "TwinTools$Home"), ("TwinTools$Lifting", "TwinTools$Home"), ("TwinTools$Told", "TwinTools$Home"), ("TwinTools$Hand", "TwinTools$Home"), ("TwinTools$Bell", "TwinTools$Guessing"), ("TwinTools$Home", "TwinTools$Guessing"), ("TwinTools$Lifting", "TwinTools$Guessing"), ("TwinTools$Late", "TwinTools$Guessing"), ("TwinTools$Hand", "TwinTools$Guessing"), ("TwinTools$Bell", "TwinTools$Lifting"), ("TwinTools$Home", "TwinTools$Lifting"), ("TwinTools$Guessing", "TwinTools$Lifting"), ("TwinTools$Late", "TwinTools$Lifting"), ("TwinTools$Told", "TwinTools$Lifting"), ("TwinTools$Hand", "TwinTools$Lifting"), ("TwinTools$Bell", "TwinTools$Late"), ("TwinTools$Home", "TwinTools$Late"), ("TwinTools$Guessing", "TwinTools$Late"), ("TwinTools$Lifting", "TwinTools$Late"), ("TwinTools$Told", "TwinTools$Late"), ("TwinTools$Hand", "TwinTools$Late")]
def tw_AOA (U : State) : Prop := ∃ (comp c : ClassId) (k : Class), U.vm.findClass (FieldType.array .int).toString = some comp ∧ (U.vm.classes.findIdx? fun (x : Class) => match x.kind with | .array component _ => component == comp | _ => false) = some c ∧ U.vm.classes[c]? = some k ∧ k.kind = .array comp (.array .int) ∧ U.vm.findClass ("[" ++ (FieldType.array .int).toString) = some c
theorem tw_AOA_moved {u U : State} (hvm : u.vm.Alike U.vm) (h : tw_AOA u) : tw_AOA U := by
  obtain ⟨comp, c, k, h1, h2, h3, h4, h5⟩ := h
  obtain ⟨k', hk', he⟩ := hvm.2.2 _ _ h3
  refine ⟨comp, c, k', by rw [hvm.findClass]; exact h1, ?_, hk', by rw [he]; exact h4, by rw [hvm.findClass]; exact h5⟩
  refine (va_idx_bare U.vm comp).symm.trans ?_
  first | rw [hvm.bare_eq] | rw [← hvm.bare_eq]
  exact (va_idx_bare u.vm comp).trans h2
theorem tw_AOA_same {u U : State} (hv : U.vm = u.vm) (h : tw_AOA u) : tw_AOA U := tw_AOA_moved (by rw [hv]; exact Vm.Alike.refl _) h
end
section
/-! THE ABSTRACT MACHINE: numbers as integers, addresses counted from 0, a heap of three tables (kind and size, numbers, references); AW: the machine's W, for every real state that this one stands for. -/
abbrev tV : Type := Int ⊕ (Option Nat ⊕ Int)
abbrev vi (z : Int) : tV := .inl z
abbrev vr (r : Option Nat) : tV := .inr (.inl r)
abbrev vl (z : Int) : tV := .inr (.inr z)
abbrev tH : Type := (Nat → Nat × Nat) × (Nat → Int → Int) × (Nat → Int → Option Nat) × Nat
abbrev tJ : Type := Nat × Instr × Nat × Nat
abbrev tM : Type := MethodName × ByteArray × Nat × Option FieldType × List tJ
abbrev tG : Type := va_G × (Nat → ClassId) × Nat × (Nat → Nat) × (Nat → Nat)
def tw_w : tV → Nat
  | .inr (.inr _) => 2
  | _ => 1
def tw_ad (G : tG) (a : Nat) : Nat := if a < 1000000 then G.2.2.1 + a else G.2.2.2.1 (a - 1000000)
def tw_v (G : tG) : tV → Value
  | .inl z => .int (Int32.ofInt z)
  | .inr (.inl r) => va_rf (r.map (tw_ad G))
  | .inr (.inr z) => .long (Int64.ofInt z)
def tw_fv (G : tG) (h : tH) (a k : Nat) : Value := if tRef (h.1 a).1 k = true then va_rf ((h.2.2.1 a (k : Int)).map (tw_ad G)) else .int (Int32.ofInt (h.2.1 a (k : Int)))
def tw_c (G : tG) (h : tH) (a : Nat) : va_E :=
  if (h.1 a).1 < 13 then .inr ((h.1 a).1, (List.range (h.1 a).2).map (tw_fv G h a))
  else .inl (G.2.1 (h.1 a).1, (h.1 a).2, if (h.1 a).1 < 16 then .inl (fun j => Int32.ofInt (h.2.1 a (j : Int))) else .inr (.inr (.inr (.inr (fun j => (h.2.2.1 a (j : Int)).map (tw_ad G))))))
def tw_ws (G : tG) (h : tH) : va_W := (List.range h.2.2.2).map fun a => (tw_ad G a, tw_c G h a)
def tw_A (G : tG) : Nat → Prop := fun q => G.2.2.1 ≤ q
def tw_tys (G : tG) : List (ClassId × FieldType) := [(G.2.1 13, .byte), (G.2.1 14, .int), (G.2.1 15, .boolean), (G.2.1 16, .object "TwinTools$Hand"), (G.2.1 17, .object "TwinTools$Valley"), (G.2.1 18, .array .int)]
def tw_tbl : List Cond := lw_tbl.filter goodWord
theorem tw_in {w : Cond} (i : Nat) (h : lw_tbl[i]? = some w) (g : goodWord w = true) : w ∈ tw_tbl := List.mem_filter.mpr ⟨List.mem_of_getElem? h, g⟩
def tw_Str (G : tG) (U : State) : Prop := vk_S 6 sLen sByt G.2.2.2.1 G.2.2.2.2 (tw_A G) U U.heap ∧ (∀ q ∈ sTab, vk_R q.1 q.2.1 q.2.2.1 (G.2.2.2.1 q.2.2.2) U) ∧ va_Z "java/lang/String" "COMPACT_STRINGS" "Z" (.int 1) (tw_A G) U U.heap ∧ ∃ r : Option Nat, va_Z "jdk/internal/util/Preconditions" "SIOOBE_FORMATTER" "Ljava/util/function/BiFunction;" (va_rf r) (tw_A G) U U.heap
def tw_U (G : tG) (U : State) : Prop := va_K G.1 tCl (tw_tys G) U ∧ tw_Str G U ∧ (∀ q ∈ castL, va_Nw (.castable q.1 q.2) U) ∧ (∀ q ∈ ncL, va_Nc q.1 q.2 U) ∧ va_AO "TwinTools$Hand" U ∧ va_AO "TwinTools$Valley" U ∧ tw_AOA U
def tw_rm (d mc ms : Nat) : Room := { frames := d, cells := mc, slots := ms, locals := 64 * d }
def tw_wds (M : tM) : List Cond := Cond.code M.1 M.2.1 M.2.2.1 M.2.2.2.1 :: tw_tbl
def ilen : Instr → Nat
  | .aload _ | .iload _ | .lload _ | .astore _ | .istore _ | .lstore _ | .bipush _ | .ldc _ | .newarray _ => 2
  | .sipush _ | .getfield _ | .putfield _ | .getstatic _ | .invokevirtual _ | .invokespecial _ | .invokestatic _ | .new _ | .anewarray _ | .checkcast _ | .instanceof _ | .goto _ | .if_icmp _ _ | .ifCond _ _ | .if_acmp _ _ | .ifnull _ | .ifnonnull _ | .iinc _ _ | .ldc_w _ | .ldc2_w _ => 3
  | .multianewarray _ _ => 4
  | .tableswitch _ _ _ _ | .lookupswitch _ _ => 0
  | _ => 1
def ioff : Instr → Option Int
  | .goto o | .if_icmp _ o | .ifCond _ o | .if_acmp _ o | .ifnull o | .ifnonnull o => some o
  | _ => none
def tw_okI (cc : ByteArray) (q : tJ) : Bool := decide (decode cc q.1 = .ok (q.2.1, q.2.2.1 - q.1)) && (decide (ilen q.2.1 = 0) || decide (q.2.2.1 = q.1 + ilen q.2.1)) && (match ioff q.2.1 with | some o => decide ((q.1 : Int) + o = (q.2.2.2 : Int)) | none => true)
/-- the fixed things of one run of a method's body -/
def tw_X (l : Launch) (G : tG) (M : tM) (n0 mc : Nat) (p : Program) (s : State) (m : MethodId) (args : Array Value) (meth : Method) (c : Code) : Prop :=
  p.tables.exec = Jvm.exec ∧ c.code = M.2.1 ∧ meth.sig.returnType = M.2.2.2.1 ∧ c.maxLocals = M.2.2.1 ∧ s.vm.findClass M.1.cls = some m.cls ∧ (∀ w ∈ tw_wds M, w.before args s = true) ∧ tw_U G s ∧ meth.locks = false ∧ s.heap.size = G.2.2.1 + n0 ∧ n0 + mc < 1000000 ∧ meth.name = M.1.name ∧ ∀ q ∈ M.2.2.2.2, tw_okI M.2.1 q = true
def tw_Q (G : tG) (P : Option tV → tH → Prop) (mc : Nat) : Array Value → State → Outcome → State → Prop := fun _ st o t => ∃ (r : Option tV) (h : tH), o = .returned (r.map (tw_v G)) ∧ P r h ∧ va_P G.1 tCl (tw_ws G h) t.heap ∧ st.heap.size + mc = G.2.2.1 + h.2.2.2 ∧ va_F (tw_A G) st t
def tw_M (l : Launch) (G : tG) (d mc ms : Nat) (M : tM) (av : List tV) (h : tH) (P : Option tV → tH → Prop) : Prop :=
  Met l M.1 (tw_wds M) (tw_rm d mc ms) (va_Pc (av.map (tw_v G)) (fun U => va_P G.1 tCl (tw_ws G h) U.heap ∧ U.heap.size = G.2.2.1 + h.2.2.2 ∧ tw_U G U ∧ h.2.2.2 + mc < 1000000)) (tw_Q G P mc) mc ms (tw_A G)
abbrev tw_L (G : tG) (ls : List (Nat × tV)) : List (Nat × Value) := ls.map fun q => (q.1, tw_v G q.2)
def tw_AW (l : Launch) (G : tG) (M : tM) (d mc ms n0 c2 : Nat) (P : Option tV → tH → Prop) (pc : Nat) (ls : List (Nat × tV)) (st : List tV) (h : tH) : Prop :=
  ∀ (p : Program) (e : Env) (s : State) (m : MethodId) (args : Array Value) (below : List Frame) (meth : Method) (c : Code) (H : Heap) (locs : List Loc) (ls' : Array Slot),
    tw_X l G M n0 mc p s m args meth c → lv_has ls' M.2.2.1 (tw_L G ls) → va_P G.1 tCl (tw_ws G h) H → va_S (tw_A G) s.heap H locs → n0 ≤ h.2.2.2 → h.2.2.2 < 1000000 →
    W p l e (tw_rm d mc ms) s m args below meth c H locs (h.2.2.2 - n0) c2 (MQ below (tw_Q G P mc) args s mc ms (tw_A G)) (F0 m pc ls' (st.map (tw_v G)))
theorem tw_v_cat (G : tG) (v : tV) : (tw_v G v).category = tw_w v := by
  rcases v with z | r | z
  · rfl
  · cases r <;> rfl
  · rfl
theorem tw_ad_lt {G : tG} {a : Nat} (h : a < 1000000) : tw_ad G a = G.2.2.1 + a := if_pos h
theorem tw_ws_get {G : tG} {h : tH} {a : Nat} (ha : a < h.2.2.2) : (tw_ws G h)[a]? = some (tw_ad G a, tw_c G h a) := by
  simp [tw_ws, ha]
theorem tw_ws_inv {G : tG} {h : tH} {k : Nat} {q : Nat × va_E} (hk : (tw_ws G h)[k]? = some q) : k < h.2.2.2 ∧ q = (tw_ad G k, tw_c G h k) := by
  simp only [tw_ws, List.getElem?_map, Option.map_eq_some_iff] at hk
  obtain ⟨a, h1, h2⟩ := hk
  obtain ⟨h3, h4⟩ := List.getElem?_eq_some_iff.mp h1
  rw [List.getElem_range] at h4
  rw [List.length_range] at h3
  subst h4
  exact ⟨h3, h2.symm⟩
theorem tw_ws_D {G : tG} {h : tH} (hn : h.2.2.2 < 1000000) : va_D (tw_A G) (tw_ws G h) := by
  refine ⟨fun i j p q hp hq e => ?_, fun k q hk => ?_⟩
  · obtain ⟨i1, i2⟩ := tw_ws_inv hp
    obtain ⟨j1, j2⟩ := tw_ws_inv hq
    rw [i2, j2] at e
    simp only [tw_ad_lt (G := G) (show i < 1000000 by omega), tw_ad_lt (G := G) (show j < 1000000 by omega)] at e
    omega
  · obtain ⟨i1, i2⟩ := tw_ws_inv hk
    rw [i2]
    show G.2.2.1 ≤ tw_ad G k
    rw [tw_ad_lt (by omega)]
    omega
/-- another world of the same size: one cell is another -/
theorem tw_ws_set {G : tG} {h h' : tH} {a : Nat} {e : va_E} (hn : h'.2.2.2 = h.2.2.2) (ha : a < h.2.2.2) (he : tw_c G h' a = e) (ho : ∀ b, b ≠ a → tw_c G h' b = tw_c G h b) : (tw_ws G h).set a (tw_ad G a, e) = tw_ws G h' := by
  apply List.ext_getElem?
  intro k
  by_cases hk : k = a
  · subst hk
    rw [List.getElem?_set_self (by simp [tw_ws]; exact ha), tw_ws_get (by omega), he]
  · rw [List.getElem?_set_ne (fun q => hk q.symm)]
    simp only [tw_ws, List.getElem?_map, hn]
    by_cases hl : k < h.2.2.2
    · simp [hl, ho k hk]
    · simp [hl]
theorem tw_ws_push {G : tG} {h h' : tH} {e : va_E} (hn : h'.2.2.2 = h.2.2.2 + 1) (he : tw_c G h' h.2.2.2 = e) (ho : ∀ b, b < h.2.2.2 → tw_c G h' b = tw_c G h b) : tw_ws G h ++ [(tw_ad G h.2.2.2, e)] = tw_ws G h' := by
  unfold tw_ws
  rw [hn, List.range_succ, List.map_append, List.map_singleton, he]
  congr 1
  apply List.map_congr_left
  intro b hb
  rw [ho b (List.mem_range.mp hb)]
/-- the heap's size, by the count of what was made -/
theorem tw_size {p : Program} {l : Launch} {e : Env} {R : Room} {s : State} {m : MethodId} {args : Array Value} {below : List Frame} {meth : Method} {c : Code} {T : State} {locs : List Loc} {n0 slots : Nat} {G : tG} {h : tH}
    (X : Stand p l e R s m args below meth c T locs (h.2.2.2 - n0) slots) (hs : s.heap.size = G.2.2.1 + n0) (h0 : n0 ≤ h.2.2.2) (hn : h.2.2.2 < 1000000) (hP : va_P G.1 tCl (tw_ws G h) T.heap) (hz : s.heap.size ≤ T.heap.size) : T.heap.size = G.2.2.1 + h.2.2.2 := by
  have h1 := X.heapSize
  by_cases hq : h.2.2.2 = n0
  · omega
  · have h2 := (hP (h.2.2.2 - 1) _ (tw_ws_get (by omega))).lt
    have h3 : tw_ad G (h.2.2.2 - 1) < T.heap.size := h2
    rw [tw_ad_lt (by omega)] at h3
    omega
theorem tw_U_vm {G : tG} {u U : State} (hv : U.vm = u.vm) (hh : U.heap = u.heap) (h : tw_U G u) : tw_U G U := by
  have ha : u.vm.Alike U.vm := by rw [hv]; exact Vm.Alike.refl _
  obtain ⟨h1, ⟨s1, s2, s3, r, s4⟩, h3, h4, h5, h6, h7⟩ := h
  refine ⟨h1.moved ha, ⟨by rw [hh]; exact s1.moved ha, fun q hq => vk_R.same hv (s2 q hq), by rw [hh]; exact s3.moved ha, r, by rw [hh]; exact s4.moved ha⟩, fun q hq => va_Nw.same rfl hv.symm (h3 q hq), fun q hq => (h4 q hq).moved ha, h5.moved ha, h6.moved ha, tw_AOA_same hv h7⟩
theorem tw_U_warm {G : tG} {s U : State} (hW : s.WarmedH U.vm) (hz : s.heap.size ≤ U.heap.size) (hq : ∀ a : Nat, a < s.heap.size → ¬ tw_A G a → U.heap[a]? = s.heap[a]?) (h : tw_U G s) : tw_U G U := by
  have ha := hW.alike
  obtain ⟨h1, ⟨s1, s2, s3, r, s4⟩, h3, h4, h5, h6, h7⟩ := h
  exact ⟨h1.moved ha, ⟨(s1.kept hq).moved ha, fun q hq => (s2 q hq).warm hW, (s3.kept hq).moved ha, r, (s4.kept hq).moved ha⟩, fun q hq => (h3 q hq).warmC hW, fun q hq => (h4 q hq).moved ha, h5.moved ha, h6.moved ha, tw_AOA_moved ha h7⟩
end
section
theorem tr_b : ∀ {x : Int}, -128 ≤ x ∧ x ≤ 127 → (Int32.ofInt x).toInt8.toInt32 = Int32.ofInt x := by
  intro x hx
  apply Int32.toInt_inj.mp
  simp only [Int8.toInt_toInt32, Int32.toInt_toInt8, Int32.toInt_ofInt]
  have h1 : x.bmod Int32.size = x := Int.bmod_eq_of_le (by simp [Int32.size]; omega) (by simp [Int32.size]; omega)
  rw [h1]
  exact Int.bmod_eq_of_le (by simp; omega) (by simp; omega)
theorem tr_c : ∀ {x : Int}, 0 ≤ x ∧ x ≤ 65535 → ((Int32.ofInt x).toUInt32 % 65536).toInt32 = Int32.ofInt x := by
  intro x hx
  obtain ⟨n, rfl⟩ : ∃ n : Nat, x = n := ⟨x.toNat, by omega⟩
  have hn : n ≤ 65535 := by omega
  rw [Int32.ofInt_eq_ofNat]
  apply Int32.toBitVec_inj.mp
  apply BitVec.eq_of_toNat_eq
  simp
  omega
section AR
variable {l : Launch} {G : tG} {M : tM} {d mc ms n0 c2 : Nat} {P : Option tV → tH → Prop} {ls : List (Nat × tV)} {st : List tV} {h : tH} {k pc nx tg : Nat}
theorem tw_dec {p : Program} {s : State} {m : MethodId} {args : Array Value} {meth : Method} {c : Code} {ins : Instr} {n : Nat} (X : tw_X l G M n0 mc p s m args meth c) (hd : M.2.2.2.2[k]? = some (pc, ins, nx, tg)) (hn : ilen ins = n + 1) : decode M.2.1 pc = .ok (ins, n + 1) ∧ nx = pc + (n + 1) := by
  obtain ⟨-, -, -, -, -, -, -, -, -, -, -, hq⟩ := X
  have h := hq _ (List.mem_of_getElem? hd)
  simp only [tw_okI, Bool.and_eq_true, Bool.or_eq_true, decide_eq_true_eq] at h
  obtain ⟨⟨h1, h2⟩, -⟩ := h
  rcases h2 with h2 | h2
  · omega
  · rw [hn] at h2
    subst h2
    refine ⟨?_, rfl⟩
    rw [h1]
    congr 2
    omega
theorem tw_tgt {p : Program} {s : State} {m : MethodId} {args : Array Value} {meth : Method} {c : Code} {ins : Instr} {off : Int} (X : tw_X l G M n0 mc p s m args meth c) (hd : M.2.2.2.2[k]? = some (pc, ins, nx, tg)) (hn : ioff ins = some off) : (pc : Int) + off = (tg : Int) := by
  obtain ⟨-, -, -, -, -, -, -, -, -, -, -, hq⟩ := X
  have h := hq _ (List.mem_of_getElem? hd)
  simp only [tw_okI, hn, Bool.and_eq_true, decide_eq_true_eq] at h
  exact h.2
theorem tw_sw {p : Program} {s : State} {m : MethodId} {args : Array Value} {meth : Method} {c : Code} {ins : Instr} (X : tw_X l G M n0 mc p s m args meth c) (hd : M.2.2.2.2[k]? = some (pc, ins, nx, tg)) : decode M.2.1 pc = .ok (ins, nx - pc) := by
  obtain ⟨-, -, -, -, -, -, -, -, -, -, -, hq⟩ := X
  have h := hq _ (List.mem_of_getElem? hd)
  simp only [tw_okI, Bool.and_eq_true, decide_eq_true_eq] at h
  exact h.1.1
theorem ar_iconst {n : Int} (hd : M.2.2.2.2[k]? = some (pc, .iconst n, nx, tg))  (kk : tw_AW l G M d mc ms n0 c2 P nx ls (vi n :: st) h) : tw_AW l G M d mc ms n0 c2 P pc ls (st) h := by
  intro p e s m args below meth c H locs ls' X hl hP hS h0 hn
  obtain ⟨dd, e1⟩ := tw_dec X hd rfl
  subst e1
  have K := kk p e s m args below meth c H locs ls' X hl hP hS h0 hn
  exact lv_iconst X.1 X.2.1 dd rfl K
theorem ar_bipush {n : Int} (hd : M.2.2.2.2[k]? = some (pc, .bipush n, nx, tg)) (hv : (Int8.ofInt n).toInt32 = Int32.ofInt n) (kk : tw_AW l G M d mc ms n0 c2 P nx ls (vi n :: st) h) : tw_AW l G M d mc ms n0 c2 P pc ls (st) h := by
  intro p e s m args below meth c H locs ls' X hl hP hS h0 hn
  obtain ⟨dd, e1⟩ := tw_dec X hd rfl
  subst e1
  have K := kk p e s m args below meth c H locs ls' X hl hP hS h0 hn
  exact lv_bipush X.1 X.2.1 dd hv K
theorem ar_sipush {n : Int} (hd : M.2.2.2.2[k]? = some (pc, .sipush n, nx, tg)) (hv : (Int16.ofInt n).toInt32 = Int32.ofInt n) (kk : tw_AW l G M d mc ms n0 c2 P nx ls (vi n :: st) h) : tw_AW l G M d mc ms n0 c2 P pc ls (st) h := by
  intro p e s m args below meth c H locs ls' X hl hP hS h0 hn
  obtain ⟨dd, e1⟩ := tw_dec X hd rfl
  subst e1
  have K := kk p e s m args below meth c H locs ls' X hl hP hS h0 hn
  exact lv_sipush X.1 X.2.1 dd hv K
theorem ar_lconst {n : Fin 2} {z : Int} (hd : M.2.2.2.2[k]? = some (pc, .lconst n, nx, tg)) (hv : Int64.ofNat (n : Nat) = Int64.ofInt z) (kk : tw_AW l G M d mc ms n0 c2 P nx ls (vl z :: st) h) : tw_AW l G M d mc ms n0 c2 P pc ls (st) h := by
  intro p e s m args below meth c H locs ls' X hl hP hS h0 hn
  obtain ⟨dd, e1⟩ := tw_dec X hd rfl
  subst e1
  have K := kk p e s m args below meth c H locs ls' X hl hP hS h0 hn
  exact lv_lconst X.1 X.2.1 dd hv K
theorem ar_ldc {i : Nat} {v : Int32} {z : Int} (hd : M.2.2.2.2[k]? = some (pc, .ldc i, nx, tg)) (hw : Cond.constant M.1.cls i v ∈ tw_tbl) (hv : Int32.ofInt z = v) (kk : tw_AW l G M d mc ms n0 c2 P nx ls (vi z :: st) h) : tw_AW l G M d mc ms n0 c2 P pc ls (st) h := by
  intro p e s m args below meth c H locs ls' X hl hP hS h0 hn
  obtain ⟨dd, e1⟩ := tw_dec X hd rfl
  subst e1
  have K := kk p e s m args below meth c H locs ls' X hl hP hS h0 hn
  subst hv
  exact lv_ldc X.1 X.2.1 X.2.2.2.2.1 (X.2.2.2.2.2.1 _ (List.mem_cons_of_mem _ hw)) dd K
theorem ar_ldcw {i : Nat} {v : Int32} {z : Int} (hd : M.2.2.2.2[k]? = some (pc, .ldc_w i, nx, tg)) (hw : Cond.constant M.1.cls i v ∈ tw_tbl) (hv : Int32.ofInt z = v) (kk : tw_AW l G M d mc ms n0 c2 P nx ls (vi z :: st) h) : tw_AW l G M d mc ms n0 c2 P pc ls (st) h := by
  intro p e s m args below meth c H locs ls' X hl hP hS h0 hn
  obtain ⟨dd, e1⟩ := tw_dec X hd rfl
  subst e1
  have K := kk p e s m args below meth c H locs ls' X hl hP hS h0 hn
  subst hv
  exact lv_ldcw X.1 X.2.1 X.2.2.2.2.1 (X.2.2.2.2.2.1 _ (List.mem_cons_of_mem _ hw)) dd K
theorem ar_ldc2 {i : Nat} {v : Int64} {z : Int} (hd : M.2.2.2.2[k]? = some (pc, .ldc2_w i, nx, tg)) (hw : Cond.constantLong M.1.cls i v ∈ tw_tbl) (hv : Int64.ofInt z = v) (kk : tw_AW l G M d mc ms n0 c2 P nx ls (vl z :: st) h) : tw_AW l G M d mc ms n0 c2 P pc ls (st) h := by
  intro p e s m args below meth c H locs ls' X hl hP hS h0 hn
  obtain ⟨dd, e1⟩ := tw_dec X hd rfl
  subst e1
  have K := kk p e s m args below meth c H locs ls' X hl hP hS h0 hn
  subst hv
  exact lv_ldc2 X.1 X.2.1 X.2.2.2.2.1 (X.2.2.2.2.2.1 _ (List.mem_cons_of_mem _ hw)) dd K
theorem ar_ldcS {i j : Nat} {tx : String} (hd : M.2.2.2.2[k]? = some (pc, .ldc i, nx, tg)) (hq : (M.1.cls, i, tx, j) ∈ sTab) (kk : tw_AW l G M d mc ms n0 c2 P nx ls (vr (some (1000000 + j)) :: st) h) : tw_AW l G M d mc ms n0 c2 P pc ls (st) h := by
  intro p e s m args below meth c H locs ls' X hl hP hS h0 hn
  obtain ⟨dd, e1⟩ := tw_dec X hd rfl
  subst e1
  have K := kk p e s m args below meth c H locs ls' X hl hP hS h0 hn
  have e : tw_v G (vr (some (1000000 + j))) = .ref (G.2.2.2.1 j) := by
    show Value.ref (tw_ad G (1000000 + j)) = _
    rw [tw_ad, if_neg (by omega), Nat.add_sub_cancel_left]
  rw [List.map_cons, e] at K
  exact va_ldcS X.1 X.2.1 X.2.2.2.2.1 (X.2.2.2.2.2.2.1.2.1.2.1 _ hq) dd K
theorem ar_null (hd : M.2.2.2.2[k]? = some (pc, .aconst_null, nx, tg))  (kk : tw_AW l G M d mc ms n0 c2 P nx ls (vr none :: st) h) : tw_AW l G M d mc ms n0 c2 P pc ls (st) h := by
  intro p e s m args below meth c H locs ls' X hl hP hS h0 hn
  obtain ⟨dd, e1⟩ := tw_dec X hd rfl
  subst e1
  have K := kk p e s m args below meth c H locs ls' X hl hP hS h0 hn
  exact lv_null X.1 X.2.1 dd K
theorem tw_lk {nL : Nat} {ls' : Array Slot} {i : Nat} {v : tV} (hl : lv_has ls' nL (tw_L G ls)) (hi : ls.lookup i = some v) : ls'[i]? = some (.val (tw_v G v)) := by
  refine hl.2.2 (i, tw_v G v) ?_
  have hm : (i, v) ∈ ls := by
    clear hl
    induction ls with
    | nil => simp at hi
    | cons q r ih =>
      rw [List.lookup_cons] at hi
      by_cases hq : i == q.1
      · rw [hq] at hi
        simp only [Option.some.injEq] at hi
        have : i = q.1 := by simpa using hq
        subst this; subst hi
        exact List.mem_cons_self
      · simp only [Bool.not_eq_true] at hq
        rw [hq] at hi
        exact List.mem_cons_of_mem _ (ih hi)
  exact List.mem_map.mpr ⟨(i, v), hm, rfl⟩
theorem ar_iload {i : Nat} {z : Int} (hd : M.2.2.2.2[k]? = some (pc, .iload i, nx, tg)) (hi : ls.lookup i = some (vi z)) (kk : tw_AW l G M d mc ms n0 c2 P nx ls (vi z :: st) h) : tw_AW l G M d mc ms n0 c2 P pc ls (st) h := by
  intro p e s m args below meth c H locs ls' X hl hP hS h0 hn
  obtain ⟨dd, e1⟩ := tw_dec X hd rfl
  subst e1
  have K := kk p e s m args below meth c H locs ls' X hl hP hS h0 hn
  exact lv_iload X.1 X.2.1 dd (tw_lk hl hi) K
theorem ar_iloadn {i : Fin 4} {z : Int} (hd : M.2.2.2.2[k]? = some (pc, .iload_n i, nx, tg)) (hi : ls.lookup (i : Nat) = some (vi z)) (kk : tw_AW l G M d mc ms n0 c2 P nx ls (vi z :: st) h) : tw_AW l G M d mc ms n0 c2 P pc ls (st) h := by
  intro p e s m args below meth c H locs ls' X hl hP hS h0 hn
  obtain ⟨dd, e1⟩ := tw_dec X hd rfl
  subst e1
  have K := kk p e s m args below meth c H locs ls' X hl hP hS h0 hn
  exact lv_iload_n X.1 X.2.1 dd rfl (tw_lk hl hi) K
theorem ar_lload {i : Nat} {z : Int} (hd : M.2.2.2.2[k]? = some (pc, .lload i, nx, tg)) (hi : ls.lookup i = some (vl z)) (kk : tw_AW l G M d mc ms n0 c2 P nx ls (vl z :: st) h) : tw_AW l G M d mc ms n0 c2 P pc ls (st) h := by
  intro p e s m args below meth c H locs ls' X hl hP hS h0 hn
  obtain ⟨dd, e1⟩ := tw_dec X hd rfl
  subst e1
  have K := kk p e s m args below meth c H locs ls' X hl hP hS h0 hn
  exact lv_lload X.1 X.2.1 dd (tw_lk hl hi) K
theorem ar_lloadn {i : Fin 4} {z : Int} (hd : M.2.2.2.2[k]? = some (pc, .lload_n i, nx, tg)) (hi : ls.lookup (i : Nat) = some (vl z)) (kk : tw_AW l G M d mc ms n0 c2 P nx ls (vl z :: st) h) : tw_AW l G M d mc ms n0 c2 P pc ls (st) h := by
  intro p e s m args below meth c H locs ls' X hl hP hS h0 hn
  obtain ⟨dd, e1⟩ := tw_dec X hd rfl
  subst e1
  have K := kk p e s m args below meth c H locs ls' X hl hP hS h0 hn
  exact lv_lload_n X.1 X.2.1 dd rfl (tw_lk hl hi) K
theorem ar_aload {i : Nat} {r : Option Nat} (hd : M.2.2.2.2[k]? = some (pc, .aload i, nx, tg)) (hi : ls.lookup i = some (vr r)) (kk : tw_AW l G M d mc ms n0 c2 P nx ls (vr r :: st) h) : tw_AW l G M d mc ms n0 c2 P pc ls (st) h := by
  intro p e s m args below meth c H locs ls' X hl hP hS h0 hn
  obtain ⟨dd, e1⟩ := tw_dec X hd rfl
  subst e1
  have K := kk p e s m args below meth c H locs ls' X hl hP hS h0 hn
  have L := tw_lk hl hi
  cases r with
  | none => exact lv_aloadN X.1 X.2.1 dd L K
  | some a => exact lv_aload X.1 X.2.1 dd L K
theorem ar_aloadn {i : Fin 4} {r : Option Nat} (hd : M.2.2.2.2[k]? = some (pc, .aload_n i, nx, tg)) (hi : ls.lookup (i : Nat) = some (vr r)) (kk : tw_AW l G M d mc ms n0 c2 P nx ls (vr r :: st) h) : tw_AW l G M d mc ms n0 c2 P pc ls (st) h := by
  intro p e s m args below meth c H locs ls' X hl hP hS h0 hn
  obtain ⟨dd, e1⟩ := tw_dec X hd rfl
  subst e1
  have K := kk p e s m args below meth c H locs ls' X hl hP hS h0 hn
  have L := tw_lk hl hi
  cases r with
  | none => exact lv_aload_nN X.1 X.2.1 dd rfl L K
  | some a => exact lv_aload_n X.1 X.2.1 dd rfl L K
/-- a store: what was there goes, and a long whose second half it is -/
def tw_set (i : Nat) (v : tV) (ls : List (Nat × tV)) : List (Nat × tV) := (i, v) :: ls.filter (fun q => !(q.1 == i) && !(q.1 + 1 == i && tw_w q.2 == 2))
def tw_set2 (i : Nat) (v : tV) (ls : List (Nat × tV)) : List (Nat × tV) := (i, v) :: ls.filter (fun q => !(q.1 == i) && (!(q.1 == i + 1) && !(q.1 + 1 == i && tw_w q.2 == 2)))
theorem tw_set_L (i : Nat) (v : tV) (ls : List (Nat × tV)) : (i, tw_v G v) :: (tw_L G ls).filter (fun q => !(q.1 == i) && !(q.1 + 1 == i && q.2.category == 2)) = tw_L G (tw_set i v ls) := by
  simp only [tw_L, tw_set, List.map_cons, List.filter_map]
  congr 2
  apply List.filter_congr
  intro q _
  simp [tw_v_cat]
theorem tw_set2_L (i : Nat) (v : tV) (ls : List (Nat × tV)) : (i, tw_v G v) :: (tw_L G ls).filter (fun q => !(q.1 == i) && (!(q.1 == i + 1) && !(q.1 + 1 == i && q.2.category == 2))) = tw_L G (tw_set2 i v ls) := by
  simp only [tw_L, tw_set2, List.map_cons, List.filter_map]
  congr 2
  apply List.filter_congr
  intro q _
  simp [tw_v_cat]
theorem tw_sub_has {nL : Nat} {ls' : Array Slot} {l2 : List (Nat × tV)} (hl : lv_has ls' nL (tw_L G ls)) (hs : ∀ q ∈ l2, q ∈ ls) : lv_has ls' nL (tw_L G l2) :=
  ⟨hl.1, hl.2.1, fun q hq => by
    obtain ⟨x, hx, rfl⟩ := List.mem_map.mp hq
    exact hl.2.2 _ (List.mem_map.mpr ⟨x, hs x hx, rfl⟩)⟩
theorem ar_istore {i : Nat} {z : Int} {l2 : List (Nat × tV)} (hd : M.2.2.2.2[k]? = some (pc, .istore i, nx, tg)) (hi : i < M.2.2.1) (h2 : tw_set i (vi z) ls = l2) (kk : tw_AW l G M d mc ms n0 c2 P nx l2 st h) : tw_AW l G M d mc ms n0 c2 P pc ls (vi z :: st) h := by
  intro p e s m args below meth c H locs ls' X hl hP hS h0 hn
  obtain ⟨dd, e1⟩ := tw_dec X hd rfl
  subst e1
  subst h2
  exact lv_istore X.1 X.2.1 dd hl hi (tw_set_L _ (vi z) _) (fun ls2 hl2 => kk p e s m args below meth c H locs ls2 X hl2 hP hS h0 hn)
theorem ar_lstore {i : Nat} {z : Int} {l2 : List (Nat × tV)} (hd : M.2.2.2.2[k]? = some (pc, .lstore i, nx, tg)) (hi : i + 1 < M.2.2.1) (h2 : tw_set2 i (vl z) ls = l2) (kk : tw_AW l G M d mc ms n0 c2 P nx l2 st h) : tw_AW l G M d mc ms n0 c2 P pc ls (vl z :: st) h := by
  intro p e s m args below meth c H locs ls' X hl hP hS h0 hn
  obtain ⟨dd, e1⟩ := tw_dec X hd rfl
  subst e1
  subst h2
  exact lv_lstore X.1 X.2.1 dd hl hi (tw_set2_L _ (vl z) _) (fun ls2 hl2 => kk p e s m args below meth c H locs ls2 X hl2 hP hS h0 hn)
theorem ar_astore {i : Nat} {r : Option Nat} {l2 : List (Nat × tV)} (hd : M.2.2.2.2[k]? = some (pc, .astore i, nx, tg)) (hi : i < M.2.2.1) (h2 : tw_set i (vr r) ls = l2) (kk : tw_AW l G M d mc ms n0 c2 P nx l2 st h) : tw_AW l G M d mc ms n0 c2 P pc ls (vr r :: st) h := by
  intro p e s m args below meth c H locs ls' X hl hP hS h0 hn
  obtain ⟨dd, e1⟩ := tw_dec X hd rfl
  subst e1
  subst h2
  cases r with
  | none => exact lv_astoreN X.1 X.2.1 dd hl hi (tw_set_L (G := G) _ (vr none) _) (fun ls2 hl2 => kk p e s m args below meth c H locs ls2 X hl2 hP hS h0 hn)
  | some a => exact lv_astore X.1 X.2.1 dd hl hi (tw_set_L (G := G) _ (vr (some a)) _) (fun ls2 hl2 => kk p e s m args below meth c H locs ls2 X hl2 hP hS h0 hn)
theorem ar_istoren {i : Fin 4} {z : Int} {l2 : List (Nat × tV)} (hd : M.2.2.2.2[k]? = some (pc, .istore_n i, nx, tg)) (hi : (i : Nat) < M.2.2.1) (h2 : tw_set (i : Nat) (vi z) ls = l2) (kk : tw_AW l G M d mc ms n0 c2 P nx l2 st h) : tw_AW l G M d mc ms n0 c2 P pc ls (vi z :: st) h := by
  intro p e s m args below meth c H locs ls' X hl hP hS h0 hn
  obtain ⟨dd, e1⟩ := tw_dec X hd rfl
  subst e1
  subst h2
  exact lv_istore_n X.1 X.2.1 dd rfl hl hi (tw_set_L _ (vi z) _) (fun ls2 hl2 => kk p e s m args below meth c H locs ls2 X hl2 hP hS h0 hn)
theorem ar_lstoren {i : Fin 4} {z : Int} {l2 : List (Nat × tV)} (hd : M.2.2.2.2[k]? = some (pc, .lstore_n i, nx, tg)) (hi : (i : Nat) + 1 < M.2.2.1) (h2 : tw_set2 (i : Nat) (vl z) ls = l2) (kk : tw_AW l G M d mc ms n0 c2 P nx l2 st h) : tw_AW l G M d mc ms n0 c2 P pc ls (vl z :: st) h := by
  intro p e s m args below meth c H locs ls' X hl hP hS h0 hn
  obtain ⟨dd, e1⟩ := tw_dec X hd rfl
  subst e1
  subst h2
  exact lv_lstore_n X.1 X.2.1 dd rfl hl hi (tw_set2_L _ (vl z) _) (fun ls2 hl2 => kk p e s m args below meth c H locs ls2 X hl2 hP hS h0 hn)
theorem ar_astoren {i : Fin 4} {r : Option Nat} {l2 : List (Nat × tV)} (hd : M.2.2.2.2[k]? = some (pc, .astore_n i, nx, tg)) (hi : (i : Nat) < M.2.2.1) (h2 : tw_set (i : Nat) (vr r) ls = l2) (kk : tw_AW l G M d mc ms n0 c2 P nx l2 st h) : tw_AW l G M d mc ms n0 c2 P pc ls (vr r :: st) h := by
  intro p e s m args below meth c H locs ls' X hl hP hS h0 hn
  obtain ⟨dd, e1⟩ := tw_dec X hd rfl
  subst e1
  subst h2
  cases r with
  | none => exact lv_astore_nN X.1 X.2.1 dd rfl hl hi (tw_set_L (G := G) _ (vr none) _) (fun ls2 hl2 => kk p e s m args below meth c H locs ls2 X hl2 hP hS h0 hn)
  | some a => exact lv_astore_n X.1 X.2.1 dd rfl hl hi (tw_set_L (G := G) _ (vr (some a)) _) (fun ls2 hl2 => kk p e s m args below meth c H locs ls2 X hl2 hP hS h0 hn)
theorem ar_iinc {i : Nat} {z n : Int} {l2 : List (Nat × tV)} (hd : M.2.2.2.2[k]? = some (pc, .iinc i n, nx, tg)) (hi : i < M.2.2.1) (hz : ls.lookup i = some (vi z)) (h2 : tw_set i (vi (z + n)) ls = l2) (kk : tw_AW l G M d mc ms n0 c2 P nx l2 st h) : tw_AW l G M d mc ms n0 c2 P pc ls st h := by
  intro p e s m args below meth c H locs ls' X hl hP hS h0 hn
  obtain ⟨dd, e1⟩ := tw_dec X hd rfl
  subst e1
  subst h2
  have hk := tw_lk hl hz
  obtain ⟨ls2, e2, hl2⟩ := lv_store1 (v := .int (Int32.ofInt (z + n))) hl hi rfl
  have hl2 : lv_has ls2 M.2.2.1 (tw_L G (tw_set i (vi (z + n)) ls)) := by rw [← tw_set_L]; exact hl2
  intro T hT Y
  obtain ⟨t, a, b⟩ := kk p e s m args below meth c H locs ls2 X hl2 hP hS h0 hn T hT Y
  refine ⟨t, ?_, b⟩
  have hk' : ls'[i]? = some (.val (.int (Int32.ofInt z))) := hk
  rw [Int32.ofInt_add] at e2
  have hb : c.code = M.2.1 := X.2.1
  have hexec := X.1
  jvm_step Y.here [Y.here.top, ↓top_set Y.here.top, hexec, hb, dd, hk', e2]
  exact a
theorem ar_sub {l2 : List (Nat × tV)} (hs : ∀ q ∈ l2, q ∈ ls) (kk : tw_AW l G M d mc ms n0 c2 P pc l2 st h) : tw_AW l G M d mc ms n0 c2 P pc ls st h := fun p e s m args below meth c H locs ls' X hl hP hS h0 hn => kk p e s m args below meth c H locs ls' X (tw_sub_has hl hs) hP hS h0 hn
theorem ar_iadd {x y : Int} (hd : M.2.2.2.2[k]? = some (pc, .iadd, nx, tg))  (kk : tw_AW l G M d mc ms n0 c2 P nx ls (vi (x + y) :: st) h) : tw_AW l G M d mc ms n0 c2 P pc ls (vi y :: vi x :: st) h := by
  intro p e s m args below meth c H locs ls' X hl hP hS h0 hn
  obtain ⟨dd, e1⟩ := tw_dec X hd rfl
  subst e1
  have K := kk p e s m args below meth c H locs ls' X hl hP hS h0 hn
  refine lv_iadd X.1 X.2.1 dd ?_
  rw [← Int32.ofInt_add]
  exact K
theorem ar_isub {x y : Int} (hd : M.2.2.2.2[k]? = some (pc, .isub, nx, tg))  (kk : tw_AW l G M d mc ms n0 c2 P nx ls (vi (x - y) :: st) h) : tw_AW l G M d mc ms n0 c2 P pc ls (vi y :: vi x :: st) h := by
  intro p e s m args below meth c H locs ls' X hl hP hS h0 hn
  obtain ⟨dd, e1⟩ := tw_dec X hd rfl
  subst e1
  have K := kk p e s m args below meth c H locs ls' X hl hP hS h0 hn
  refine lv_isub X.1 X.2.1 dd ?_
  rw [← Int32.ofInt_sub]
  exact K
theorem ar_imul {x y : Int} (hd : M.2.2.2.2[k]? = some (pc, .imul, nx, tg))  (kk : tw_AW l G M d mc ms n0 c2 P nx ls (vi (x * y) :: st) h) : tw_AW l G M d mc ms n0 c2 P pc ls (vi y :: vi x :: st) h := by
  intro p e s m args below meth c H locs ls' X hl hP hS h0 hn
  obtain ⟨dd, e1⟩ := tw_dec X hd rfl
  subst e1
  have K := kk p e s m args below meth c H locs ls' X hl hP hS h0 hn
  refine lv_imul X.1 X.2.1 dd ?_
  rw [← Int32.ofInt_mul]
  exact K
abbrev tr (z : Int) : Prop := -2147483648 ≤ z ∧ z ≤ 2147483647
theorem tr_min {z : Int} (h : tr z) : Int32.minValue.toInt ≤ z := h.1
theorem tr_max {z : Int} (h : tr z) : z ≤ Int32.maxValue.toInt := h.2
theorem tr_id {z : Int} (h : tr z) : (Int32.ofInt z).toInt = z := Int32.toInt_ofInt_of_le (by have := h.1; omega) (by have := h.2; omega)
theorem tr_eq {x y : Int} (hx : tr x) (hy : tr y) : Int32.ofInt x = Int32.ofInt y ↔ x = y := by
  rw [← Int32.toInt_inj, tr_id hx, tr_id hy]
theorem tr_0 {x : Int} (hx : tr x) : Int32.ofInt x = 0 ↔ x = 0 := tr_eq hx (by decide : tr 0)
theorem tr_lt {x y : Int} (hx : tr x) (hy : tr y) : Int32.ofInt x < Int32.ofInt y ↔ x < y := by
  rw [Int32.lt_iff_toInt_lt, tr_id hx, tr_id hy]
theorem tr_le {x y : Int} (hx : tr x) (hy : tr y) : Int32.ofInt x ≤ Int32.ofInt y ↔ x ≤ y := by
  rw [Int32.le_iff_toInt_le, tr_id hx, tr_id hy]
def bAnd (x y : Int) : Int := (Int32.ofInt x &&& Int32.ofInt y).toInt
def bOr (x y : Int) : Int := (Int32.ofInt x ||| Int32.ofInt y).toInt
def bXor (x y : Int) : Int := (Int32.ofInt x ^^^ Int32.ofInt y).toInt
def bShl (x y : Int) : Int := (Int32.ofInt x <<< (Int32.ofInt y &&& 31)).toInt
def bShr (x y : Int) : Int := (Int32.ofInt x >>> (Int32.ofInt y &&& 31)).toInt
def bUsh (x y : Int) : Int := ((Int32.ofInt x).toUInt32 >>> ((Int32.ofInt y).toUInt32 &&& Int32.toUInt32 31)).toInt32.toInt
theorem ar_iand {x y : Int} (hd : M.2.2.2.2[k]? = some (pc, .iand, nx, tg))  (kk : tw_AW l G M d mc ms n0 c2 P nx ls (vi (bAnd x y) :: st) h) : tw_AW l G M d mc ms n0 c2 P pc ls (vi y :: vi x :: st) h := by
  intro p e s m args below meth c H locs ls' X hl hP hS h0 hn
  obtain ⟨dd, e1⟩ := tw_dec X hd rfl
  subst e1
  have K := kk p e s m args below meth c H locs ls' X hl hP hS h0 hn
  refine lv_iand X.1 X.2.1 dd ?_
  have e : tw_v G (vi (bAnd x y)) = .int _ := congrArg Value.int (Int32.ofInt_toInt _)
  rw [List.map_cons, e] at K
  exact K
theorem ar_ior {x y : Int} (hd : M.2.2.2.2[k]? = some (pc, .ior, nx, tg))  (kk : tw_AW l G M d mc ms n0 c2 P nx ls (vi (bOr x y) :: st) h) : tw_AW l G M d mc ms n0 c2 P pc ls (vi y :: vi x :: st) h := by
  intro p e s m args below meth c H locs ls' X hl hP hS h0 hn
  obtain ⟨dd, e1⟩ := tw_dec X hd rfl
  subst e1
  have K := kk p e s m args below meth c H locs ls' X hl hP hS h0 hn
  refine lv_ior X.1 X.2.1 dd ?_
  have e : tw_v G (vi (bOr x y)) = .int _ := congrArg Value.int (Int32.ofInt_toInt _)
  rw [List.map_cons, e] at K
  exact K
theorem ar_ixor {x y : Int} (hd : M.2.2.2.2[k]? = some (pc, .ixor, nx, tg))  (kk : tw_AW l G M d mc ms n0 c2 P nx ls (vi (bXor x y) :: st) h) : tw_AW l G M d mc ms n0 c2 P pc ls (vi y :: vi x :: st) h := by
  intro p e s m args below meth c H locs ls' X hl hP hS h0 hn
  obtain ⟨dd, e1⟩ := tw_dec X hd rfl
  subst e1
  have K := kk p e s m args below meth c H locs ls' X hl hP hS h0 hn
  refine lv_ixor X.1 X.2.1 dd ?_
  have e : tw_v G (vi (bXor x y)) = .int _ := congrArg Value.int (Int32.ofInt_toInt _)
  rw [List.map_cons, e] at K
  exact K
theorem ar_ishl {x y : Int} (hd : M.2.2.2.2[k]? = some (pc, .ishl, nx, tg))  (kk : tw_AW l G M d mc ms n0 c2 P nx ls (vi (bShl x y) :: st) h) : tw_AW l G M d mc ms n0 c2 P pc ls (vi y :: vi x :: st) h := by
  intro p e s m args below meth c H locs ls' X hl hP hS h0 hn
  obtain ⟨dd, e1⟩ := tw_dec X hd rfl
  subst e1
  have K := kk p e s m args below meth c H locs ls' X hl hP hS h0 hn
  refine lv_ishl X.1 X.2.1 dd ?_
  have e : tw_v G (vi (bShl x y)) = .int _ := congrArg Value.int (Int32.ofInt_toInt _)
  rw [List.map_cons, e] at K
  exact K
theorem ar_ishr {x y : Int} (hd : M.2.2.2.2[k]? = some (pc, .ishr, nx, tg))  (kk : tw_AW l G M d mc ms n0 c2 P nx ls (vi (bShr x y) :: st) h) : tw_AW l G M d mc ms n0 c2 P pc ls (vi y :: vi x :: st) h := by
  intro p e s m args below meth c H locs ls' X hl hP hS h0 hn
  obtain ⟨dd, e1⟩ := tw_dec X hd rfl
  subst e1
  have K := kk p e s m args below meth c H locs ls' X hl hP hS h0 hn
  refine lv_ishr X.1 X.2.1 dd ?_
  have e : tw_v G (vi (bShr x y)) = .int _ := congrArg Value.int (Int32.ofInt_toInt _)
  rw [List.map_cons, e] at K
  exact K
theorem ar_iushr {x y : Int} (hd : M.2.2.2.2[k]? = some (pc, .iushr, nx, tg))  (kk : tw_AW l G M d mc ms n0 c2 P nx ls (vi (bUsh x y) :: st) h) : tw_AW l G M d mc ms n0 c2 P pc ls (vi y :: vi x :: st) h := by
  intro p e s m args below meth c H locs ls' X hl hP hS h0 hn
  obtain ⟨dd, e1⟩ := tw_dec X hd rfl
  subst e1
  have K := kk p e s m args below meth c H locs ls' X hl hP hS h0 hn
  refine lv_iushr X.1 X.2.1 dd rfl ?_
  have e : tw_v G (vi (bUsh x y)) = .int _ := congrArg Value.int (Int32.ofInt_toInt _)
  rw [List.map_cons, e] at K
  exact K
theorem ar_ineg {x : Int} (hd : M.2.2.2.2[k]? = some (pc, .ineg, nx, tg))  (kk : tw_AW l G M d mc ms n0 c2 P nx ls (vi (-x) :: st) h) : tw_AW l G M d mc ms n0 c2 P pc ls (vi x :: st) h := by
  intro p e s m args below meth c H locs ls' X hl hP hS h0 hn
  obtain ⟨dd, e1⟩ := tw_dec X hd rfl
  subst e1
  have K := kk p e s m args below meth c H locs ls' X hl hP hS h0 hn
  refine lv_ineg X.1 X.2.1 dd ?_
  rw [← Int32.ofInt_neg]
  exact K
theorem ar_idiv {x y : Int} (hd : M.2.2.2.2[k]? = some (pc, .idiv, nx, tg)) (hx : tr x) (hy : tr y) (hne : y ≠ 0) (kk : tw_AW l G M d mc ms n0 c2 P nx ls (vi (x.tdiv y) :: st) h) : tw_AW l G M d mc ms n0 c2 P pc ls (vi y :: vi x :: st) h := by
  intro p e s m args below meth c H locs ls' X hl hP hS h0 hn
  obtain ⟨dd, e1⟩ := tw_dec X hd rfl
  subst e1
  have K := kk p e s m args below meth c H locs ls' X hl hP hS h0 hn
  refine lv_idiv X.1 X.2.1 dd (fun q => hne ((tr_0 hy).mp q)) ?_
  rw [← Int32.ofInt_tdiv (tr_min hx) (tr_max hx) (tr_min hy) (tr_max hy)]
  exact K
theorem ar_irem {x y : Int} (hd : M.2.2.2.2[k]? = some (pc, .irem, nx, tg)) (hx : tr x) (hy : tr y) (hne : y ≠ 0) (kk : tw_AW l G M d mc ms n0 c2 P nx ls (vi (x.tmod y) :: st) h) : tw_AW l G M d mc ms n0 c2 P pc ls (vi y :: vi x :: st) h := by
  intro p e s m args below meth c H locs ls' X hl hP hS h0 hn
  obtain ⟨dd, e1⟩ := tw_dec X hd rfl
  subst e1
  have K := kk p e s m args below meth c H locs ls' X hl hP hS h0 hn
  refine lv_irem X.1 X.2.1 dd (fun q => hne ((tr_0 hy).mp q)) ?_
  rw [← Int32.ofInt_tdiv (tr_min hx) (tr_max hx) (tr_min hy) (tr_max hy), ← Int32.ofInt_mul, ← Int32.ofInt_sub, show x - x.tdiv y * y = x.tmod y by rw [Int.tmod_def, Int.mul_comm]]
  exact K
abbrev tr6 (z : Int) : Prop := -9223372036854775808 ≤ z ∧ z ≤ 9223372036854775807
theorem tr6_id {z : Int} (h : tr6 z) : (Int64.ofInt z).toInt = z := Int64.toInt_ofInt_of_le (by have := h.1; omega) (by have := h.2; omega)
theorem tr6_eq {x y : Int} (hx : tr6 x) (hy : tr6 y) : Int64.ofInt x = Int64.ofInt y ↔ x = y := by
  rw [← Int64.toInt_inj, tr6_id hx, tr6_id hy]
theorem ar_lsub {x y : Int} (hd : M.2.2.2.2[k]? = some (pc, .lsub, nx, tg))  (kk : tw_AW l G M d mc ms n0 c2 P nx ls (vl (x - y) :: st) h) : tw_AW l G M d mc ms n0 c2 P pc ls (vl y :: vl x :: st) h := by
  intro p e s m args below meth c H locs ls' X hl hP hS h0 hn
  obtain ⟨dd, e1⟩ := tw_dec X hd rfl
  subst e1
  have K := kk p e s m args below meth c H locs ls' X hl hP hS h0 hn
  refine lv_lsub X.1 X.2.1 dd ?_
  rw [← Int64.ofInt_sub]
  exact K
theorem ar_lmul {x y : Int} (hd : M.2.2.2.2[k]? = some (pc, .lmul, nx, tg))  (kk : tw_AW l G M d mc ms n0 c2 P nx ls (vl (x * y) :: st) h) : tw_AW l G M d mc ms n0 c2 P pc ls (vl y :: vl x :: st) h := by
  intro p e s m args below meth c H locs ls' X hl hP hS h0 hn
  obtain ⟨dd, e1⟩ := tw_dec X hd rfl
  subst e1
  have K := kk p e s m args below meth c H locs ls' X hl hP hS h0 hn
  refine lv_lmul X.1 X.2.1 dd ?_
  rw [← Int64.ofInt_mul]
  exact K
theorem ar_ldiv {x y : Int} (hd : M.2.2.2.2[k]? = some (pc, .ldiv, nx, tg)) (hx : tr6 x) (hy : tr6 y) (hne : y ≠ 0) (kk : tw_AW l G M d mc ms n0 c2 P nx ls (vl (x.tdiv y) :: st) h) : tw_AW l G M d mc ms n0 c2 P pc ls (vl y :: vl x :: st) h := by
  intro p e s m args below meth c H locs ls' X hl hP hS h0 hn
  obtain ⟨dd, e1⟩ := tw_dec X hd rfl
  subst e1
  have K := kk p e s m args below meth c H locs ls' X hl hP hS h0 hn
  refine lv_ldiv X.1 X.2.1 dd (fun q => hne ((tr6_eq hy (by decide : tr6 0)).mp q)) ?_
  rw [← Int64.ofInt_tdiv hx.1 hx.2 hy.1 hy.2]
  exact K
theorem ar_lrem {x y : Int} (hd : M.2.2.2.2[k]? = some (pc, .lrem, nx, tg)) (hx : tr6 x) (hy : tr6 y) (hne : y ≠ 0) (kk : tw_AW l G M d mc ms n0 c2 P nx ls (vl (x.tmod y) :: st) h) : tw_AW l G M d mc ms n0 c2 P pc ls (vl y :: vl x :: st) h := by
  intro p e s m args below meth c H locs ls' X hl hP hS h0 hn
  obtain ⟨dd, e1⟩ := tw_dec X hd rfl
  subst e1
  have K := kk p e s m args below meth c H locs ls' X hl hP hS h0 hn
  refine lv_lrem X.1 X.2.1 dd (fun q => hne ((tr6_eq hy (by decide : tr6 0)).mp q)) ?_
  rw [← Int64.ofInt_tdiv hx.1 hx.2 hy.1 hy.2, ← Int64.ofInt_mul, ← Int64.ofInt_sub, show x - x.tdiv y * y = x.tmod y by rw [Int.tmod_def, Int.mul_comm]]
  exact K
theorem ar_i2l {x : Int} (hd : M.2.2.2.2[k]? = some (pc, .i2l, nx, tg)) (hx : tr x) (kk : tw_AW l G M d mc ms n0 c2 P nx ls (vl x :: st) h) : tw_AW l G M d mc ms n0 c2 P pc ls (vi x :: st) h := by
  intro p e s m args below meth c H locs ls' X hl hP hS h0 hn
  obtain ⟨dd, e1⟩ := tw_dec X hd rfl
  subst e1
  have K := kk p e s m args below meth c H locs ls' X hl hP hS h0 hn
  exact lv_i2l X.1 X.2.1 dd (Int32.toInt64_ofInt (tr_min hx) (tr_max hx)) K
theorem ar_i2b {x : Int} (hd : M.2.2.2.2[k]? = some (pc, .i2b, nx, tg)) (hx : -128 ≤ x ∧ x ≤ 127) (kk : tw_AW l G M d mc ms n0 c2 P nx ls (vi x :: st) h) : tw_AW l G M d mc ms n0 c2 P pc ls (vi x :: st) h := by
  intro p e s m args below meth c H locs ls' X hl hP hS h0 hn
  obtain ⟨dd, e1⟩ := tw_dec X hd rfl
  subst e1
  have K := kk p e s m args below meth c H locs ls' X hl hP hS h0 hn
  exact lv_i2b X.1 X.2.1 dd (tr_b hx) K
theorem ar_i2c {x : Int} (hd : M.2.2.2.2[k]? = some (pc, .i2c, nx, tg)) (hx : 0 ≤ x ∧ x ≤ 65535) (kk : tw_AW l G M d mc ms n0 c2 P nx ls (vi x :: st) h) : tw_AW l G M d mc ms n0 c2 P pc ls (vi x :: st) h := by
  intro p e s m args below meth c H locs ls' X hl hP hS h0 hn
  obtain ⟨dd, e1⟩ := tw_dec X hd rfl
  subst e1
  have K := kk p e s m args below meth c H locs ls' X hl hP hS h0 hn
  exact lv_i2c X.1 X.2.1 dd (tr_c hx) K
theorem ar_dup {v : tV} (hd : M.2.2.2.2[k]? = some (pc, .dup, nx, tg)) (hv : tw_w v = 1) (kk : tw_AW l G M d mc ms n0 c2 P nx ls (v :: v :: st) h) : tw_AW l G M d mc ms n0 c2 P pc ls (v :: st) h := by
  intro p e s m args below meth c H locs ls' X hl hP hS h0 hn
  obtain ⟨dd, e1⟩ := tw_dec X hd rfl
  subst e1
  have K := kk p e s m args below meth c H locs ls' X hl hP hS h0 hn
  exact lv_dup X.1 X.2.1 dd ((tw_v_cat G v).trans hv) K
theorem ar_pop {v : tV} (hd : M.2.2.2.2[k]? = some (pc, .pop, nx, tg)) (hv : tw_w v = 1) (kk : tw_AW l G M d mc ms n0 c2 P nx ls (st) h) : tw_AW l G M d mc ms n0 c2 P pc ls (v :: st) h := by
  intro p e s m args below meth c H locs ls' X hl hP hS h0 hn
  obtain ⟨dd, e1⟩ := tw_dec X hd rfl
  subst e1
  have K := kk p e s m args below meth c H locs ls' X hl hP hS h0 hn
  exact lv_pop X.1 X.2.1 dd ((tw_v_cat G v).trans hv) K
theorem ar_dup2 {u v : tV} (hd : M.2.2.2.2[k]? = some (pc, .dup2, nx, tg)) (hu : tw_w u = 1) (hv : tw_w v = 1) (kk : tw_AW l G M d mc ms n0 c2 P nx ls (u :: v :: u :: v :: st) h) : tw_AW l G M d mc ms n0 c2 P pc ls (u :: v :: st) h := by
  intro p e s m args below meth c H locs ls' X hl hP hS h0 hn
  obtain ⟨dd, e1⟩ := tw_dec X hd rfl
  subst e1
  have K := kk p e s m args below meth c H locs ls' X hl hP hS h0 hn
  exact lv_dup2_11 X.1 X.2.1 dd ((tw_v_cat G u).trans hu) ((tw_v_cat G v).trans hv) K
theorem ar_icmp_eq {off : Int} {x y : Int} (hd : M.2.2.2.2[k]? = some (pc, .if_icmp .eq off, nx, tg)) (hx : tr x) (hy : tr y) (kt : x = y → tw_AW l G M d mc ms n0 c2 P tg ls st h) (kf : ¬ (x = y) → tw_AW l G M d mc ms n0 c2 P nx ls st h) : tw_AW l G M d mc ms n0 c2 P pc ls (vi y :: vi x :: st) h := by
  intro p e s m args below meth c H locs ls' X hl hP hS h0 hn
  obtain ⟨dd, e1⟩ := tw_dec X hd rfl
  subst e1
  refine lv_icmp_eq X.1 X.2.1 dd (tw_tgt X hd rfl) (fun q => ?_) (fun q => ?_)
  · refine kt ?_ p e s m args below meth c H locs ls' X hl hP hS h0 hn
    first | exact (tr_eq hx hy).mp q | exact fun z => q ((tr_eq hx hy).mpr z) | exact (tr_lt hx hy).mp q | exact (tr_le hx hy).mp q | exact (tr_lt hy hx).mp q | exact (tr_le hy hx).mp q
  · refine kf ?_ p e s m args below meth c H locs ls' X hl hP hS h0 hn
    intro z
    first | exact q ((tr_eq hx hy).mpr z) | exact q (fun w => z ((tr_eq hx hy).mp w)) | exact z ((tr_eq hx hy).mp q) | exact q ((tr_lt hx hy).mpr z) | exact q ((tr_le hx hy).mpr z) | exact q ((tr_lt hy hx).mpr z) | exact q ((tr_le hy hx).mpr z)
theorem ar_if_eq {off : Int} {x : Int} (hd : M.2.2.2.2[k]? = some (pc, .ifCond .eq off, nx, tg)) (hx : tr x) (kt : x = 0 → tw_AW l G M d mc ms n0 c2 P tg ls st h) (kf : ¬ (x = 0) → tw_AW l G M d mc ms n0 c2 P nx ls st h) : tw_AW l G M d mc ms n0 c2 P pc ls (vi x :: st) h := by
  intro p e s m args below meth c H locs ls' X hl hP hS h0 hn
  obtain ⟨dd, e1⟩ := tw_dec X hd rfl
  subst e1
  have hy : tr 0 := by decide
  refine lv_if_eq X.1 X.2.1 dd (tw_tgt X hd rfl) (fun q => ?_) (fun q => ?_)
  · refine kt ?_ p e s m args below meth c H locs ls' X hl hP hS h0 hn
    first | exact (tr_eq hx hy).mp q | exact fun z => q ((tr_eq hx hy).mpr z) | exact (tr_lt hx hy).mp q | exact (tr_le hx hy).mp q | exact (tr_lt hy hx).mp q | exact (tr_le hy hx).mp q
  · refine kf ?_ p e s m args below meth c H locs ls' X hl hP hS h0 hn
    intro z
    first | exact q ((tr_eq hx hy).mpr z) | exact q (fun w => z ((tr_eq hx hy).mp w)) | exact z ((tr_eq hx hy).mp q) | exact q ((tr_lt hx hy).mpr z) | exact q ((tr_le hx hy).mpr z) | exact q ((tr_lt hy hx).mpr z) | exact q ((tr_le hy hx).mpr z)
theorem ar_icmp_ne {off : Int} {x y : Int} (hd : M.2.2.2.2[k]? = some (pc, .if_icmp .ne off, nx, tg)) (hx : tr x) (hy : tr y) (kt : x ≠ y → tw_AW l G M d mc ms n0 c2 P tg ls st h) (kf : ¬ (x ≠ y) → tw_AW l G M d mc ms n0 c2 P nx ls st h) : tw_AW l G M d mc ms n0 c2 P pc ls (vi y :: vi x :: st) h := by
  intro p e s m args below meth c H locs ls' X hl hP hS h0 hn
  obtain ⟨dd, e1⟩ := tw_dec X hd rfl
  subst e1
  refine lv_icmp_ne X.1 X.2.1 dd (tw_tgt X hd rfl) (fun q => ?_) (fun q => ?_)
  · refine kt ?_ p e s m args below meth c H locs ls' X hl hP hS h0 hn
    first | exact (tr_eq hx hy).mp q | exact fun z => q ((tr_eq hx hy).mpr z) | exact (tr_lt hx hy).mp q | exact (tr_le hx hy).mp q | exact (tr_lt hy hx).mp q | exact (tr_le hy hx).mp q
  · refine kf ?_ p e s m args below meth c H locs ls' X hl hP hS h0 hn
    intro z
    first | exact q ((tr_eq hx hy).mpr z) | exact q (fun w => z ((tr_eq hx hy).mp w)) | exact z ((tr_eq hx hy).mp q) | exact q ((tr_lt hx hy).mpr z) | exact q ((tr_le hx hy).mpr z) | exact q ((tr_lt hy hx).mpr z) | exact q ((tr_le hy hx).mpr z)
theorem ar_if_ne {off : Int} {x : Int} (hd : M.2.2.2.2[k]? = some (pc, .ifCond .ne off, nx, tg)) (hx : tr x) (kt : x ≠ 0 → tw_AW l G M d mc ms n0 c2 P tg ls st h) (kf : ¬ (x ≠ 0) → tw_AW l G M d mc ms n0 c2 P nx ls st h) : tw_AW l G M d mc ms n0 c2 P pc ls (vi x :: st) h := by
  intro p e s m args below meth c H locs ls' X hl hP hS h0 hn
  obtain ⟨dd, e1⟩ := tw_dec X hd rfl
  subst e1
  have hy : tr 0 := by decide
  refine lv_if_ne X.1 X.2.1 dd (tw_tgt X hd rfl) (fun q => ?_) (fun q => ?_)
  · refine kt ?_ p e s m args below meth c H locs ls' X hl hP hS h0 hn
    first | exact (tr_eq hx hy).mp q | exact fun z => q ((tr_eq hx hy).mpr z) | exact (tr_lt hx hy).mp q | exact (tr_le hx hy).mp q | exact (tr_lt hy hx).mp q | exact (tr_le hy hx).mp q
  · refine kf ?_ p e s m args below meth c H locs ls' X hl hP hS h0 hn
    intro z
    first | exact q ((tr_eq hx hy).mpr z) | exact q (fun w => z ((tr_eq hx hy).mp w)) | exact z ((tr_eq hx hy).mp q) | exact q ((tr_lt hx hy).mpr z) | exact q ((tr_le hx hy).mpr z) | exact q ((tr_lt hy hx).mpr z) | exact q ((tr_le hy hx).mpr z)
theorem ar_icmp_lt {off : Int} {x y : Int} (hd : M.2.2.2.2[k]? = some (pc, .if_icmp .lt off, nx, tg)) (hx : tr x) (hy : tr y) (kt : x < y → tw_AW l G M d mc ms n0 c2 P tg ls st h) (kf : ¬ (x < y) → tw_AW l G M d mc ms n0 c2 P nx ls st h) : tw_AW l G M d mc ms n0 c2 P pc ls (vi y :: vi x :: st) h := by
  intro p e s m args below meth c H locs ls' X hl hP hS h0 hn
  obtain ⟨dd, e1⟩ := tw_dec X hd rfl
  subst e1
  refine lv_icmp_lt X.1 X.2.1 dd (tw_tgt X hd rfl) (fun q => ?_) (fun q => ?_)
  · refine kt ?_ p e s m args below meth c H locs ls' X hl hP hS h0 hn
    first | exact (tr_eq hx hy).mp q | exact fun z => q ((tr_eq hx hy).mpr z) | exact (tr_lt hx hy).mp q | exact (tr_le hx hy).mp q | exact (tr_lt hy hx).mp q | exact (tr_le hy hx).mp q
  · refine kf ?_ p e s m args below meth c H locs ls' X hl hP hS h0 hn
    intro z
    first | exact q ((tr_eq hx hy).mpr z) | exact q (fun w => z ((tr_eq hx hy).mp w)) | exact z ((tr_eq hx hy).mp q) | exact q ((tr_lt hx hy).mpr z) | exact q ((tr_le hx hy).mpr z) | exact q ((tr_lt hy hx).mpr z) | exact q ((tr_le hy hx).mpr z)
theorem ar_if_lt {off : Int} {x : Int} (hd : M.2.2.2.2[k]? = some (pc, .ifCond .lt off, nx, tg)) (hx : tr x) (kt : x < 0 → tw_AW l G M d mc ms n0 c2 P tg ls st h) (kf : ¬ (x < 0) → tw_AW l G M d mc ms n0 c2 P nx ls st h) : tw_AW l G M d mc ms n0 c2 P pc ls (vi x :: st) h := by
  intro p e s m args below meth c H locs ls' X hl hP hS h0 hn
  obtain ⟨dd, e1⟩ := tw_dec X hd rfl
  subst e1
  have hy : tr 0 := by decide
  refine lv_if_lt X.1 X.2.1 dd (tw_tgt X hd rfl) (fun q => ?_) (fun q => ?_)
  · refine kt ?_ p e s m args below meth c H locs ls' X hl hP hS h0 hn
    first | exact (tr_eq hx hy).mp q | exact fun z => q ((tr_eq hx hy).mpr z) | exact (tr_lt hx hy).mp q | exact (tr_le hx hy).mp q | exact (tr_lt hy hx).mp q | exact (tr_le hy hx).mp q
  · refine kf ?_ p e s m args below meth c H locs ls' X hl hP hS h0 hn
    intro z
    first | exact q ((tr_eq hx hy).mpr z) | exact q (fun w => z ((tr_eq hx hy).mp w)) | exact z ((tr_eq hx hy).mp q) | exact q ((tr_lt hx hy).mpr z) | exact q ((tr_le hx hy).mpr z) | exact q ((tr_lt hy hx).mpr z) | exact q ((tr_le hy hx).mpr z)
theorem ar_icmp_ge {off : Int} {x y : Int} (hd : M.2.2.2.2[k]? = some (pc, .if_icmp .ge off, nx, tg)) (hx : tr x) (hy : tr y) (kt : y ≤ x → tw_AW l G M d mc ms n0 c2 P tg ls st h) (kf : ¬ (y ≤ x) → tw_AW l G M d mc ms n0 c2 P nx ls st h) : tw_AW l G M d mc ms n0 c2 P pc ls (vi y :: vi x :: st) h := by
  intro p e s m args below meth c H locs ls' X hl hP hS h0 hn
  obtain ⟨dd, e1⟩ := tw_dec X hd rfl
  subst e1
  refine lv_icmp_ge X.1 X.2.1 dd (tw_tgt X hd rfl) (fun q => ?_) (fun q => ?_)
  · refine kt ?_ p e s m args below meth c H locs ls' X hl hP hS h0 hn
    first | exact (tr_eq hx hy).mp q | exact fun z => q ((tr_eq hx hy).mpr z) | exact (tr_lt hx hy).mp q | exact (tr_le hx hy).mp q | exact (tr_lt hy hx).mp q | exact (tr_le hy hx).mp q
  · refine kf ?_ p e s m args below meth c H locs ls' X hl hP hS h0 hn
    intro z
    first | exact q ((tr_eq hx hy).mpr z) | exact q (fun w => z ((tr_eq hx hy).mp w)) | exact z ((tr_eq hx hy).mp q) | exact q ((tr_lt hx hy).mpr z) | exact q ((tr_le hx hy).mpr z) | exact q ((tr_lt hy hx).mpr z) | exact q ((tr_le hy hx).mpr z)
theorem ar_if_ge {off : Int} {x : Int} (hd : M.2.2.2.2[k]? = some (pc, .ifCond .ge off, nx, tg)) (hx : tr x) (kt : 0 ≤ x → tw_AW l G M d mc ms n0 c2 P tg ls st h) (kf : ¬ (0 ≤ x) → tw_AW l G M d mc ms n0 c2 P nx ls st h) : tw_AW l G M d mc ms n0 c2 P pc ls (vi x :: st) h := by
  intro p e s m args below meth c H locs ls' X hl hP hS h0 hn
  obtain ⟨dd, e1⟩ := tw_dec X hd rfl
  subst e1
  have hy : tr 0 := by decide
  refine lv_if_ge X.1 X.2.1 dd (tw_tgt X hd rfl) (fun q => ?_) (fun q => ?_)
  · refine kt ?_ p e s m args below meth c H locs ls' X hl hP hS h0 hn
    first | exact (tr_eq hx hy).mp q | exact fun z => q ((tr_eq hx hy).mpr z) | exact (tr_lt hx hy).mp q | exact (tr_le hx hy).mp q | exact (tr_lt hy hx).mp q | exact (tr_le hy hx).mp q
  · refine kf ?_ p e s m args below meth c H locs ls' X hl hP hS h0 hn
    intro z
    first | exact q ((tr_eq hx hy).mpr z) | exact q (fun w => z ((tr_eq hx hy).mp w)) | exact z ((tr_eq hx hy).mp q) | exact q ((tr_lt hx hy).mpr z) | exact q ((tr_le hx hy).mpr z) | exact q ((tr_lt hy hx).mpr z) | exact q ((tr_le hy hx).mpr z)
theorem ar_icmp_gt {off : Int} {x y : Int} (hd : M.2.2.2.2[k]? = some (pc, .if_icmp .gt off, nx, tg)) (hx : tr x) (hy : tr y) (kt : y < x → tw_AW l G M d mc ms n0 c2 P tg ls st h) (kf : ¬ (y < x) → tw_AW l G M d mc ms n0 c2 P nx ls st h) : tw_AW l G M d mc ms n0 c2 P pc ls (vi y :: vi x :: st) h := by
  intro p e s m args below meth c H locs ls' X hl hP hS h0 hn
  obtain ⟨dd, e1⟩ := tw_dec X hd rfl
  subst e1
  refine lv_icmp_gt X.1 X.2.1 dd (tw_tgt X hd rfl) (fun q => ?_) (fun q => ?_)
  · refine kt ?_ p e s m args below meth c H locs ls' X hl hP hS h0 hn
    first | exact (tr_eq hx hy).mp q | exact fun z => q ((tr_eq hx hy).mpr z) | exact (tr_lt hx hy).mp q | exact (tr_le hx hy).mp q | exact (tr_lt hy hx).mp q | exact (tr_le hy hx).mp q
  · refine kf ?_ p e s m args below meth c H locs ls' X hl hP hS h0 hn
    intro z
    first | exact q ((tr_eq hx hy).mpr z) | exact q (fun w => z ((tr_eq hx hy).mp w)) | exact z ((tr_eq hx hy).mp q) | exact q ((tr_lt hx hy).mpr z) | exact q ((tr_le hx hy).mpr z) | exact q ((tr_lt hy hx).mpr z) | exact q ((tr_le hy hx).mpr z)
theorem ar_if_gt {off : Int} {x : Int} (hd : M.2.2.2.2[k]? = some (pc, .ifCond .gt off, nx, tg)) (hx : tr x) (kt : 0 < x → tw_AW l G M d mc ms n0 c2 P tg ls st h) (kf : ¬ (0 < x) → tw_AW l G M d mc ms n0 c2 P nx ls st h) : tw_AW l G M d mc ms n0 c2 P pc ls (vi x :: st) h := by
  intro p e s m args below meth c H locs ls' X hl hP hS h0 hn
  obtain ⟨dd, e1⟩ := tw_dec X hd rfl
  subst e1
  have hy : tr 0 := by decide
  refine lv_if_gt X.1 X.2.1 dd (tw_tgt X hd rfl) (fun q => ?_) (fun q => ?_)
  · refine kt ?_ p e s m args below meth c H locs ls' X hl hP hS h0 hn
    first | exact (tr_eq hx hy).mp q | exact fun z => q ((tr_eq hx hy).mpr z) | exact (tr_lt hx hy).mp q | exact (tr_le hx hy).mp q | exact (tr_lt hy hx).mp q | exact (tr_le hy hx).mp q
  · refine kf ?_ p e s m args below meth c H locs ls' X hl hP hS h0 hn
    intro z
    first | exact q ((tr_eq hx hy).mpr z) | exact q (fun w => z ((tr_eq hx hy).mp w)) | exact z ((tr_eq hx hy).mp q) | exact q ((tr_lt hx hy).mpr z) | exact q ((tr_le hx hy).mpr z) | exact q ((tr_lt hy hx).mpr z) | exact q ((tr_le hy hx).mpr z)
theorem ar_icmp_le {off : Int} {x y : Int} (hd : M.2.2.2.2[k]? = some (pc, .if_icmp .le off, nx, tg)) (hx : tr x) (hy : tr y) (kt : x ≤ y → tw_AW l G M d mc ms n0 c2 P tg ls st h) (kf : ¬ (x ≤ y) → tw_AW l G M d mc ms n0 c2 P nx ls st h) : tw_AW l G M d mc ms n0 c2 P pc ls (vi y :: vi x :: st) h := by
  intro p e s m args below meth c H locs ls' X hl hP hS h0 hn
  obtain ⟨dd, e1⟩ := tw_dec X hd rfl
  subst e1
  refine lv_icmp_le X.1 X.2.1 dd (tw_tgt X hd rfl) (fun q => ?_) (fun q => ?_)
  · refine kt ?_ p e s m args below meth c H locs ls' X hl hP hS h0 hn
    first | exact (tr_eq hx hy).mp q | exact fun z => q ((tr_eq hx hy).mpr z) | exact (tr_lt hx hy).mp q | exact (tr_le hx hy).mp q | exact (tr_lt hy hx).mp q | exact (tr_le hy hx).mp q
  · refine kf ?_ p e s m args below meth c H locs ls' X hl hP hS h0 hn
    intro z
    first | exact q ((tr_eq hx hy).mpr z) | exact q (fun w => z ((tr_eq hx hy).mp w)) | exact z ((tr_eq hx hy).mp q) | exact q ((tr_lt hx hy).mpr z) | exact q ((tr_le hx hy).mpr z) | exact q ((tr_lt hy hx).mpr z) | exact q ((tr_le hy hx).mpr z)
theorem ar_if_le {off : Int} {x : Int} (hd : M.2.2.2.2[k]? = some (pc, .ifCond .le off, nx, tg)) (hx : tr x) (kt : x ≤ 0 → tw_AW l G M d mc ms n0 c2 P tg ls st h) (kf : ¬ (x ≤ 0) → tw_AW l G M d mc ms n0 c2 P nx ls st h) : tw_AW l G M d mc ms n0 c2 P pc ls (vi x :: st) h := by
  intro p e s m args below meth c H locs ls' X hl hP hS h0 hn
  obtain ⟨dd, e1⟩ := tw_dec X hd rfl
  subst e1
  have hy : tr 0 := by decide
  refine lv_if_le X.1 X.2.1 dd (tw_tgt X hd rfl) (fun q => ?_) (fun q => ?_)
  · refine kt ?_ p e s m args below meth c H locs ls' X hl hP hS h0 hn
    first | exact (tr_eq hx hy).mp q | exact fun z => q ((tr_eq hx hy).mpr z) | exact (tr_lt hx hy).mp q | exact (tr_le hx hy).mp q | exact (tr_lt hy hx).mp q | exact (tr_le hy hx).mp q
  · refine kf ?_ p e s m args below meth c H locs ls' X hl hP hS h0 hn
    intro z
    first | exact q ((tr_eq hx hy).mpr z) | exact q (fun w => z ((tr_eq hx hy).mp w)) | exact z ((tr_eq hx hy).mp q) | exact q ((tr_lt hx hy).mpr z) | exact q ((tr_le hx hy).mpr z) | exact q ((tr_lt hy hx).mpr z) | exact q ((tr_le hy hx).mpr z)
theorem ar_goto {off : Int} (hd : M.2.2.2.2[k]? = some (pc, .goto off, nx, tg)) (kk : tw_AW l G M d mc ms n0 c2 P tg ls st h) : tw_AW l G M d mc ms n0 c2 P pc ls st h := by
  intro p e s m args below meth c H locs ls' X hl hP hS h0 hn
  obtain ⟨dd, e1⟩ := tw_dec X hd rfl
  subst e1
  exact lv_goto X.1 X.2.1 dd (tw_tgt X hd rfl) (kk p e s m args below meth c H locs ls' X hl hP hS h0 hn)
theorem ar_ifnull {off : Int} {r : Option Nat} (hd : M.2.2.2.2[k]? = some (pc, .ifnull off, nx, tg)) (kt : r = none → tw_AW l G M d mc ms n0 c2 P tg ls st h) (kf : ∀ a, r = some a → tw_AW l G M d mc ms n0 c2 P nx ls st h) : tw_AW l G M d mc ms n0 c2 P pc ls (vr r :: st) h := by
  intro p e s m args below meth c H locs ls' X hl hP hS h0 hn
  obtain ⟨dd, e1⟩ := tw_dec X hd rfl
  subst e1
  cases r with
  | none => exact lv_ifnullN X.1 X.2.1 dd (tw_tgt X hd rfl) (kt rfl p e s m args below meth c H locs ls' X hl hP hS h0 hn)
  | some a => exact lv_ifnull X.1 X.2.1 dd (kf a rfl p e s m args below meth c H locs ls' X hl hP hS h0 hn)
theorem ar_ifnonnull {off : Int} {r : Option Nat} (hd : M.2.2.2.2[k]? = some (pc, .ifnonnull off, nx, tg)) (kt : ∀ a, r = some a → tw_AW l G M d mc ms n0 c2 P tg ls st h) (kf : r = none → tw_AW l G M d mc ms n0 c2 P nx ls st h) : tw_AW l G M d mc ms n0 c2 P pc ls (vr r :: st) h := by
  intro p e s m args below meth c H locs ls' X hl hP hS h0 hn
  obtain ⟨dd, e1⟩ := tw_dec X hd rfl
  subst e1
  cases r with
  | none => exact lv_ifnonnullN X.1 X.2.1 dd (kf rfl p e s m args below meth c H locs ls' X hl hP hS h0 hn)
  | some a => exact lv_ifnonnull X.1 X.2.1 dd (tw_tgt X hd rfl) (kt a rfl p e s m args below meth c H locs ls' X hl hP hS h0 hn)
end AR
end
section
theorem n_0 : ∀ a, a < 4 → ∀ b, b < 4 → a ≠ b → (T_0 a).2.1 ≠ (T_0 b).2.1 := by decide +kernel
theorem ty_0 : ∀ k, k < 4 → parseFieldDescriptor (T_0 k).2.2.1 = some (t_0 k) := by decide +kernel
theorem i_0 : ∀ w ∈ u_ws "TwinTools$Bell" T_0 4, w ∈ tw_tbl := by
  have h : (u_ws "TwinTools$Bell" T_0 4) = ([578, 580, 582, 584] : List Nat).filterMap (fun i => lw_tbl[i]?) := by decide +kernel
  have g : (u_ws "TwinTools$Bell" T_0 4).all goodWord = true := by decide +kernel
  intro w hw
  have g1 := List.all_eq_true.mp g w hw
  rw [h] at hw
  obtain ⟨i, -, hi⟩ := List.mem_filterMap.mp hw
  exact tw_in i hi g1
theorem in_0 : Cond.instantiable "TwinTools$Bell" 4 ∈ tw_tbl := tw_in 542 (by decide +kernel) rfl
theorem iz_0 : Cond.initialized "TwinTools$Bell" ∈ tw_tbl := tw_in 84 (by decide +kernel) rfl
theorem n_1 : ∀ a, a < 4 → ∀ b, b < 4 → a ≠ b → (T_1 a).2.1 ≠ (T_1 b).2.1 := by decide +kernel
theorem ty_1 : ∀ k, k < 4 → parseFieldDescriptor (T_1 k).2.2.1 = some (t_1 k) := by decide +kernel
theorem i_1 : ∀ w ∈ u_ws "TwinTools$Guessing" T_1 4, w ∈ tw_tbl := by
  have h : (u_ws "TwinTools$Guessing" T_1 4) = ([604, 605, 606, 607] : List Nat).filterMap (fun i => lw_tbl[i]?) := by decide +kernel
  have g : (u_ws "TwinTools$Guessing" T_1 4).all goodWord = true := by decide +kernel
  intro w hw
  have g1 := List.all_eq_true.mp g w hw
  rw [h] at hw
  obtain ⟨i, -, hi⟩ := List.mem_filterMap.mp hw
  exact tw_in i hi g1
theorem in_1 : Cond.instantiable "TwinTools$Guessing" 4 ∈ tw_tbl := tw_in 599 (by decide +kernel) rfl
theorem iz_1 : Cond.initialized "TwinTools$Guessing" ∈ tw_tbl := tw_in 86 (by decide +kernel) rfl
theorem n_2 : ∀ a, a < 4 → ∀ b, b < 4 → a ≠ b → (T_2 a).2.1 ≠ (T_2 b).2.1 := by decide +kernel
theorem ty_2 : ∀ k, k < 4 → parseFieldDescriptor (T_2 k).2.2.1 = some (t_2 k) := by decide +kernel
theorem i_2 : ∀ w ∈ u_ws "TwinTools$Hand" T_2 4, w ∈ tw_tbl := by
  have h : (u_ws "TwinTools$Hand" T_2 4) = ([645, 646, 647, 648] : List Nat).filterMap (fun i => lw_tbl[i]?) := by decide +kernel
  have g : (u_ws "TwinTools$Hand" T_2 4).all goodWord = true := by decide +kernel
  intro w hw
  have g1 := List.all_eq_true.mp g w hw
  rw [h] at hw
  obtain ⟨i, -, hi⟩ := List.mem_filterMap.mp hw
  exact tw_in i hi g1
theorem in_2 : Cond.instantiable "TwinTools$Hand" 4 ∈ tw_tbl := tw_in 643 (by decide +kernel) rfl
theorem iz_2 : Cond.initialized "TwinTools$Hand" ∈ tw_tbl := tw_in 83 (by decide +kernel) rfl
theorem n_3 : ∀ a, a < 4 → ∀ b, b < 4 → a ≠ b → (T_3 a).2.1 ≠ (T_3 b).2.1 := by decide +kernel
theorem ty_3 : ∀ k, k < 4 → parseFieldDescriptor (T_3 k).2.2.1 = some (t_3 k) := by decide +kernel
theorem i_3 : ∀ w ∈ u_ws "TwinTools$Home" T_3 4, w ∈ tw_tbl := by
  have h : (u_ws "TwinTools$Home" T_3 4) = ([593, 594, 595, 596] : List Nat).filterMap (fun i => lw_tbl[i]?) := by decide +kernel
  have g : (u_ws "TwinTools$Home" T_3 4).all goodWord = true := by decide +kernel
  intro w hw
  have g1 := List.all_eq_true.mp g w hw
  rw [h] at hw
  obtain ⟨i, -, hi⟩ := List.mem_filterMap.mp hw
  exact tw_in i hi g1
theorem in_3 : Cond.instantiable "TwinTools$Home" 4 ∈ tw_tbl := tw_in 588 (by decide +kernel) rfl
theorem iz_3 : Cond.initialized "TwinTools$Home" ∈ tw_tbl := tw_in 85 (by decide +kernel) rfl
theorem n_4 : ∀ a, a < 4 → ∀ b, b < 4 → a ≠ b → (T_4 a).2.1 ≠ (T_4 b).2.1 := by decide +kernel
theorem ty_4 : ∀ k, k < 4 → parseFieldDescriptor (T_4 k).2.2.1 = some (t_4 k) := by decide +kernel
theorem i_4 : ∀ w ∈ u_ws "TwinTools$Late" T_4 4, w ∈ tw_tbl := by
  have h : (u_ws "TwinTools$Late" T_4 4) = ([626, 627, 628, 629] : List Nat).filterMap (fun i => lw_tbl[i]?) := by decide +kernel
  have g : (u_ws "TwinTools$Late" T_4 4).all goodWord = true := by decide +kernel
  intro w hw
  have g1 := List.all_eq_true.mp g w hw
  rw [h] at hw
  obtain ⟨i, -, hi⟩ := List.mem_filterMap.mp hw
  exact tw_in i hi g1
theorem in_4 : Cond.instantiable "TwinTools$Late" 4 ∈ tw_tbl := tw_in 621 (by decide +kernel) rfl
theorem iz_4 : Cond.initialized "TwinTools$Late" ∈ tw_tbl := tw_in 88 (by decide +kernel) rfl
theorem n_5 : ∀ a, a < 4 → ∀ b, b < 4 → a ≠ b → (T_5 a).2.1 ≠ (T_5 b).2.1 := by decide +kernel
theorem ty_5 : ∀ k, k < 4 → parseFieldDescriptor (T_5 k).2.2.1 = some (t_5 k) := by decide +kernel
theorem i_5 : ∀ w ∈ u_ws "TwinTools$Lifting" T_5 4, w ∈ tw_tbl := by
  have h : (u_ws "TwinTools$Lifting" T_5 4) = ([615, 616, 617, 618] : List Nat).filterMap (fun i => lw_tbl[i]?) := by decide +kernel
  have g : (u_ws "TwinTools$Lifting" T_5 4).all goodWord = true := by decide +kernel
  intro w hw
  have g1 := List.all_eq_true.mp g w hw
  rw [h] at hw
  obtain ⟨i, -, hi⟩ := List.mem_filterMap.mp hw
  exact tw_in i hi g1
theorem in_5 : Cond.instantiable "TwinTools$Lifting" 4 ∈ tw_tbl := tw_in 610 (by decide +kernel) rfl
theorem iz_5 : Cond.initialized "TwinTools$Lifting" ∈ tw_tbl := tw_in 87 (by decide +kernel) rfl
theorem n_6 : ∀ a, a < 19 → ∀ b, b < 19 → a ≠ b → (T_6 a).2.1 ≠ (T_6 b).2.1 := by decide +kernel
theorem ty_6 : ∀ k, k < 19 → parseFieldDescriptor (T_6 k).2.2.1 = some (t_6 k) := by decide +kernel
theorem i_6 : ∀ w ∈ u_ws "TwinTools$Plan" T_6 19, w ∈ tw_tbl := by
  have h : (u_ws "TwinTools$Plan" T_6 19) = ([239, 241, 243, 245, 247, 249, 251, 253, 255, 257, 259, 261, 263, 265, 267, 269, 271, 273, 275] : List Nat).filterMap (fun i => lw_tbl[i]?) := by decide +kernel
  have g : (u_ws "TwinTools$Plan" T_6 19).all goodWord = true := by decide +kernel
  intro w hw
  have g1 := List.all_eq_true.mp g w hw
  rw [h] at hw
  obtain ⟨i, -, hi⟩ := List.mem_filterMap.mp hw
  exact tw_in i hi g1
theorem in_6 : Cond.instantiable "TwinTools$Plan" 19 ∈ tw_tbl := tw_in 201 (by decide +kernel) rfl
theorem iz_6 : Cond.initialized "TwinTools$Plan" ∈ tw_tbl := tw_in 73 (by decide +kernel) rfl
theorem n_7 : ∀ a, a < 4 → ∀ b, b < 4 → a ≠ b → (T_7 a).2.1 ≠ (T_7 b).2.1 := by decide +kernel
theorem ty_7 : ∀ k, k < 4 → parseFieldDescriptor (T_7 k).2.2.1 = some (t_7 k) := by decide +kernel
theorem i_7 : ∀ w ∈ u_ws "TwinTools$Told" T_7 4, w ∈ tw_tbl := by
  have h : (u_ws "TwinTools$Told" T_7 4) = ([637, 638, 639, 640] : List Nat).filterMap (fun i => lw_tbl[i]?) := by decide +kernel
  have g : (u_ws "TwinTools$Told" T_7 4).all goodWord = true := by decide +kernel
  intro w hw
  have g1 := List.all_eq_true.mp g w hw
  rw [h] at hw
  obtain ⟨i, -, hi⟩ := List.mem_filterMap.mp hw
  exact tw_in i hi g1
theorem in_7 : Cond.instantiable "TwinTools$Told" 4 ∈ tw_tbl := tw_in 632 (by decide +kernel) rfl
theorem iz_7 : Cond.initialized "TwinTools$Told" ∈ tw_tbl := tw_in 89 (by decide +kernel) rfl
theorem n_8 : ∀ a, a < 2 → ∀ b, b < 2 → a ≠ b → (T_8 a).2.1 ≠ (T_8 b).2.1 := by decide +kernel
theorem ty_8 : ∀ k, k < 2 → parseFieldDescriptor (T_8 k).2.2.1 = some (t_8 k) := by decide +kernel
theorem i_8 : ∀ w ∈ u_ws "TwinTools$Trace" T_8 2, w ∈ tw_tbl := by
  have h : (u_ws "TwinTools$Trace" T_8 2) = ([288, 290] : List Nat).filterMap (fun i => lw_tbl[i]?) := by decide +kernel
  have g : (u_ws "TwinTools$Trace" T_8 2).all goodWord = true := by decide +kernel
  intro w hw
  have g1 := List.all_eq_true.mp g w hw
  rw [h] at hw
  obtain ⟨i, -, hi⟩ := List.mem_filterMap.mp hw
  exact tw_in i hi g1
theorem in_8 : Cond.instantiable "TwinTools$Trace" 2 ∈ tw_tbl := tw_in 279 (by decide +kernel) rfl
theorem iz_8 : Cond.initialized "TwinTools$Trace" ∈ tw_tbl := tw_in 74 (by decide +kernel) rfl
theorem n_9 : ∀ a, a < 12 → ∀ b, b < 12 → a ≠ b → (T_9 a).2.1 ≠ (T_9 b).2.1 := by decide +kernel
theorem ty_9 : ∀ k, k < 12 → parseFieldDescriptor (T_9 k).2.2.1 = some (t_9 k) := by decide +kernel
theorem i_9 : ∀ w ∈ u_ws "TwinTools$Valley" T_9 12, w ∈ tw_tbl := by
  have h : (u_ws "TwinTools$Valley" T_9 12) = ([312, 314, 316, 318, 320, 322, 324, 326, 328, 330, 332, 334] : List Nat).filterMap (fun i => lw_tbl[i]?) := by decide +kernel
  have g : (u_ws "TwinTools$Valley" T_9 12).all goodWord = true := by decide +kernel
  intro w hw
  have g1 := List.all_eq_true.mp g w hw
  rw [h] at hw
  obtain ⟨i, -, hi⟩ := List.mem_filterMap.mp hw
  exact tw_in i hi g1
theorem in_9 : Cond.instantiable "TwinTools$Valley" 12 ∈ tw_tbl := tw_in 294 (by decide +kernel) rfl
theorem iz_9 : Cond.initialized "TwinTools$Valley" ∈ tw_tbl := tw_in 75 (by decide +kernel) rfl
theorem n_10 : ∀ a, a < 20 → ∀ b, b < 20 → a ≠ b → (T_10 a).2.1 ≠ (T_10 b).2.1 := by decide +kernel
theorem ty_10 : ∀ k, k < 20 → parseFieldDescriptor (T_10 k).2.2.1 = some (t_10 k) := by decide +kernel
theorem i_10 : ∀ w ∈ u_ws "TwinTools$World" T_10 20, w ∈ tw_tbl := by
  have h : (u_ws "TwinTools$World" T_10 20) = ([157, 159, 161, 163, 165, 167, 169, 171, 173, 175, 177, 179, 181, 183, 185, 187, 189, 191, 193, 195] : List Nat).filterMap (fun i => lw_tbl[i]?) := by decide +kernel
  have g : (u_ws "TwinTools$World" T_10 20).all goodWord = true := by decide +kernel
  intro w hw
  have g1 := List.all_eq_true.mp g w hw
  rw [h] at hw
  obtain ⟨i, -, hi⟩ := List.mem_filterMap.mp hw
  exact tw_in i hi g1
theorem in_10 : Cond.instantiable "TwinTools$World" 20 ∈ tw_tbl := tw_in 102 (by decide +kernel) rfl
theorem iz_10 : Cond.initialized "TwinTools$World" ∈ tw_tbl := tw_in 72 (by decide +kernel) rfl
theorem n_11 : ∀ a, a < 7 → ∀ b, b < 7 → a ≠ b → (T_11 a).2.1 ≠ (T_11 b).2.1 := by decide +kernel
theorem ty_11 : ∀ k, k < 7 → parseFieldDescriptor (T_11 k).2.2.1 = some (t_11 k) := by decide +kernel
theorem i_11 : ∀ w ∈ u_ws "TwinTools" T_11 7, w ∈ tw_tbl := by
  have h : (u_ws "TwinTools" T_11 7) = ([344, 346, 348, 350, 352, 354, 356] : List Nat).filterMap (fun i => lw_tbl[i]?) := by decide +kernel
  have g : (u_ws "TwinTools" T_11 7).all goodWord = true := by decide +kernel
  intro w hw
  have g1 := List.all_eq_true.mp g w hw
  rw [h] at hw
  obtain ⟨i, -, hi⟩ := List.mem_filterMap.mp hw
  exact tw_in i hi g1
theorem in_11 : Cond.instantiable "TwinTools" 7 ∈ tw_tbl := tw_in 94 (by decide +kernel) rfl
theorem iz_11 : Cond.initialized "TwinTools" ∈ tw_tbl := tw_in 71 (by decide +kernel) rfl
theorem n_12 : ∀ a, a < 23 → ∀ b, b < 23 → a ≠ b → (T_12 a).2.1 ≠ (T_12 b).2.1 := by decide +kernel
theorem ty_12 : ∀ k, k < 23 → parseFieldDescriptor (T_12 k).2.2.1 = some (t_12 k) := by decide +kernel
theorem i_12 : ∀ w ∈ u_ws "TwinToolsModel" T_12 23, w ∈ tw_tbl := by
  have h : (u_ws "TwinToolsModel" T_12 23) = ([1187, 1189, 1191, 1193, 1195, 1197, 1199, 1201, 1203, 1205, 1207, 1209, 1211, 1213, 1215, 1217, 1219, 1221, 1223, 1225, 1227, 1229, 1231] : List Nat).filterMap (fun i => lw_tbl[i]?) := by decide +kernel
  have g : (u_ws "TwinToolsModel" T_12 23).all goodWord = true := by decide +kernel
  intro w hw
  have g1 := List.all_eq_true.mp g w hw
  rw [h] at hw
  obtain ⟨i, -, hi⟩ := List.mem_filterMap.mp hw
  exact tw_in i hi g1
theorem in_12 : Cond.instantiable "TwinToolsModel" 23 ∈ tw_tbl := tw_in 1160 (by decide +kernel) rfl
theorem iz_12 : Cond.initialized "TwinToolsModel" ∈ tw_tbl := tw_in 76 (by decide +kernel) rfl
/-- what the tables say of a class -/
theorem tw_cls {ci : Nat} {C : String} {T : u_T} {N : Nat} (h : tCl[ci]? = some (C, T, N)) : (∀ w ∈ u_ws C T N, w ∈ tw_tbl) ∧ (∃ ty : Nat → FieldType, ∀ k, k < N → parseFieldDescriptor (T k).2.2.1 = some (ty k)) ∧ (∀ a, a < N → ∀ b, b < N → a ≠ b → (T a).2.1 ≠ (T b).2.1) ∧ Cond.instantiable C N ∈ tw_tbl ∧ Cond.initialized C ∈ tw_tbl := by
  have hl : ci < 13 := (List.getElem?_eq_some_iff.mp h).1
  match ci, hl with
  | 0, _ => cases h; exact ⟨i_0, ⟨t_0, ty_0⟩, n_0, in_0, iz_0⟩
  | 1, _ => cases h; exact ⟨i_1, ⟨t_1, ty_1⟩, n_1, in_1, iz_1⟩
  | 2, _ => cases h; exact ⟨i_2, ⟨t_2, ty_2⟩, n_2, in_2, iz_2⟩
  | 3, _ => cases h; exact ⟨i_3, ⟨t_3, ty_3⟩, n_3, in_3, iz_3⟩
  | 4, _ => cases h; exact ⟨i_4, ⟨t_4, ty_4⟩, n_4, in_4, iz_4⟩
  | 5, _ => cases h; exact ⟨i_5, ⟨t_5, ty_5⟩, n_5, in_5, iz_5⟩
  | 6, _ => cases h; exact ⟨i_6, ⟨t_6, ty_6⟩, n_6, in_6, iz_6⟩
  | 7, _ => cases h; exact ⟨i_7, ⟨t_7, ty_7⟩, n_7, in_7, iz_7⟩
  | 8, _ => cases h; exact ⟨i_8, ⟨t_8, ty_8⟩, n_8, in_8, iz_8⟩
  | 9, _ => cases h; exact ⟨i_9, ⟨t_9, ty_9⟩, n_9, in_9, iz_9⟩
  | 10, _ => cases h; exact ⟨i_10, ⟨t_10, ty_10⟩, n_10, in_10, iz_10⟩
  | 11, _ => cases h; exact ⟨i_11, ⟨t_11, ty_11⟩, n_11, in_11, iz_11⟩
  | 12, _ => cases h; exact ⟨i_12, ⟨t_12, ty_12⟩, n_12, in_12, iz_12⟩
abbrev tK (h : tH) (a : Nat) (q : Nat × Nat) : Prop := h.1 a = q ∧ a < h.2.2.2
def up (f : Int → Int) (i x : Int) : Int → Int := fun j => if j = i then x else f j
def uI (I : Nat → Int → Int) (a : Nat) (i x : Int) : Nat → Int → Int := fun b => if b = a then up (I a) i x else I b
def upQ (f : Int → Option Nat) (i : Int) (x : Option Nat) : Int → Option Nat := fun j => if j = i then x else f j
def uQ (I : Nat → Int → Option Nat) (a : Nat) (i : Int) (x : Option Nat) : Nat → Int → Option Nat := fun b => if b = a then upQ (I a) i x else I b
abbrev hI (h : tH) (a : Nat) (i x : Int) : tH := (h.1, uI h.2.1 a i x, h.2.2.1, h.2.2.2)
abbrev hQ (h : tH) (a : Nat) (i : Int) (x : Option Nat) : tH := (h.1, h.2.1, uQ h.2.2.1 a i x, h.2.2.2)
def tw_FL (own : String) (idx ci k : Nat) : Prop := ∃ (ref C : String) (T : u_T) (N : Nat), tCl[ci]? = some (C, T, N) ∧ k < N ∧ Cond.fieldLink own idx ref (T k).2.1 (T k).2.2.1 ∈ tw_tbl ∧ (ref = (T k).1 ∨ Cond.sameField ref (T k).1 (T k).2.1 (T k).2.2.1 ∈ tw_tbl)
theorem tw_tcl_len {ci : Nat} {q : vw_C} (h : tCl[ci]? = some q) : ci < 13 := (List.getElem?_eq_some_iff.mp h).1
theorem tw_c_obj {G : tG} {h : tH} {a ci N : Nat} (hk : h.1 a = (ci, N)) (hc : ci < 13) : tw_c G h a = .inr (ci, (List.range N).map (tw_fv G h a)) := by
  unfold tw_c
  rw [hk]
  exact if_pos hc
theorem tw_c_int {G : tG} {h : tH} {a ci N : Nat} (hk : h.1 a = (ci, N)) (h1 : 13 ≤ ci) (h2 : ci < 16) : tw_c G h a = .inl (G.2.1 ci, N, .inl (fun j => Int32.ofInt (h.2.1 a (j : Int)))) := by
  unfold tw_c
  rw [hk, if_neg (show ¬ ci < 13 by omega), if_pos (show ci < 16 from h2)]
theorem tw_c_ref {G : tG} {h : tH} {a ci N : Nat} (hk : h.1 a = (ci, N)) (h1 : 16 ≤ ci) : tw_c G h a = .inl (G.2.1 ci, N, .inr (.inr (.inr (.inr (fun j => (h.2.2.1 a (j : Int)).map (tw_ad G)))))) := by
  unfold tw_c
  rw [hk, if_neg (show ¬ ci < 13 by omega), if_neg (show ¬ ci < 16 by omega)]
theorem tw_c_uI {G : tG} {h : tH} {a b : Nat} {i x : Int} (hb : b ≠ a) : tw_c G (hI h a i x) b = tw_c G h b := by
  have e : uI h.2.1 a i x b = h.2.1 b := if_neg hb
  unfold tw_c tw_fv
  simp only [e]
theorem tw_c_uQ {G : tG} {h : tH} {a b : Nat} {i : Int} {x : Option Nat} (hb : b ≠ a) : tw_c G (hQ h a i x) b = tw_c G h b := by
  have e : uQ h.2.2.1 a i x b = h.2.2.1 b := if_neg hb
  unfold tw_c tw_fv
  simp only [e]
theorem tw_ix {i : Int} {n : Nat} (h1 : 0 ≤ i) (h2 : i < n) (hn : n < 2147483648) : (Int32.ofInt i).toNatClampNeg = i.toNat ∧ vp_in (Int32.ofInt i) n ∧ ((i.toNat : Nat) : Int) = i := by
  have ht : tr i := ⟨by omega, by omega⟩
  have e : (Int32.ofInt i).toNatClampNeg = i.toNat := by
    show (Int32.ofInt i).toInt.toNat = _
    rw [tr_id ht]
  refine ⟨e, ?_, by omega⟩
  rintro (q | q)
  · have := (tr_lt ht (by decide : tr 0)).mp q
    omega
  · rw [e] at q
    omega
section AR2
variable {l : Launch} {G : tG} {M : tM} {d mc ms n0 c2 : Nat} {P : Option tV → tH → Prop} {ls : List (Nat × tV)} {st : List tV} {h : tH} {k pc nx tg : Nat}
theorem tw_same {s : State} {args : Array Value} {ws : List Cond} {ref o n ds : String} (hts : ∀ w ∈ ws, w.before args s = true) (hw : ref = o ∨ Cond.sameField ref o n ds ∈ ws) : ∀ x, s.fieldFound? o n ds = some x → s.fieldFound? ref n ds = some x := by
  intro x hx
  rcases hw with rfl | hw
  · exact hx
  · exact u_same (hts _ hw) x hx
theorem ar_getI {i ci N a kf : Nat} (hd : M.2.2.2.2[k]? = some (pc, .getfield i, nx, tg)) (hk : tK h a (ci, N)) (hF : tw_FL M.1.cls i ci kf) (hN : kf < N) (hr : tRef ci kf = false) (kk : tw_AW l G M d mc ms n0 c2 P nx ls (vi (h.2.1 a (kf : Int)) :: st) h) : tw_AW l G M d mc ms n0 c2 P pc ls (vr (some a) :: st) h := by
  intro p e s m args below meth c H locs ls' X hl hP hS h0 hn
  obtain ⟨dd, e1⟩ := tw_dec X hd rfl
  subst e1
  have K := kk p e s m args below meth c H locs ls' X hl hP hS h0 hn
  obtain ⟨ref, C, T, N', q1, q2, q3, q4⟩ := hF
  have hw : ∀ w ∈ tw_tbl, w.before args s = true := fun w h => X.2.2.2.2.2.1 w (List.mem_cons_of_mem _ h)
  have he := tw_ws_get (G := G) hk.2
  rw [tw_c_obj hk.1 (tw_tcl_len q1)] at he
  refine va_get (v := Value.int (Int32.ofInt (h.2.1 a (kf : Int)))) X.1 X.2.1 hw (tw_cls q1).1 X.2.2.2.2.1 X.2.2.2.2.2.2.1.1 hP a he q1 kf q2 (hw _ q3) (tw_same hw q4) ?_ dd K
  simp [hN, tw_fv, hk.1, hr]
theorem ar_getR {i ci N a kf : Nat} (hd : M.2.2.2.2[k]? = some (pc, .getfield i, nx, tg)) (hk : tK h a (ci, N)) (hF : tw_FL M.1.cls i ci kf) (hN : kf < N) (hr : tRef ci kf = true) (kk : tw_AW l G M d mc ms n0 c2 P nx ls (vr (h.2.2.1 a (kf : Int)) :: st) h) : tw_AW l G M d mc ms n0 c2 P pc ls (vr (some a) :: st) h := by
  intro p e s m args below meth c H locs ls' X hl hP hS h0 hn
  obtain ⟨dd, e1⟩ := tw_dec X hd rfl
  subst e1
  have K := kk p e s m args below meth c H locs ls' X hl hP hS h0 hn
  obtain ⟨ref, C, T, N', q1, q2, q3, q4⟩ := hF
  have hw : ∀ w ∈ tw_tbl, w.before args s = true := fun w h => X.2.2.2.2.2.1 w (List.mem_cons_of_mem _ h)
  have he := tw_ws_get (G := G) hk.2
  rw [tw_c_obj hk.1 (tw_tcl_len q1)] at he
  refine va_get (v := va_rf ((h.2.2.1 a (kf : Int)).map (tw_ad G))) X.1 X.2.1 hw (tw_cls q1).1 X.2.2.2.2.1 X.2.2.2.2.2.2.1.1 hP a he q1 kf q2 (hw _ q3) (tw_same hw q4) ?_ dd K
  simp [hN, tw_fv, hk.1, hr]
theorem ar_putI {i ci N a kf : Nat} {x : Int} (hd : M.2.2.2.2[k]? = some (pc, .putfield i, nx, tg)) (hk : tK h a (ci, N)) (hF : tw_FL M.1.cls i ci kf) (hN : kf < N) (hr : tRef ci kf = false) (hf : ∀ C T N, tCl[ci]? = some (C, T, N) → (T kf).2.2.2 = false ∧ parseFieldDescriptor (T kf).2.2.1 = some .int) (kk : tw_AW l G M d mc ms n0 c2 P nx ls st (hI h a kf x)) : tw_AW l G M d mc ms n0 c2 P pc ls (vi x :: vr (some a) :: st) h := by
  intro p e s m args below meth c H locs ls' X hl hP hS h0 hn
  obtain ⟨dd, e1⟩ := tw_dec X hd rfl
  subst e1
  obtain ⟨ref, C, T, N', q1, q2, q3, q4⟩ := hF
  have hw : ∀ w ∈ tw_tbl, w.before args s = true := fun w h => X.2.2.2.2.2.1 w (List.mem_cons_of_mem _ h)
  have he := tw_ws_get (G := G) hk.2
  rw [tw_c_obj hk.1 (tw_tcl_len q1)] at he
  obtain ⟨z1, ⟨ty, z2⟩, z3, z4, z5⟩ := tw_cls q1
  obtain ⟨hfin, hty⟩ := hf _ _ _ q1
  refine va_put (v := Value.int (Int32.ofInt x)) X.1 X.2.1 hw z1 ty z2 z3 X.2.2.2.2.1 X.2.2.2.2.2.2.1.1 hP (tw_ws_D hn) hS a he q1 kf q2 (hw _ q3) (tw_same hw q4) hfin hty rfl rfl (by simp [hN]) dd (fun H1 locs1 hP1 _ hS1 => ?_)
  have e2 : (tw_ws G h).set a (tw_ad G a, .inr (ci, ((List.range N).map (tw_fv G h a)).set kf (Value.int (Int32.ofInt x)))) = tw_ws G (hI h a kf x) := by
    refine tw_ws_set rfl hk.2 ?_ (fun b hb => tw_c_uI hb)
    rw [tw_c_obj (h := hI h a kf x) hk.1 (tw_tcl_len q1)]
    congr 2
    apply List.ext_getElem?
    intro j
    by_cases hj : j = kf
    · subst hj
      rw [List.getElem?_set_self (by simp [hN])]
      simp [hN, tw_fv, hk.1, hr, uI, up, uQ, upQ]
    · rw [List.getElem?_set_ne (fun q => hj q.symm)]
      have hj' : ¬ (j : Int) = (kf : Int) := by omega
      by_cases hjN : j < N
      · simp [hjN, tw_fv, uI, up, uQ, upQ, hj']
      · simp [hjN]
  rw [e2] at hP1
  exact kk p e s m args below meth c H1 locs1 ls' X hl hP1 hS1 h0 hn
theorem ar_putZ {i ci N a kf : Nat} {x : Int} (hd : M.2.2.2.2[k]? = some (pc, .putfield i, nx, tg)) (hk : tK h a (ci, N)) (hF : tw_FL M.1.cls i ci kf) (hN : kf < N) (hr : tRef ci kf = false) (hx : 0 ≤ x ∧ x ≤ 1) (hf : ∀ C T N, tCl[ci]? = some (C, T, N) → (T kf).2.2.2 = false ∧ parseFieldDescriptor (T kf).2.2.1 = some .boolean) (kk : tw_AW l G M d mc ms n0 c2 P nx ls st (hI h a kf x)) : tw_AW l G M d mc ms n0 c2 P pc ls (vi x :: vr (some a) :: st) h := by
  intro p e s m args below meth c H locs ls' X hl hP hS h0 hn
  obtain ⟨dd, e1⟩ := tw_dec X hd rfl
  subst e1
  obtain ⟨ref, C, T, N', q1, q2, q3, q4⟩ := hF
  have hw : ∀ w ∈ tw_tbl, w.before args s = true := fun w h => X.2.2.2.2.2.1 w (List.mem_cons_of_mem _ h)
  have he := tw_ws_get (G := G) hk.2
  rw [tw_c_obj hk.1 (tw_tcl_len q1)] at he
  obtain ⟨z1, ⟨ty, z2⟩, z3, z4, z5⟩ := tw_cls q1
  obtain ⟨hfin, hty⟩ := hf _ _ _ q1
  have hz : x = 0 ∨ x = 1 := by omega
  refine va_put (v := Value.int (Int32.ofInt x)) X.1 X.2.1 hw z1 ty z2 z3 X.2.2.2.2.1 X.2.2.2.2.2.2.1.1 hP (tw_ws_D hn) hS a he q1 kf q2 (hw _ q3) (tw_same hw q4) hfin hty (by rcases hz with rfl | rfl <;> rfl) (by rcases hz with rfl | rfl <;> rfl) (by simp [hN]) dd (fun H1 locs1 hP1 _ hS1 => ?_)
  have e2 : (tw_ws G h).set a (tw_ad G a, .inr (ci, ((List.range N).map (tw_fv G h a)).set kf (Value.int (Int32.ofInt x)))) = tw_ws G (hI h a kf x) := by
    refine tw_ws_set rfl hk.2 ?_ (fun b hb => tw_c_uI hb)
    rw [tw_c_obj (h := hI h a kf x) hk.1 (tw_tcl_len q1)]
    congr 2
    apply List.ext_getElem?
    intro j
    by_cases hj : j = kf
    · subst hj
      rw [List.getElem?_set_self (by simp [hN])]
      simp [hN, tw_fv, hk.1, hr, uI, up, uQ, upQ]
    · rw [List.getElem?_set_ne (fun q => hj q.symm)]
      have hj' : ¬ (j : Int) = (kf : Int) := by omega
      by_cases hjN : j < N
      · simp [hjN, tw_fv, uI, up, uQ, upQ, hj']
      · simp [hjN]
  rw [e2] at hP1
  exact kk p e s m args below meth c H1 locs1 ls' X hl hP1 hS1 h0 hn
theorem ar_putR {i ci N a kf : Nat} {x : Option Nat} (hd : M.2.2.2.2[k]? = some (pc, .putfield i, nx, tg)) (hk : tK h a (ci, N)) (hF : tw_FL M.1.cls i ci kf) (hN : kf < N) (hr : tRef ci kf = true) (hf : ∀ C T N, tCl[ci]? = some (C, T, N) → (T kf).2.2.2 = false ∧ ∃ ty, parseFieldDescriptor (T kf).2.2.1 = some ty ∧ ty.isReference = true) (kk : tw_AW l G M d mc ms n0 c2 P nx ls st (hQ h a kf x)) : tw_AW l G M d mc ms n0 c2 P pc ls (vr x :: vr (some a) :: st) h := by
  intro p e s m args below meth c H locs ls' X hl hP hS h0 hn
  obtain ⟨dd, e1⟩ := tw_dec X hd rfl
  subst e1
  obtain ⟨ref, C, T, N', q1, q2, q3, q4⟩ := hF
  have hw : ∀ w ∈ tw_tbl, w.before args s = true := fun w h => X.2.2.2.2.2.1 w (List.mem_cons_of_mem _ h)
  have he := tw_ws_get (G := G) hk.2
  rw [tw_c_obj hk.1 (tw_tcl_len q1)] at he
  obtain ⟨z1, ⟨ty, z2⟩, z3, z4, z5⟩ := tw_cls q1
  obtain ⟨hfin, ty1, hty, hrf⟩ := hf _ _ _ q1
  refine va_put (v := va_rf (x.map (tw_ad G))) X.1 X.2.1 hw z1 ty z2 z3 X.2.2.2.2.1 X.2.2.2.2.2.2.1.1 hP (tw_ws_D hn) hS a he q1 kf q2 (hw _ q3) (tw_same hw q4) hfin hty (by cases ty1 <;> first | (cases hrf; done) | (cases x <;> rfl)) (by cases ty1 <;> first | (cases hrf; done) | (cases x <;> rfl)) (by simp [hN]) dd (fun H1 locs1 hP1 _ hS1 => ?_)
  have e2 : (tw_ws G h).set a (tw_ad G a, .inr (ci, ((List.range N).map (tw_fv G h a)).set kf (va_rf (x.map (tw_ad G))))) = tw_ws G (hQ h a kf x) := by
    refine tw_ws_set rfl hk.2 ?_ (fun b hb => tw_c_uQ hb)
    rw [tw_c_obj (h := hQ h a kf x) hk.1 (tw_tcl_len q1)]
    congr 2
    apply List.ext_getElem?
    intro j
    by_cases hj : j = kf
    · subst hj
      rw [List.getElem?_set_self (by simp [hN])]
      simp [hN, tw_fv, hk.1, hr, uI, up, uQ, upQ]
    · rw [List.getElem?_set_ne (fun q => hj q.symm)]
      have hj' : ¬ (j : Int) = (kf : Int) := by omega
      by_cases hjN : j < N
      · simp [hjN, tw_fv, uI, up, uQ, upQ, hj']
      · simp [hjN]
  rw [e2] at hP1
  exact kk p e s m args below meth c H1 locs1 ls' X hl hP1 hS1 h0 hn
theorem ar_putFI {i ci N a kf : Nat} {x : Int} (hd : M.2.2.2.2[k]? = some (pc, .putfield i, nx, tg)) (hk : tK h a (ci, N)) (hF : tw_FL M.1.cls i ci kf) (hN : kf < N) (hr : tRef ci kf = false) (hi : M.1.name = "<init>") (hf : ∀ C T N, tCl[ci]? = some (C, T, N) → (T kf).2.2.2 = true ∧ (T kf).1 = M.1.cls ∧ parseFieldDescriptor (T kf).2.2.1 = some .int) (kk : tw_AW l G M d mc ms n0 c2 P nx ls st (hI h a kf x)) : tw_AW l G M d mc ms n0 c2 P pc ls (vi x :: vr (some a) :: st) h := by
  intro p e s m args below meth c H locs ls' X hl hP hS h0 hn
  obtain ⟨dd, e1⟩ := tw_dec X hd rfl
  subst e1
  obtain ⟨ref, C, T, N', q1, q2, q3, q4⟩ := hF
  have hw : ∀ w ∈ tw_tbl, w.before args s = true := fun w h => X.2.2.2.2.2.1 w (List.mem_cons_of_mem _ h)
  have he := tw_ws_get (G := G) hk.2
  rw [tw_c_obj hk.1 (tw_tcl_len q1)] at he
  obtain ⟨z1, ⟨ty, z2⟩, z3, z4, z5⟩ := tw_cls q1
  obtain ⟨hfin0, hown, hty⟩ := hf _ _ _ q1
  refine va_putF (v := Value.int (Int32.ofInt x)) X.1 X.2.1 hw z1 ty z2 z3 X.2.2.2.2.1 X.2.2.2.2.2.2.1.1 hP (tw_ws_D hn) hS a he q1 kf q2 (hw _ q3) (tw_same hw q4) hfin0 (X.2.2.2.2.2.2.2.2.2.2.1.trans hi) hown hty rfl rfl (by simp [hN]) dd (fun H1 locs1 hP1 _ hS1 => ?_)
  have e2 : (tw_ws G h).set a (tw_ad G a, .inr (ci, ((List.range N).map (tw_fv G h a)).set kf (Value.int (Int32.ofInt x)))) = tw_ws G (hI h a kf x) := by
    refine tw_ws_set rfl hk.2 ?_ (fun b hb => tw_c_uI hb)
    rw [tw_c_obj (h := hI h a kf x) hk.1 (tw_tcl_len q1)]
    congr 2
    apply List.ext_getElem?
    intro j
    by_cases hj : j = kf
    · subst hj
      rw [List.getElem?_set_self (by simp [hN])]
      simp [hN, tw_fv, hk.1, hr, uI, up, uQ, upQ]
    · rw [List.getElem?_set_ne (fun q => hj q.symm)]
      have hj' : ¬ (j : Int) = (kf : Int) := by omega
      by_cases hjN : j < N
      · simp [hjN, tw_fv, uI, up, uQ, upQ, hj']
      · simp [hjN]
  rw [e2] at hP1
  exact kk p e s m args below meth c H1 locs1 ls' X hl hP1 hS1 h0 hn
theorem ar_putFR {i ci N a kf : Nat} {x : Option Nat} (hd : M.2.2.2.2[k]? = some (pc, .putfield i, nx, tg)) (hk : tK h a (ci, N)) (hF : tw_FL M.1.cls i ci kf) (hN : kf < N) (hr : tRef ci kf = true) (hi : M.1.name = "<init>") (hf : ∀ C T N, tCl[ci]? = some (C, T, N) → (T kf).2.2.2 = true ∧ (T kf).1 = M.1.cls ∧ ∃ ty, parseFieldDescriptor (T kf).2.2.1 = some ty ∧ ty.isReference = true) (kk : tw_AW l G M d mc ms n0 c2 P nx ls st (hQ h a kf x)) : tw_AW l G M d mc ms n0 c2 P pc ls (vr x :: vr (some a) :: st) h := by
  intro p e s m args below meth c H locs ls' X hl hP hS h0 hn
  obtain ⟨dd, e1⟩ := tw_dec X hd rfl
  subst e1
  obtain ⟨ref, C, T, N', q1, q2, q3, q4⟩ := hF
  have hw : ∀ w ∈ tw_tbl, w.before args s = true := fun w h => X.2.2.2.2.2.1 w (List.mem_cons_of_mem _ h)
  have he := tw_ws_get (G := G) hk.2
  rw [tw_c_obj hk.1 (tw_tcl_len q1)] at he
  obtain ⟨z1, ⟨ty, z2⟩, z3, z4, z5⟩ := tw_cls q1
  obtain ⟨hfin0, hown, ty1, hty, hrf⟩ := hf _ _ _ q1
  refine va_putF (v := va_rf (x.map (tw_ad G))) X.1 X.2.1 hw z1 ty z2 z3 X.2.2.2.2.1 X.2.2.2.2.2.2.1.1 hP (tw_ws_D hn) hS a he q1 kf q2 (hw _ q3) (tw_same hw q4) hfin0 (X.2.2.2.2.2.2.2.2.2.2.1.trans hi) hown hty (by cases ty1 <;> first | (cases hrf; done) | (cases x <;> rfl)) (by cases ty1 <;> first | (cases hrf; done) | (cases x <;> rfl)) (by simp [hN]) dd (fun H1 locs1 hP1 _ hS1 => ?_)
  have e2 : (tw_ws G h).set a (tw_ad G a, .inr (ci, ((List.range N).map (tw_fv G h a)).set kf (va_rf (x.map (tw_ad G))))) = tw_ws G (hQ h a kf x) := by
    refine tw_ws_set rfl hk.2 ?_ (fun b hb => tw_c_uQ hb)
    rw [tw_c_obj (h := hQ h a kf x) hk.1 (tw_tcl_len q1)]
    congr 2
    apply List.ext_getElem?
    intro j
    by_cases hj : j = kf
    · subst hj
      rw [List.getElem?_set_self (by simp [hN])]
      simp [hN, tw_fv, hk.1, hr, uI, up, uQ, upQ]
    · rw [List.getElem?_set_ne (fun q => hj q.symm)]
      have hj' : ¬ (j : Int) = (kf : Int) := by omega
      by_cases hjN : j < N
      · simp [hjN, tw_fv, uI, up, uQ, upQ, hj']
      · simp [hjN]
  rw [e2] at hP1
  exact kk p e s m args below meth c H1 locs1 ls' X hl hP1 hS1 h0 hn
theorem ar_iald {a N : Nat} {i : Int} (hd : M.2.2.2.2[k]? = some (pc, .iaload, nx, tg)) (hk : tK h a (14, N)) (h1 : 0 ≤ i) (h2 : i < N) (hN : N < 2147483648) (kk : tw_AW l G M d mc ms n0 c2 P nx ls (vi (h.2.1 a i) :: st) h) : tw_AW l G M d mc ms n0 c2 P pc ls (vi i :: vr (some a) :: st) h := by
  intro p e s m args below meth c H locs ls' X hl hP hS h0 hn
  obtain ⟨dd, e1⟩ := tw_dec X hd rfl
  subst e1
  have K := kk p e s m args below meth c H locs ls' X hl hP hS h0 hn
  have he := tw_ws_get (G := G) hk.2
  rw [tw_c_int hk.1 (by decide) (by decide)] at he
  obtain ⟨x1, x2, x3⟩ := tw_ix h1 h2 hN
  refine va_iald X.1 X.2.1 X.2.2.2.2.2.2.1.1 hP a 1 he rfl x2 dd ?_
  rw [x1, x3]
  exact K
theorem ar_bald {a N : Nat} {i : Int} (hd : M.2.2.2.2[k]? = some (pc, .baload, nx, tg)) (hk : tK h a (13, N)) (h1 : 0 ≤ i) (h2 : i < N) (hN : N < 2147483648) (kk : tw_AW l G M d mc ms n0 c2 P nx ls (vi (h.2.1 a i) :: st) h) : tw_AW l G M d mc ms n0 c2 P pc ls (vi i :: vr (some a) :: st) h := by
  intro p e s m args below meth c H locs ls' X hl hP hS h0 hn
  obtain ⟨dd, e1⟩ := tw_dec X hd rfl
  subst e1
  have K := kk p e s m args below meth c H locs ls' X hl hP hS h0 hn
  have he := tw_ws_get (G := G) hk.2
  rw [tw_c_int hk.1 (by decide) (by decide)] at he
  obtain ⟨x1, x2, x3⟩ := tw_ix h1 h2 hN
  refine va_bald X.1 X.2.1 X.2.2.2.2.2.2.1.1 hP a 0 he rfl x2 dd ?_
  rw [x1, x3]
  exact K
theorem ar_zald {a N : Nat} {i : Int} (hd : M.2.2.2.2[k]? = some (pc, .baload, nx, tg)) (hk : tK h a (15, N)) (h1 : 0 ≤ i) (h2 : i < N) (hN : N < 2147483648) (kk : tw_AW l G M d mc ms n0 c2 P nx ls (vi (h.2.1 a i) :: st) h) : tw_AW l G M d mc ms n0 c2 P pc ls (vi i :: vr (some a) :: st) h := by
  intro p e s m args below meth c H locs ls' X hl hP hS h0 hn
  obtain ⟨dd, e1⟩ := tw_dec X hd rfl
  subst e1
  have K := kk p e s m args below meth c H locs ls' X hl hP hS h0 hn
  have he := tw_ws_get (G := G) hk.2
  rw [tw_c_int hk.1 (by decide) (by decide)] at he
  obtain ⟨x1, x2, x3⟩ := tw_ix h1 h2 hN
  refine va_zald X.1 X.2.1 X.2.2.2.2.2.2.1.1 hP a 2 he rfl x2 dd ?_
  rw [x1, x3]
  exact K
theorem ar_iast {a N : Nat} {i x : Int} (hd : M.2.2.2.2[k]? = some (pc, .iastore, nx, tg)) (hk : tK h a (14, N)) (h1 : 0 ≤ i) (h2 : i < N) (hN : N < 2147483648) (kk : tw_AW l G M d mc ms n0 c2 P nx ls st (hI h a i x)) : tw_AW l G M d mc ms n0 c2 P pc ls (vi x :: vi i :: vr (some a) :: st) h := by
  intro p e s m args below meth c H locs ls' X hl hP hS h0 hn
  obtain ⟨dd, e1⟩ := tw_dec X hd rfl
  subst e1
  have he := tw_ws_get (G := G) hk.2
  rw [tw_c_int hk.1 (by decide) (by decide)] at he
  obtain ⟨x1, x2, x3⟩ := tw_ix h1 h2 hN
  refine va_iast X.1 X.2.1 X.2.2.2.2.2.2.1.1 hP (tw_ws_D hn) hS a 1 he rfl x2 dd (fun H1 locs1 hP1 _ hS1 => ?_)
  have e2 : (tw_ws G h).set a (tw_ad G a, .inl (G.2.1 14, N, .inl (upd (fun j => Int32.ofInt (h.2.1 a (j : Int))) (Int32.ofInt i).toNatClampNeg (Int32.ofInt x)))) = tw_ws G (hI h a i x) := by
    refine tw_ws_set rfl hk.2 ?_ (fun b hb => tw_c_uI hb)
    rw [tw_c_int (h := hI h a i x) hk.1 (by decide) (by decide), x1]
    congr 4
    funext j
    by_cases hj : j = i.toNat
    · subst hj
      simp [upd, uI, up, x3]
    · have hj' : ¬ (j : Int) = i := by omega
      simp [upd, uI, up, hj, hj']
  rw [e2] at hP1
  exact kk p e s m args below meth c H1 locs1 ls' X hl hP1 hS1 h0 hn
theorem ar_bast {a N : Nat} {i x : Int} (hd : M.2.2.2.2[k]? = some (pc, .bastore, nx, tg)) (hk : tK h a (13, N)) (h1 : 0 ≤ i) (h2 : i < N) (hN : N < 2147483648) (hx : -128 ≤ x ∧ x ≤ 127) (kk : tw_AW l G M d mc ms n0 c2 P nx ls st (hI h a i x)) : tw_AW l G M d mc ms n0 c2 P pc ls (vi x :: vi i :: vr (some a) :: st) h := by
  intro p e s m args below meth c H locs ls' X hl hP hS h0 hn
  obtain ⟨dd, e1⟩ := tw_dec X hd rfl
  subst e1
  have he := tw_ws_get (G := G) hk.2
  rw [tw_c_int hk.1 (by decide) (by decide)] at he
  obtain ⟨x1, x2, x3⟩ := tw_ix h1 h2 hN
  refine va_bast X.1 X.2.1 X.2.2.2.2.2.2.1.1 hP (tw_ws_D hn) hS a 0 he rfl x2 dd (fun H1 locs1 hP1 _ hS1 => ?_)
  have ex : vp_nar .byte (Int32.ofInt x) = Int32.ofInt x := tr_b hx
  rw [ex] at hP1
  have e2 : (tw_ws G h).set a (tw_ad G a, .inl (G.2.1 13, N, .inl (upd (fun j => Int32.ofInt (h.2.1 a (j : Int))) (Int32.ofInt i).toNatClampNeg (Int32.ofInt x)))) = tw_ws G (hI h a i x) := by
    refine tw_ws_set rfl hk.2 ?_ (fun b hb => tw_c_uI hb)
    rw [tw_c_int (h := hI h a i x) hk.1 (by decide) (by decide), x1]
    congr 4
    funext j
    by_cases hj : j = i.toNat
    · subst hj
      simp [upd, uI, up, x3]
    · have hj' : ¬ (j : Int) = i := by omega
      simp [upd, uI, up, hj, hj']
  rw [e2] at hP1
  exact kk p e s m args below meth c H1 locs1 ls' X hl hP1 hS1 h0 hn
theorem ar_zast {a N : Nat} {i x : Int} (hd : M.2.2.2.2[k]? = some (pc, .bastore, nx, tg)) (hk : tK h a (15, N)) (h1 : 0 ≤ i) (h2 : i < N) (hN : N < 2147483648) (hx : 0 ≤ x ∧ x ≤ 1) (kk : tw_AW l G M d mc ms n0 c2 P nx ls st (hI h a i x)) : tw_AW l G M d mc ms n0 c2 P pc ls (vi x :: vi i :: vr (some a) :: st) h := by
  intro p e s m args below meth c H locs ls' X hl hP hS h0 hn
  obtain ⟨dd, e1⟩ := tw_dec X hd rfl
  subst e1
  have he := tw_ws_get (G := G) hk.2
  rw [tw_c_int hk.1 (by decide) (by decide)] at he
  obtain ⟨x1, x2, x3⟩ := tw_ix h1 h2 hN
  refine va_zast X.1 X.2.1 X.2.2.2.2.2.2.1.1 hP (tw_ws_D hn) hS a 2 he rfl x2 dd (fun H1 locs1 hP1 _ hS1 => ?_)
  have ex : vp_nar .boolean (Int32.ofInt x) = Int32.ofInt x := by
    rcases (show x = 0 ∨ x = 1 by omega) with rfl | rfl <;> rfl
  rw [ex] at hP1
  have e2 : (tw_ws G h).set a (tw_ad G a, .inl (G.2.1 15, N, .inl (upd (fun j => Int32.ofInt (h.2.1 a (j : Int))) (Int32.ofInt i).toNatClampNeg (Int32.ofInt x)))) = tw_ws G (hI h a i x) := by
    refine tw_ws_set rfl hk.2 ?_ (fun b hb => tw_c_uI hb)
    rw [tw_c_int (h := hI h a i x) hk.1 (by decide) (by decide), x1]
    congr 4
    funext j
    by_cases hj : j = i.toNat
    · subst hj
      simp [upd, uI, up, x3]
    · have hj' : ¬ (j : Int) = i := by omega
      simp [upd, uI, up, hj, hj']
  rw [e2] at hP1
  exact kk p e s m args below meth c H1 locs1 ls' X hl hP1 hS1 h0 hn
theorem ar_aald16 {a N : Nat} {i : Int} (hd : M.2.2.2.2[k]? = some (pc, .aaload, nx, tg)) (hk : tK h a (16, N)) (h1 : 0 ≤ i) (h2 : i < N) (hN : N < 2147483648) (kk : tw_AW l G M d mc ms n0 c2 P nx ls (vr (h.2.2.1 a i) :: st) h) : tw_AW l G M d mc ms n0 c2 P pc ls (vi i :: vr (some a) :: st) h := by
  intro p e s m args below meth c H locs ls' X hl hP hS h0 hn
  obtain ⟨dd, e1⟩ := tw_dec X hd rfl
  subst e1
  have K := kk p e s m args below meth c H locs ls' X hl hP hS h0 hn
  have he := tw_ws_get (G := G) hk.2
  rw [tw_c_ref hk.1 (by decide)] at he
  obtain ⟨x1, x2, x3⟩ := tw_ix h1 h2 hN
  refine va_aldq X.1 X.2.1 X.2.2.2.2.2.2.1.1 hP a 3 he rfl x2 dd ?_
  rw [x1, x3]
  exact K
theorem ar_aast16 {a N : Nat} {i : Int} {x : Option Nat} (hd : M.2.2.2.2[k]? = some (pc, .aastore, nx, tg)) (hk : tK h a (16, N)) (h1 : 0 ≤ i) (h2 : i < N) (hN : N < 2147483648) (hx : ∀ b, x = some b → ∃ cb Nb C T, tK h b (cb, Nb) ∧ tCl[cb]? = some (C, T, Nb) ∧ (C = "TwinTools$Hand" ∨ (C, "TwinTools$Hand") ∈ castL)) (kk : tw_AW l G M d mc ms n0 c2 P nx ls st (hQ h a i x)) : tw_AW l G M d mc ms n0 c2 P pc ls (vr x :: vi i :: vr (some a) :: st) h := by
  intro p e s m args below meth c H locs ls' X hl hP hS h0 hn
  obtain ⟨dd, e1⟩ := tw_dec X hd rfl
  subst e1
  have he := tw_ws_get (G := G) hk.2
  rw [tw_c_ref hk.1 (by decide)] at he
  obtain ⟨x1, x2, x3⟩ := tw_ix h1 h2 hN
  have fin : ∀ (H1 : Heap) (locs1 : List Loc), va_P G.1 tCl ((tw_ws G h).set a (tw_ad G a, .inl (G.2.1 16, N, .inr (.inr (.inr (.inr (va_up (fun j => (h.2.2.1 a (j : Int)).map (tw_ad G)) (Int32.ofInt i).toNatClampNeg (x.map (tw_ad G))))))))) H1 → va_S (tw_A G) s.heap H1 locs1 → W p l e (tw_rm d mc ms) s m args below meth c H1 locs1 (h.2.2.2 - n0) c2 (MQ below (tw_Q G P mc) args s mc ms (tw_A G)) (F0 m (pc + 1) ls' (st.map (tw_v G))) := by
    intro H1 locs1 hP1 hS1
    have e2 : (tw_ws G h).set a (tw_ad G a, .inl (G.2.1 16, N, .inr (.inr (.inr (.inr (va_up (fun j => (h.2.2.1 a (j : Int)).map (tw_ad G)) (Int32.ofInt i).toNatClampNeg (x.map (tw_ad G)))))))) = tw_ws G (hQ h a i x) := by
      refine tw_ws_set rfl hk.2 ?_ (fun b hb => tw_c_uQ hb)
      rw [tw_c_ref (h := hQ h a i x) hk.1 (by decide), x1]
      congr 7
      funext j
      by_cases hj : j = i.toNat
      · subst hj
        simp [va_up, uQ, upQ, x3]
      · have hj' : ¬ (j : Int) = i := by omega
        simp [va_up, uQ, upQ, hj, hj']
    rw [e2] at hP1
    exact kk p e s m args below meth c H1 locs1 ls' X hl hP1 hS1 h0 hn
  cases x with
  | none => exact va_astqN X.1 X.2.1 X.2.2.2.2.2.2.1.1 hP (tw_ws_D hn) hS a 3 he rfl x2 dd (fun H1 locs1 hP1 _ hS1 => fin H1 locs1 hP1 hS1)
  | some b =>
    obtain ⟨cb, Nb, C, T, y1, y2, y3⟩ := hx b rfl
    have hb := tw_ws_get (G := G) y1.2
    rw [tw_c_obj y1.1 (tw_tcl_len y2)] at hb
    rcases y3 with rfl | y3
    · exact va_astq X.1 X.2.1 X.2.2.2.2.2.2.1.1 hP (tw_ws_D hn) hS a 3 b cb he rfl hb y2 x2 dd (fun H1 locs1 hP1 _ hS1 => fin H1 locs1 hP1 hS1)
    · exact va_astqO X.1 X.2.1 X.2.2.2.2.2.2.1.1 hP (tw_ws_D hn) hS a 3 b cb he rfl (X.2.2.2.2.2.2.1.2.2.1 _ y3) hb y2 x2 dd (fun H1 locs1 hP1 _ hS1 => fin H1 locs1 hP1 hS1)
theorem ar_aald17 {a N : Nat} {i : Int} (hd : M.2.2.2.2[k]? = some (pc, .aaload, nx, tg)) (hk : tK h a (17, N)) (h1 : 0 ≤ i) (h2 : i < N) (hN : N < 2147483648) (kk : tw_AW l G M d mc ms n0 c2 P nx ls (vr (h.2.2.1 a i) :: st) h) : tw_AW l G M d mc ms n0 c2 P pc ls (vi i :: vr (some a) :: st) h := by
  intro p e s m args below meth c H locs ls' X hl hP hS h0 hn
  obtain ⟨dd, e1⟩ := tw_dec X hd rfl
  subst e1
  have K := kk p e s m args below meth c H locs ls' X hl hP hS h0 hn
  have he := tw_ws_get (G := G) hk.2
  rw [tw_c_ref hk.1 (by decide)] at he
  obtain ⟨x1, x2, x3⟩ := tw_ix h1 h2 hN
  refine va_aldq X.1 X.2.1 X.2.2.2.2.2.2.1.1 hP a 4 he rfl x2 dd ?_
  rw [x1, x3]
  exact K
theorem ar_aast17 {a N : Nat} {i : Int} {x : Option Nat} (hd : M.2.2.2.2[k]? = some (pc, .aastore, nx, tg)) (hk : tK h a (17, N)) (h1 : 0 ≤ i) (h2 : i < N) (hN : N < 2147483648) (hx : ∀ b, x = some b → ∃ cb Nb C T, tK h b (cb, Nb) ∧ tCl[cb]? = some (C, T, Nb) ∧ (C = "TwinTools$Valley" ∨ (C, "TwinTools$Valley") ∈ castL)) (kk : tw_AW l G M d mc ms n0 c2 P nx ls st (hQ h a i x)) : tw_AW l G M d mc ms n0 c2 P pc ls (vr x :: vi i :: vr (some a) :: st) h := by
  intro p e s m args below meth c H locs ls' X hl hP hS h0 hn
  obtain ⟨dd, e1⟩ := tw_dec X hd rfl
  subst e1
  have he := tw_ws_get (G := G) hk.2
  rw [tw_c_ref hk.1 (by decide)] at he
  obtain ⟨x1, x2, x3⟩ := tw_ix h1 h2 hN
  have fin : ∀ (H1 : Heap) (locs1 : List Loc), va_P G.1 tCl ((tw_ws G h).set a (tw_ad G a, .inl (G.2.1 17, N, .inr (.inr (.inr (.inr (va_up (fun j => (h.2.2.1 a (j : Int)).map (tw_ad G)) (Int32.ofInt i).toNatClampNeg (x.map (tw_ad G))))))))) H1 → va_S (tw_A G) s.heap H1 locs1 → W p l e (tw_rm d mc ms) s m args below meth c H1 locs1 (h.2.2.2 - n0) c2 (MQ below (tw_Q G P mc) args s mc ms (tw_A G)) (F0 m (pc + 1) ls' (st.map (tw_v G))) := by
    intro H1 locs1 hP1 hS1
    have e2 : (tw_ws G h).set a (tw_ad G a, .inl (G.2.1 17, N, .inr (.inr (.inr (.inr (va_up (fun j => (h.2.2.1 a (j : Int)).map (tw_ad G)) (Int32.ofInt i).toNatClampNeg (x.map (tw_ad G)))))))) = tw_ws G (hQ h a i x) := by
      refine tw_ws_set rfl hk.2 ?_ (fun b hb => tw_c_uQ hb)
      rw [tw_c_ref (h := hQ h a i x) hk.1 (by decide), x1]
      congr 7
      funext j
      by_cases hj : j = i.toNat
      · subst hj
        simp [va_up, uQ, upQ, x3]
      · have hj' : ¬ (j : Int) = i := by omega
        simp [va_up, uQ, upQ, hj, hj']
    rw [e2] at hP1
    exact kk p e s m args below meth c H1 locs1 ls' X hl hP1 hS1 h0 hn
  cases x with
  | none => exact va_astqN X.1 X.2.1 X.2.2.2.2.2.2.1.1 hP (tw_ws_D hn) hS a 4 he rfl x2 dd (fun H1 locs1 hP1 _ hS1 => fin H1 locs1 hP1 hS1)
  | some b =>
    obtain ⟨cb, Nb, C, T, y1, y2, y3⟩ := hx b rfl
    have hb := tw_ws_get (G := G) y1.2
    rw [tw_c_obj y1.1 (tw_tcl_len y2)] at hb
    rcases y3 with rfl | y3
    · exact va_astq X.1 X.2.1 X.2.2.2.2.2.2.1.1 hP (tw_ws_D hn) hS a 4 b cb he rfl hb y2 x2 dd (fun H1 locs1 hP1 _ hS1 => fin H1 locs1 hP1 hS1)
    · exact va_astqO X.1 X.2.1 X.2.2.2.2.2.2.1.1 hP (tw_ws_D hn) hS a 4 b cb he rfl (X.2.2.2.2.2.2.1.2.2.1 _ y3) hb y2 x2 dd (fun H1 locs1 hP1 _ hS1 => fin H1 locs1 hP1 hS1)
theorem ar_aald18 {a N : Nat} {i : Int} (hd : M.2.2.2.2[k]? = some (pc, .aaload, nx, tg)) (hk : tK h a (18, N)) (h1 : 0 ≤ i) (h2 : i < N) (hN : N < 2147483648) (kk : tw_AW l G M d mc ms n0 c2 P nx ls (vr (h.2.2.1 a i) :: st) h) : tw_AW l G M d mc ms n0 c2 P pc ls (vi i :: vr (some a) :: st) h := by
  intro p e s m args below meth c H locs ls' X hl hP hS h0 hn
  obtain ⟨dd, e1⟩ := tw_dec X hd rfl
  subst e1
  have K := kk p e s m args below meth c H locs ls' X hl hP hS h0 hn
  have he := tw_ws_get (G := G) hk.2
  rw [tw_c_ref hk.1 (by decide)] at he
  obtain ⟨x1, x2, x3⟩ := tw_ix h1 h2 hN
  have hlt : (Int32.ofInt i).toNatClampNeg < N := Nat.not_le.mp fun q => x2 (Or.inr q)
  refine W.aald (v := va_rf ((h.2.2.1 a i).map (tw_ad G))) (ty := .array .int) X.1 X.2.1 (hP a _ he) ((X.2.2.2.2.2.2.1.1.2 5 _ rfl).1 N (fun j => va_rf ((h.2.2.1 a (j : Int)).map (tw_ad G)))) rfl (fun q => by cases q) (by show ¬ (_ ∨ (arrV _ _ _).slots.size ≤ _); rw [arrV_size]; exact x2) ?_ rfl rfl dd K
  show (arrV _ _ _).slots[_]? = _
  rw [arrV_read _ _ hlt, x1]
  show some (va_rf (Option.map (tw_ad G) (h.2.2.1 a ((i.toNat : Nat) : Int)))) = _
  rw [x3]
theorem ar_alen {a ci N : Nat} (hd : M.2.2.2.2[k]? = some (pc, .arraylength, nx, tg)) (hk : tK h a (ci, N)) (h1 : 13 ≤ ci) (h2 : ci < 19) (kk : tw_AW l G M d mc ms n0 c2 P nx ls (vi N :: st) h) : tw_AW l G M d mc ms n0 c2 P pc ls (vr (some a) :: st) h := by
  intro p e s m args below meth c H locs ls' X hl hP hS h0 hn
  obtain ⟨dd, e1⟩ := tw_dec X hd rfl
  subst e1
  have K := kk p e s m args below meth c H locs ls' X hl hP hS h0 hn
  have he := tw_ws_get (G := G) hk.2
  have ht : ∃ ty, (tw_tys G)[ci - 13]? = some (G.2.1 ci, ty) := by
    rcases (show ci = 13 ∨ ci = 14 ∨ ci = 15 ∨ ci = 16 ∨ ci = 17 ∨ ci = 18 by omega) with rfl | rfl | rfl | rfl | rfl | rfl <;> exact ⟨_, rfl⟩
  obtain ⟨ty, ht⟩ := ht
  have hx : ∃ x, tw_c G h a = .inl (G.2.1 ci, N, x) := by
    by_cases hc : ci < 16
    · exact ⟨_, tw_c_int hk.1 h1 hc⟩
    · exact ⟨_, tw_c_ref hk.1 (by omega)⟩
  obtain ⟨x, hx⟩ := hx
  rw [hx] at he
  exact va_alen X.1 X.2.1 X.2.2.2.2.2.2.1.1 hP a (ci - 13) he ht (v := Int32.ofInt (N : Int)) (Int32.ofInt_eq_ofNat).symm dd K
end AR2
end
section
theorem tw_goodIn {M : tM} {ws : List Cond} (h : ∀ w ∈ ws, w ∈ tw_tbl) : GoodIn (tw_wds M) ws := fun w hw => ⟨List.mem_cons_of_mem _ (h w hw), good_of_word (List.mem_filter.mp (h w hw)).2⟩
theorem tw_blind {G : tG} {av : List Value} {h : tH} {mc : Nat} : FrameBlind (va_Pc av (fun U => va_P G.1 tCl (tw_ws G h) U.heap ∧ U.heap.size = G.2.2.1 + h.2.2.2 ∧ tw_U G U ∧ h.2.2.2 + mc < 1000000)) := by
  intro a U g mk q
  obtain ⟨q1, q2, q3, q4, q5⟩ := q
  exact ⟨q1, q2, q3, tw_U_vm (u := U) rfl rfl q4, q5⟩
section AR3
variable {l : Launch} {G : tG} {M : tM} {d mc ms n0 c2 : Nat} {P : Option tV → tH → Prop} {ls : List (Nat × tV)} {st : List tV} {h : tH} {k pc nx tg : Nat}
/-- behind a call -/
theorem tw_run {p : Program} {e : Env} {s : State} {m : MethodId} {args : Array Value} {below : List Frame} {meth : Method} {c : Code} {H : Heap} {locs : List Loc} {ls' : Array Slot} {mc' ms' : Nat} {P' : Option tV → tH → Prop} {st0 : List Value} {av : Array Value}
    (X : tw_X l G M n0 mc p s m args meth c) (hl : lv_has ls' M.2.2.1 (tw_L G ls)) (hP : va_P G.1 tCl (tw_ws G h) H) (hS : va_S (tw_A G) s.heap H locs) (h0 : n0 ≤ h.2.2.2) (hn : h.2.2.2 < 1000000) (hb : h.2.2.2 + mc' < 1000000)
    (hr : H.size = G.2.2.1 + h.2.2.2 → va_Run p l e (tw_rm d mc ms) s m args below meth c H locs (h.2.2.2 - n0) c2 mc' ms' (F0 m pc ls' st0) (st.map (tw_v G)) (tw_Q G P' mc' av) (tw_A G))
    (kk : ∀ r h', P' r h' → tw_AW l G M d mc ms n0 (c2 + ms') P (pc + 3) ls (r.toList ++ st) h') :
    W p l e (tw_rm d mc ms) s m args below meth c H locs (h.2.2.2 - n0) c2 (MQ below (tw_Q G P mc) args s mc ms (tw_A G)) (F0 m pc ls' st0) := by
  intro T hT Y
  have hz : H.size = G.2.2.1 + h.2.2.2 := by
    rw [← hT]
    exact tw_size Y X.2.2.2.2.2.2.2.2.1 h0 hn (by rw [hT]; exact hP) (by rw [hT]; exact hS.1)
  obtain ⟨v, st₀, t, T', L, z0, Y', hL, e1, e2, ⟨r, h', hv, hp, hP', hsz, hF⟩, stp⟩ := hr hz T hT Y
  have hn' : h'.2.2.2 = h.2.2.2 + mc' := by rw [z0] at hsz; omega
  have hS' : va_S (tw_A G) s.heap T'.heap (locs ++ L) := by
    rw [e1]
    refine ⟨Nat.le_trans hS.1 (by rw [← z0]; exact hF.1), fun q h1 h2 => ?_, fun q hq => ?_⟩
    · rw [hF.2 q (by rw [z0]; exact Nat.lt_of_lt_of_le h1 hS.1) h2, z0]
      exact hS.2.1 q h1 h2
    · rcases List.mem_append.mp hq with h | h
      · exact hS.2.2 q h
      · exact hL q h
  have ec : h.2.2.2 - n0 + mc' = h'.2.2.2 - n0 := by omega
  rw [ec] at Y'
  obtain ⟨t2, a1, b1⟩ := kk r h' hp p e s m args below meth c T'.heap (locs ++ L) ls' X hl (by rw [e1]; exact hP') hS' (by omega) (by omega) T' rfl Y'
  refine ⟨t2, stp t2 ?_, b1⟩
  have ev : v = r.map (tw_v G) := by simpa using hv
  have es : v.toList ++ st.map (tw_v G) = (r.toList ++ st).map (tw_v G) := by
    rw [ev, List.map_append]
    cases r <;> rfl
  show Steps p.tables e below (T'.setTop (F0 m (pc + 3) ls' (v.toList ++ st.map (tw_v G)))) t2
  rw [es]
  exact a1
theorem tw_pre {p : Program} {s : State} {m : MethodId} {args : Array Value} {meth : Method} {c : Code} {H : Heap} {locs : List Loc} {av : List tV} {mc' : Nat} (X : tw_X l G M n0 mc p s m args meth c) (hP : va_P G.1 tCl (tw_ws G h) H) (hS : va_S (tw_A G) s.heap H locs) (hb : h.2.2.2 + mc' < 1000000) (hz : H.size = G.2.2.1 + h.2.2.2) :
    ∀ U : State, U.heap = H → s.WarmedH U.vm → va_Pc (av.map (tw_v G)) (fun U => va_P G.1 tCl (tw_ws G h) U.heap ∧ U.heap.size = G.2.2.1 + h.2.2.2 ∧ tw_U G U ∧ h.2.2.2 + mc' < 1000000) ((av.map (tw_v G)).toArray) U := by
  intro U hU hW
  refine ⟨rfl, by rw [hU]; exact hP, by rw [hU]; exact hz, tw_U_warm hW (by rw [hU]; exact hS.1) (fun a h1 h2 => by rw [hU]; exact hS.2.1 a h1 h2) X.2.2.2.2.2.2.1, hb⟩
theorem tw_recv {s : State} {H : Heap} {a ci N : Nat} {C : String} {T : u_T} (hK : va_K G.1 tCl (tw_tys G) s) (hP : va_P G.1 tCl (tw_ws G h) H) (hk : tK h a (ci, N)) (hc : tCl[ci]? = some (C, T, N)) : ∃ cell : Cell, H[tw_ad G a]? = some cell ∧ cell.vm.isStatics = false ∧ s.vm.findClass C = some cell.cls := by
  have he := tw_ws_get (G := G) hk.2
  rw [tw_c_obj hk.1 (tw_tcl_len hc)] at he
  exact va_recv hK hP hc he
theorem tw_cat_sum (G : tG) (st : List tV) : ((st.map (tw_v G)).map fun v => v.category).sum = (st.map tw_w).sum := by
  rw [List.map_map]
  congr 1
  apply List.map_congr_left
  intro v _
  exact tw_v_cat G v
theorem tw_lvroom {m : MethodId} {ls' : Array Slot} {st0 : List Value} (h : (st.map tw_w).sum ≤ 8) : 2 * (F0 m pc ls' st0).monitorRoom + ((st.map (tw_v G)).map fun v => v.category).sum ≤ 8 := lv_room (rest := st0) (by rw [tw_cat_sum]; exact h)
def tw_PD (y : MethodName) (n : Nat) : Prop := y.cls ≠ "java/lang/invoke/MethodHandle" ∧ y.cls ≠ "java/lang/invoke/VarHandle" ∧ (parseMethodDescriptor y.desc).map (fun d => d.parameters.length) = some n
/-- the words of a call -/
def tw_LV (own : String) (i : Nat) (M' : tM) (C : String) (n : Nat) : Prop := (Cond.methodLink own i M'.1 ∈ tw_tbl ∧ Cond.instanceMethod M'.1 ∈ tw_tbl ∧ Cond.selects C M'.1 M'.1 ∈ tw_tbl ∧ Cond.initialized C ∈ tw_tbl ∧ Cond.code M'.1 M'.2.1 M'.2.2.1 M'.2.2.2.1 ∈ tw_tbl) ∧ M'.1.cls = C ∧ tw_PD M'.1 n
def tw_LS (own : String) (i : Nat) (M' : tM) (n : Nat) : Prop := (Cond.methodLink own i M'.1 ∈ tw_tbl ∧ Cond.static M'.1 ∈ tw_tbl ∧ Cond.initialized M'.1.cls ∈ tw_tbl ∧ Cond.code M'.1 M'.2.1 M'.2.2.1 M'.2.2.2.1 ∈ tw_tbl) ∧ tw_PD M'.1 n
def tw_LI (own : String) (i : Nat) (M' : tM) (n : Nat) : Prop := (Cond.methodLink own i M'.1 ∈ tw_tbl ∧ Cond.instanceMethod M'.1 ∈ tw_tbl ∧ Cond.initialized M'.1.cls ∈ tw_tbl ∧ Cond.code M'.1 M'.2.1 M'.2.2.1 M'.2.2.2.1 ∈ tw_tbl) ∧ (M'.1.name = "<init>" ∧ M'.2.2.2.1 = none) ∧ tw_PD M'.1 n
def tw_LU (own : String) (i : Nat) (x : MethodName) (M' : tM) (C : String) (n : Nat) : Prop := (Cond.methodLink own i x ∈ tw_tbl ∧ Cond.sameMethod x.cls M'.1.cls x.name x.desc ∈ tw_tbl ∧ Cond.selects C x M'.1 ∈ tw_tbl ∧ Cond.instanceMethod M'.1 ∈ tw_tbl ∧ Cond.initialized M'.1.cls ∈ tw_tbl ∧ Cond.code M'.1 M'.2.1 M'.2.2.1 M'.2.2.2.1 ∈ tw_tbl) ∧ M'.1 = ⟨M'.1.cls, x.name, x.desc⟩ ∧ tw_PD M'.1 n
def tw_LO (own : String) (i : Nat) (x : MethodName) (owner : String) (M' M0 : tM) (C : String) (n : Nat) : Prop := (Cond.methodLink own i x ∈ tw_tbl ∧ Cond.sameMethod x.cls owner x.name x.desc ∈ tw_tbl ∧ Cond.instanceMethod M0.1 ∈ tw_tbl ∧ Cond.selects C x M'.1 ∈ tw_tbl ∧ Cond.instanceMethod M'.1 ∈ tw_tbl ∧ Cond.initialized M'.1.cls ∈ tw_tbl ∧ Cond.code M'.1 M'.2.1 M'.2.2.1 M'.2.2.2.1 ∈ tw_tbl ∧ Cond.code M0.1 M0.2.1 M0.2.2.1 M0.2.2.2.1 ∈ tw_tbl) ∧ M0.1 = ⟨owner, x.name, x.desc⟩ ∧ tw_PD M0.1 n
def tw_LP (own : String) (i : Nat) (M' : tM) (n : Nat) : Prop := (Cond.methodLink own i M'.1 ∈ tw_tbl ∧ Cond.sameMethod M'.1.cls M'.1.cls M'.1.name M'.1.desc ∈ tw_tbl ∧ Cond.superclass own M'.1.cls ∈ tw_tbl ∧ Cond.instanceMethod M'.1 ∈ tw_tbl ∧ Cond.initialized M'.1.cls ∈ tw_tbl ∧ Cond.code M'.1 M'.2.1 M'.2.2.1 M'.2.2.2.1 ∈ tw_tbl) ∧ M'.1.name ≠ "<init>" ∧ tw_PD M'.1 n
theorem tw_wds_in {M' : tM} (h : Cond.code M'.1 M'.2.1 M'.2.2.1 M'.2.2.2.1 ∈ tw_tbl) : ∀ w ∈ tw_wds M', w ∈ tw_tbl := by
  intro w hw
  rcases List.mem_cons.mp hw with rfl | hw
  · exact h
  · exact hw
theorem ar_callV {i mc' ms' d' n : Nat} {M' : tM} {as : List tV} {P' : Option tV → tH → Prop} {a ci N : Nat} {C : String} {T : u_T} (hd : M.2.2.2.2[k]? = some (pc, .invokevirtual i, nx, tg)) (hw : tw_LV M.1.cls i M' C n) (hk : tK h a (ci, N)) (hc : tCl[ci]? = some (C, T, N)) (hM : tw_M l G d' mc' ms' M' (vr (some a) :: as) h P') (hn' : as.length = n) (hdd : d' + 1 ≤ d) (hL : M'.2.2.1 ≤ 45) (hm : h.2.2.2 - n0 + mc' ≤ mc ∧ c2 + ms' ≤ ms) (hst : (st.map tw_w).sum ≤ 8) (kk : ∀ r h', P' r h' → tw_AW l G M d mc ms n0 (c2 + ms') P nx ls (r.toList ++ st) h') : tw_AW l G M d mc ms n0 c2 P pc ls (as.reverse ++ vr (some a) :: st) h := by
  intro p e s m args below meth c H locs ls' X hl hP hS h0 hn
  obtain ⟨dd, e1⟩ := tw_dec X hd rfl
  subst e1
  have hB : h.2.2.2 + mc' < 1000000 := by have := X.2.2.2.2.2.2.2.2.2.1; omega
  have hws : ∀ w ∈ tw_wds M, w.before args s = true := X.2.2.2.2.2.1
  refine tw_run (mc' := mc') (ms' := ms') (P' := P') (av := ((vr (some a) :: as).map (tw_v G)).toArray) X hl hP hS h0 hn hB (fun hz => ?_) kk
  obtain ⟨⟨w1, w2, w3, w4, w5⟩, hC, w6⟩ := hw
  have hg : GoodIn (tw_wds M) (wsV M.1.cls i C M'.1 (tw_wds M')) := tw_goodIn (by
    intro w hw
    rcases List.mem_append.mp hw with hw | hw
    · simp only [List.mem_cons, List.not_mem_nil, or_false] at hw
      rcases hw with rfl | rfl | rfl | rfl <;> assumption
    · exact tw_wds_in w5 w hw)
  exact va_runV (As := as.map (tw_v G)) ⟨X.1, X.2.1, X.2.2.2.1, X.2.2.2.2.1, hws⟩ hM (cwV n hws hg rfl rfl rfl ⟨hC, w6⟩ ⟨hdd, by show 8 + (M'.2.2.1 + 11) + 64 * d' ≤ 64 * d; omega⟩) ⟨tw_blind, tw_recv X.2.2.2.2.2.2.1.1 hP hk hc, fun U hU hW => tw_pre (av := vr (some a) :: as) X hP hS hB hz U hU hW⟩ rfl (by rw [List.length_map]; exact hn') hl.1 (by simp [List.map_append, List.map_reverse, tw_v, va_rf]) (tw_lvroom hst) dd ⟨hm.1, hm.2⟩
theorem ar_callU {i mc' ms' d' n : Nat} {M' : tM} {as : List tV} {P' : Option tV → tH → Prop} {a ci N : Nat} {C : String} {T : u_T} {x : MethodName} (hd : M.2.2.2.2[k]? = some (pc, .invokevirtual i, nx, tg)) (hw : tw_LU M.1.cls i x M' C n) (hk : tK h a (ci, N)) (hc : tCl[ci]? = some (C, T, N)) (hM : tw_M l G d' mc' ms' M' (vr (some a) :: as) h P') (hn' : as.length = n) (hdd : d' + 1 ≤ d) (hL : M'.2.2.1 ≤ 45) (hm : h.2.2.2 - n0 + mc' ≤ mc ∧ c2 + ms' ≤ ms) (hst : (st.map tw_w).sum ≤ 8) (kk : ∀ r h', P' r h' → tw_AW l G M d mc ms n0 (c2 + ms') P nx ls (r.toList ++ st) h') : tw_AW l G M d mc ms n0 c2 P pc ls (as.reverse ++ vr (some a) :: st) h := by
  intro p e s m args below meth c H locs ls' X hl hP hS h0 hn
  obtain ⟨dd, e1⟩ := tw_dec X hd rfl
  subst e1
  have hB : h.2.2.2 + mc' < 1000000 := by have := X.2.2.2.2.2.2.2.2.2.1; omega
  have hws : ∀ w ∈ tw_wds M, w.before args s = true := X.2.2.2.2.2.1
  refine tw_run (mc' := mc') (ms' := ms') (P' := P') (av := ((vr (some a) :: as).map (tw_v G)).toArray) X hl hP hS h0 hn hB (fun hz => ?_) kk
  obtain ⟨⟨w1, w2, w3, w4, w5, w7⟩, hC, w6⟩ := hw
  have hg : GoodIn (tw_wds M) (va_wsU M.1.cls i C M'.1.cls x M'.1 (tw_wds M')) := tw_goodIn (by
    intro w hw
    rcases List.mem_append.mp hw with hw | hw
    · simp only [List.mem_cons, List.not_mem_nil, or_false] at hw
      rcases hw with rfl | rfl | rfl | rfl | rfl <;> assumption
    · exact tw_wds_in w7 w hw)
  have w8 := w6.2.2
  rw [show M'.1.desc = x.desc by rw [hC]] at w8
  exact va_runU (As := as.map (tw_v G)) ⟨X.1, X.2.1, X.2.2.2.1, X.2.2.2.2.1, hws⟩ hM (va_cwU n hws hg rfl rfl rfl hC ⟨w6.1, w6.2.1, w8⟩ ⟨hdd, by show 8 + (M'.2.2.1 + 11) + 64 * d' ≤ 64 * d; omega⟩) ⟨tw_blind, tw_recv X.2.2.2.2.2.2.1.1 hP hk hc, fun U hU hW => tw_pre (av := vr (some a) :: as) X hP hS hB hz U hU hW⟩ rfl (by rw [List.length_map]; exact hn') hl.1 (by simp [List.map_append, List.map_reverse, tw_v, va_rf]) (tw_lvroom hst) dd ⟨hm.1, hm.2⟩
theorem ar_callO {i mc' ms' d' n : Nat} {M' : tM} {as : List tV} {P' : Option tV → tH → Prop} {a ci N : Nat} {C : String} {T : u_T} {x : MethodName} {owner : String} {M0 : tM} (hd : M.2.2.2.2[k]? = some (pc, .invokevirtual i, nx, tg)) (hw : tw_LO M.1.cls i x owner M' M0 C n) (hk : tK h a (ci, N)) (hc : tCl[ci]? = some (C, T, N)) (hM : tw_M l G d' mc' ms' M' (vr (some a) :: as) h P') (hn' : as.length = n) (hdd : d' + 1 ≤ d) (hL : M'.2.2.1 ≤ 45) (hm : h.2.2.2 - n0 + mc' ≤ mc ∧ c2 + ms' ≤ ms) (hst : (st.map tw_w).sum ≤ 8) (kk : ∀ r h', P' r h' → tw_AW l G M d mc ms n0 (c2 + ms') P nx ls (r.toList ++ st) h') : tw_AW l G M d mc ms n0 c2 P pc ls (as.reverse ++ vr (some a) :: st) h := by
  intro p e s m args below meth c H locs ls' X hl hP hS h0 hn
  obtain ⟨dd, e1⟩ := tw_dec X hd rfl
  subst e1
  have hB : h.2.2.2 + mc' < 1000000 := by have := X.2.2.2.2.2.2.2.2.2.1; omega
  have hws : ∀ w ∈ tw_wds M, w.before args s = true := X.2.2.2.2.2.1
  refine tw_run (mc' := mc') (ms' := ms') (P' := P') (av := ((vr (some a) :: as).map (tw_v G)).toArray) X hl hP hS h0 hn hB (fun hz => ?_) kk
  obtain ⟨⟨w1, w2, w3, w4, w5, w9, w7, wA⟩, hC, w6⟩ := hw
  rw [hC] at w3
  have hg : GoodIn (tw_wds M) (va_wsO M.1.cls i C owner x M'.1 (tw_wds M')) := tw_goodIn (by
    intro w hw
    rcases List.mem_append.mp hw with hw | hw
    · simp only [List.mem_cons, List.not_mem_nil, or_false] at hw
      rcases hw with rfl | rfl | rfl | rfl | rfl | rfl <;> assumption
    · exact tw_wds_in w7 w hw)
  have w8 := w6.2.2
  rw [show M0.1.desc = x.desc by rw [hC]] at w8
  have w61 := w6.1
  have w62 := w6.2.1
  rw [show M0.1.cls = owner by rw [hC]] at w61 w62
  rw [hC] at wA
  exact va_runU (As := as.map (tw_v G)) ⟨X.1, X.2.1, X.2.2.2.1, X.2.2.2.2.1, hws⟩ hM (va_cwO n hws hg rfl rfl rfl (List.mem_cons_of_mem _ wA) ⟨w61, w62, w8⟩ ⟨hdd, by show 8 + (M'.2.2.1 + 11) + 64 * d' ≤ 64 * d; omega⟩) ⟨tw_blind, tw_recv X.2.2.2.2.2.2.1.1 hP hk hc, fun U hU hW => tw_pre (av := vr (some a) :: as) X hP hS hB hz U hU hW⟩ rfl (by rw [List.length_map]; exact hn') hl.1 (by simp [List.map_append, List.map_reverse, tw_v, va_rf]) (tw_lvroom hst) dd ⟨hm.1, hm.2⟩
theorem ar_callP {i mc' ms' d' n : Nat} {M' : tM} {as : List tV} {P' : Option tV → tH → Prop} {a ci N : Nat} {C : String} {T : u_T} (hd : M.2.2.2.2[k]? = some (pc, .invokespecial i, nx, tg)) (hw : tw_LP M.1.cls i M' n) (hk : tK h a (ci, N)) (hc : tCl[ci]? = some (C, T, N)) (hM : tw_M l G d' mc' ms' M' (vr (some a) :: as) h P') (hn' : as.length = n) (hdd : d' + 1 ≤ d) (hL : M'.2.2.1 ≤ 45) (hm : h.2.2.2 - n0 + mc' ≤ mc ∧ c2 + ms' ≤ ms) (hst : (st.map tw_w).sum ≤ 8) (kk : ∀ r h', P' r h' → tw_AW l G M d mc ms n0 (c2 + ms') P nx ls (r.toList ++ st) h') : tw_AW l G M d mc ms n0 c2 P pc ls (as.reverse ++ vr (some a) :: st) h := by
  intro p e s m args below meth c H locs ls' X hl hP hS h0 hn
  obtain ⟨dd, e1⟩ := tw_dec X hd rfl
  subst e1
  have hB : h.2.2.2 + mc' < 1000000 := by have := X.2.2.2.2.2.2.2.2.2.1; omega
  have hws : ∀ w ∈ tw_wds M, w.before args s = true := X.2.2.2.2.2.1
  refine tw_run (mc' := mc') (ms' := ms') (P' := P') (av := ((vr (some a) :: as).map (tw_v G)).toArray) X hl hP hS h0 hn hB (fun hz => ?_) kk
  obtain ⟨⟨w1, w2, w3, w4, w5, w7⟩, hC, w6⟩ := hw
  have hg : GoodIn (tw_wds M) (va_wsSU M.1.cls i M'.1 (tw_wds M')) := tw_goodIn (by
    intro w hw
    rcases List.mem_append.mp hw with hw | hw
    · simp only [List.mem_cons, List.not_mem_nil, or_false] at hw
      rcases hw with rfl | rfl | rfl | rfl | rfl <;> assumption
    · exact tw_wds_in w7 w hw)
  exact va_runSU (As := as.map (tw_v G)) (X.2.2.2.2.2.2.1.1.1 ci _ hc).2 ⟨X.1, X.2.1, X.2.2.2.1, X.2.2.2.2.1, hws⟩ hM (va_cwSU n hws hg rfl rfl rfl ⟨hC, w6.2.2⟩ ⟨hdd, by show 8 + (M'.2.2.1 + 11) + 64 * d' ≤ 64 * d; omega⟩) ⟨tw_blind, tw_recv X.2.2.2.2.2.2.1.1 hP hk hc, fun U hU hW => tw_pre (av := vr (some a) :: as) X hP hS hB hz U hU hW⟩ rfl (by rw [List.length_map]; exact hn') hl.1 (by simp [List.map_append, List.map_reverse, tw_v, va_rf]) (tw_lvroom hst) dd ⟨hm.1, hm.2⟩
theorem ar_callS {i mc' ms' d' n : Nat} {M' : tM} {as : List tV} {P' : Option tV → tH → Prop} (hd : M.2.2.2.2[k]? = some (pc, .invokestatic i, nx, tg)) (hw : tw_LS M.1.cls i M' n) (hM : tw_M l G d' mc' ms' M' (as) h P') (hn' : as.length = n) (hdd : d' + 1 ≤ d) (hL : M'.2.2.1 ≤ 45) (hm : h.2.2.2 - n0 + mc' ≤ mc ∧ c2 + ms' ≤ ms) (hst : (st.map tw_w).sum ≤ 8) (kk : ∀ r h', P' r h' → tw_AW l G M d mc ms n0 (c2 + ms') P nx ls (r.toList ++ st) h') : tw_AW l G M d mc ms n0 c2 P pc ls (as.reverse ++ st) h := by
  intro p e s m args below meth c H locs ls' X hl hP hS h0 hn
  obtain ⟨dd, e1⟩ := tw_dec X hd rfl
  subst e1
  have hB : h.2.2.2 + mc' < 1000000 := by have := X.2.2.2.2.2.2.2.2.2.1; omega
  have hws : ∀ w ∈ tw_wds M, w.before args s = true := X.2.2.2.2.2.1
  refine tw_run (mc' := mc') (ms' := ms') (P' := P') (av := ((as).map (tw_v G)).toArray) X hl hP hS h0 hn hB (fun hz => ?_) kk
  obtain ⟨⟨w1, w2, w3, w4⟩, w6⟩ := hw
  have hg : GoodIn (tw_wds M) (va_wsS M.1.cls i M'.1 (tw_wds M')) := tw_goodIn (by
    intro w hw
    rcases List.mem_append.mp hw with hw | hw
    · simp only [List.mem_cons, List.not_mem_nil, or_false] at hw
      rcases hw with rfl | rfl | rfl <;> assumption
    · exact tw_wds_in w4 w hw)
  exact va_runS (As := as.map (tw_v G)) ⟨X.1, X.2.1, X.2.2.2.1, X.2.2.2.2.1, hws⟩ hM (va_cwS n hws hg rfl rfl rfl w6 ⟨hdd, by show 8 + (M'.2.2.1 + 11) + 64 * d' ≤ 64 * d; omega⟩) ⟨tw_blind, fun U hU hW => tw_pre (av := as) X hP hS hB hz U hU hW⟩ rfl (by rw [List.length_map]; exact hn') hl.1 (by simp [List.map_append, List.map_reverse, tw_v, va_rf]) (tw_lvroom hst) dd ⟨hm.1, hm.2⟩
theorem ar_callI {i mc' ms' d' n : Nat} {M' : tM} {as : List tV} {P' : Option tV → tH → Prop} {a : Nat} (hd : M.2.2.2.2[k]? = some (pc, .invokespecial i, nx, tg)) (hw : tw_LI M.1.cls i M' n) (hM : tw_M l G d' mc' ms' M' (vr (some a) :: as) h P') (hn' : as.length = n) (hdd : d' + 1 ≤ d) (hL : M'.2.2.1 ≤ 45) (hm : h.2.2.2 - n0 + mc' ≤ mc ∧ c2 + ms' ≤ ms) (hst : (st.map tw_w).sum ≤ 8) (kk : ∀ r h', P' r h' → tw_AW l G M d mc ms n0 (c2 + ms') P nx ls (r.toList ++ st) h') : tw_AW l G M d mc ms n0 c2 P pc ls (as.reverse ++ vr (some a) :: st) h := by
  intro p e s m args below meth c H locs ls' X hl hP hS h0 hn
  obtain ⟨dd, e1⟩ := tw_dec X hd rfl
  subst e1
  have hB : h.2.2.2 + mc' < 1000000 := by have := X.2.2.2.2.2.2.2.2.2.1; omega
  have hws : ∀ w ∈ tw_wds M, w.before args s = true := X.2.2.2.2.2.1
  refine tw_run (mc' := mc') (ms' := ms') (P' := P') (av := ((vr (some a) :: as).map (tw_v G)).toArray) X hl hP hS h0 hn hB (fun hz => ?_) kk
  obtain ⟨⟨w1, w2, w3, w4⟩, ⟨hC, hC2⟩, w6⟩ := hw
  have hg : GoodIn (tw_wds M) (tw_wds M') := tw_goodIn (tw_wds_in w4)
  have hw' : tw_wds M' = Cond.code M'.1 M'.2.1 M'.2.2.1 none :: tw_tbl := by rw [← hC2]; rfl
  exact va_runI (As := as.map (tw_v G)) ⟨X.1, X.2.1, X.2.2.2.1, X.2.2.2.2.1, hws⟩ hM (cwI n hws hg hw' rfl rfl (hws _ (List.mem_cons_of_mem _ w3)) (hws _ (List.mem_cons_of_mem _ w1)) (hws _ (List.mem_cons_of_mem _ w2)) hC w6 ⟨hdd, by show 8 + (M'.2.2.1 + 11) + 64 * d' ≤ 64 * d; omega⟩) ⟨tw_blind, fun U hU hW => tw_pre (av := vr (some a) :: as) X hP hS hB hz U hU hW⟩ rfl (by rw [List.length_map]; exact hn') hl.1 (by simp [List.map_append, List.map_reverse, tw_v, va_rf]) (tw_lvroom hst) dd ⟨hm.1, hm.2⟩
end AR3
end
section
section AR4
variable {l : Launch} {G : tG} {M : tM} {d mc ms n0 c2 : Nat} {P : Option tV → tH → Prop} {ls : List (Nat × tV)} {st : List tV} {h : tH} {k pc nx tg : Nat}
theorem tw_end {p : Program} {s : State} {m : MethodId} {args : Array Value} {meth : Method} {c : Code} {H : Heap} {locs : List Loc} (X : tw_X l G M n0 mc p s m args meth c) (hP : va_P G.1 tCl (tw_ws G h) H) (hS : va_S (tw_A G) s.heap H locs) (hc : h.2.2.2 = n0 + mc) (r : Option tV) (hp : P r h) : ∀ t : State, t.heap = H → s.WarmedH t.vm → tw_Q G P mc args s (.returned (r.map (tw_v G))) t :=
  fun t ht _ => ⟨r, h, rfl, hp, by rw [ht]; exact hP, by rw [X.2.2.2.2.2.2.2.2.1, hc]; omega, hS.F ht⟩
theorem ar_iret {x : Int} (hd : M.2.2.2.2[k]? = some (pc, .ireturn, nx, tg)) (hr : M.2.2.2.1 = some .int) (hc : h.2.2.2 = n0 + mc) (hs : c2 ≤ ms) (hp : P (some (vi x)) h) : tw_AW l G M d mc ms n0 c2 P pc ls [vi x] h := by
  intro p e s m args below meth c H locs ls' X hl hP hS h0 hn
  obtain ⟨dd, e1⟩ := tw_dec X hd rfl
  subst e1
  have ec : h.2.2.2 - n0 = mc := by omega
  rw [ec]
  refine W.widen (k := mc) (n := ms) (Nat.le_refl _) hs ?_
  exact W.iret X.1 X.2.1 (X.2.2.1.trans hr) (tw_end X hP hS hc (some (vi x)) hp) hS.2.2 dd X.2.2.2.2.2.2.2.1
theorem ar_zret {x : Int} (hd : M.2.2.2.2[k]? = some (pc, .ireturn, nx, tg)) (hr : M.2.2.2.1 = some .boolean) (hx : 0 ≤ x ∧ x ≤ 1) (hc : h.2.2.2 = n0 + mc) (hs : c2 ≤ ms) (hp : P (some (vi x)) h) : tw_AW l G M d mc ms n0 c2 P pc ls [vi x] h := by
  intro p e s m args below meth c H locs ls' X hl hP hS h0 hn
  obtain ⟨dd, e1⟩ := tw_dec X hd rfl
  subst e1
  have ec : h.2.2.2 - n0 = mc := by omega
  rw [ec]
  refine W.widen (k := mc) (n := ms) (Nat.le_refl _) hs ?_
  exact W.zret X.1 X.2.1 (X.2.2.1.trans hr) (by rcases (show x = 0 ∨ x = 1 by omega) with rfl | rfl <;> rfl) (tw_end X hP hS hc (some (vi x)) hp) hS.2.2 dd X.2.2.2.2.2.2.2.1
theorem ar_lret {x : Int} (hd : M.2.2.2.2[k]? = some (pc, .lreturn, nx, tg)) (hr : M.2.2.2.1 = some .long) (hc : h.2.2.2 = n0 + mc) (hs : c2 ≤ ms) (hp : P (some (vl x)) h) : tw_AW l G M d mc ms n0 c2 P pc ls [vl x] h := by
  intro p e s m args below meth c H locs ls' X hl hP hS h0 hn
  obtain ⟨dd, e1⟩ := tw_dec X hd rfl
  subst e1
  have ec : h.2.2.2 - n0 = mc := by omega
  rw [ec]
  refine W.widen (k := mc) (n := ms) (Nat.le_refl _) hs ?_
  exact W.lret X.1 X.2.1 (X.2.2.1.trans hr) (tw_end X hP hS hc (some (vl x)) hp) hS.2.2 dd X.2.2.2.2.2.2.2.1
theorem ar_ret (hd : M.2.2.2.2[k]? = some (pc, .return_, nx, tg)) (hr : M.2.2.2.1 = none) (hc : h.2.2.2 = n0 + mc) (hs : c2 ≤ ms) (hp : P none h) : tw_AW l G M d mc ms n0 c2 P pc ls [] h := by
  intro p e s m args below meth c H locs ls' X hl hP hS h0 hn
  obtain ⟨dd, e1⟩ := tw_dec X hd rfl
  subst e1
  have ec : h.2.2.2 - n0 = mc := by omega
  rw [ec]
  refine W.widen (k := mc) (n := ms) (Nat.le_refl _) hs ?_
  exact W.vret X.1 X.2.1 (X.2.2.1.trans hr) (tw_end X hP hS hc none hp) hS.2.2 dd X.2.2.2.2.2.2.2.1
theorem ar_aret {r : Option Nat} {nm : String} (hd : M.2.2.2.2[k]? = some (pc, .areturn, nx, tg)) (hr : M.2.2.2.1 = some (.object nm)) (hc : h.2.2.2 = n0 + mc) (hs : c2 ≤ ms) (hp : P (some (vr r)) h) : tw_AW l G M d mc ms n0 c2 P pc ls [vr r] h := by
  intro p e s m args below meth c H locs ls' X hl hP hS h0 hn
  obtain ⟨dd, e1⟩ := tw_dec X hd rfl
  subst e1
  have ec : h.2.2.2 - n0 = mc := by omega
  rw [ec]
  refine W.widen (k := mc) (n := ms) (Nat.le_refl _) hs ?_
  exact W.aret X.1 X.2.1 (X.2.2.1.trans hr) (Or.inl ⟨nm, rfl⟩) (va_rf_or _) (tw_end X hP hS hc (some (vr r)) hp) hS.2.2 dd X.2.2.2.2.2.2.2.1
theorem ar_objInit {i a : Nat} (hd : M.2.2.2.2[k]? = some (pc, .invokespecial i, nx, tg)) (hw : Cond.methodLink M.1.cls i Lib.objectInit ∈ tw_tbl) (h1 : Cond.instanceMethod Lib.objectInit ∈ tw_tbl) (h2 : Cond.code Lib.objectInit ⟨#[0xb1]⟩ 1 none ∈ tw_tbl) (hdd : 1 ≤ d) (hst : (st.map tw_w).sum ≤ 8) (kk : tw_AW l G M d mc ms n0 c2 P nx ls st h) : tw_AW l G M d mc ms n0 c2 P pc ls (vr (some a) :: st) h := by
  intro p e s m args below meth c H locs ls' X hl hP hS h0 hn
  obtain ⟨dd, e1⟩ := tw_dec X hd rfl
  subst e1
  have K := kk p e s m args below meth c H locs ls' X hl hP hS h0 hn
  have hws : ∀ w ∈ tw_tbl, w.before args s = true := fun w h => X.2.2.2.2.2.1 w (List.mem_cons_of_mem _ h)
  refine W.objInit X.1 X.2.1 X.2.2.2.2.1 (hws _ hw) (hws _ h1) (hws _ h2) (g := F0 m pc ls' _) rfl (hl.1.trans X.2.2.2.1.symm) rfl dd ?_ ?_ K
  · exact hdd
  · have := tw_lvroom (G := G) (m := m) (pc := pc) (ls' := ls') (st0 := (vr (some a) :: st).map (tw_v G)) hst
    show _ + 12 ≤ 64 * d
    have e : 2 * (F0 m pc ls' ((vr (some a) :: st).map (tw_v G))).monitorRoom + ((st.map (tw_v G)).map fun v => v.category).sum ≤ 8 := this
    omega
def tw_args : Nat → List tV → List (Nat × tV)
  | _, [] => []
  | i, v :: vs => (i, v) :: tw_args (if tw_w v = 2 then i + 2 else i + 1) vs
theorem tw_args_L (G : tG) : ∀ (vs : List tV) (i : Nat), lv_args i (vs.map (tw_v G)) = tw_L G (tw_args i vs)
  | [], _ => rfl
  | v :: vs, i => by
    simp only [List.map_cons, lv_args, tw_args, tw_L, tw_v_cat]
    rw [tw_args_L G vs]
theorem tw_sl_len (G : tG) : ∀ (vs : List tV), (lg_sl (vs.map (tw_v G))).length = (vs.map tw_w).sum
  | [] => rfl
  | v :: vs => by
    have ih := tw_sl_len G vs
    simp only [lg_sl] at ih
    simp only [lg_sl, List.map_cons, List.flatMap_cons, List.length_append, List.sum_cons, ih, tw_v_cat]
    congr 1
    rcases v with z | r | z <;> simp [tw_w]
def tw_ok (M : tM) : Prop := (plainName M.1.cls = true ∧ M.2.2.2.2.all (tw_okI M.2.1) = true)
/-- a contract, out of a walk of the body -/
theorem tw_intro {av : List tV} (hM : tw_ok M) (ha : (av.map tw_w).sum ≤ M.2.2.1) (body : tw_AW l G M d mc ms h.2.2.2 0 P 0 (tw_args 0 av) [] h) : tw_M l G d mc ms M av h P := by
  refine Met.ofW (cc := M.2.1) (maxL := M.2.2.1) (ret := M.2.2.2.1) hM.1 rfl ?_
  intro p e s m args below meth c s₁ B hml hv
  obtain ⟨rfl, hP, hz, hU, hb⟩ := hv
  have hl := lv_entry (av.map (tw_v G)) (n := M.2.2.1) (by rw [tw_sl_len]; exact ha)
  rw [tw_args_L] at hl
  rw [lg_entry_eq]
  have K := body p e s m ((av.map (tw_v G)).toArray) below meth c s.heap [] _ ⟨B.exec, B.bytes, B.returns, hml, findClass_of_methodNamed B.named, atoms_spec (ws := tw_wds M) B.pre, hU, B.notSynchronized, hz, hb, (name_of_methodNamed B.named B.method).1, fun q hq => List.all_eq_true.mp hM.2 q hq⟩ hl hP va_S.rf (Nat.le_refl _) (by omega)
  rw [Nat.sub_self] at K
  exact K
end AR4
end
section
def zK (K : Nat → Nat × Nat) (n : Nat) (q : Nat × Nat) : Nat → Nat × Nat := fun b => if b = n then q else K b
def zI (I : Nat → Int → Int) (n : Nat) : Nat → Int → Int := fun b => if b = n then fun _ => 0 else I b
def zQ (Q : Nat → Int → Option Nat) (n : Nat) : Nat → Int → Option Nat := fun b => if b = n then fun _ => none else Q b
/-- a heap with one cell more -/
abbrev hNw (h : tH) (q : Nat × Nat) : tH := (zK h.1 h.2.2.2 q, zI h.2.1 h.2.2.2, zQ h.2.2.1 h.2.2.2, h.2.2.2 + 1)
theorem tw_c_hNw {G : tG} {h : tH} {q : Nat × Nat} {b : Nat} (hb : b < h.2.2.2) : tw_c G (hNw h q) b = tw_c G h b := by
  have e1 : zK h.1 h.2.2.2 q b = h.1 b := if_neg (by omega)
  have e2 : zI h.2.1 h.2.2.2 b = h.2.1 b := if_neg (by omega)
  have e3 : zQ h.2.2.1 h.2.2.2 b = h.2.2.1 b := if_neg (by omega)
  unfold tw_c tw_fv
  simp only [e1, e2, e3]
section AR5
variable {l : Launch} {G : tG} {M : tM} {d mc ms n0 c2 : Nat} {P : Option tV → tH → Prop} {ls : List (Nat × tV)} {st : List tV} {h : tH} {k pc nx tg : Nat}
/-- what is made lies behind what there was -/
theorem tw_fresh {p : Program} {e : Env} {s : State} {m : MethodId} {args : Array Value} {below : List Frame} {meth : Method} {c : Code} {H1 : Heap} {locs : List Loc} {slots q : Nat} {x : va_E} {R : Room} {T : State} {D : va_G} {cl : List vw_C}
    (hsz : s.heap.size = G.2.2.1 + n0) (h0 : n0 ≤ h.2.2.2) (hn : h.2.2.2 < 1000000) (hP1 : va_P D cl (tw_ws G h ++ [(q, x)]) H1) (hD1 : va_D (tw_A G) (tw_ws G h ++ [(q, x)])) (hT : T.heap = H1) (Y : Stand p l e R s m args below meth c T locs (h.2.2.2 - n0 + 1) slots) : q = tw_ad G h.2.2.2 := by
  have e0 : (tw_ws G h ++ [(q, x)])[h.2.2.2]? = some (q, x) := by
    rw [List.getElem?_append_right (by simp [tw_ws])]
    simp [tw_ws]
  have h1 : q < H1.size := (hP1 _ _ e0).lt
  have h2 := Y.heapSize
  rw [hT] at h2
  have h3 : G.2.2.1 ≤ q := hD1.2 _ _ e0
  rw [tw_ad_lt hn]
  by_cases hq : q = G.2.2.1 + h.2.2.2
  · exact hq
  · exfalso
    have hb : q - G.2.2.1 < h.2.2.2 := by omega
    have e2 : (tw_ws G h ++ [(q, x)])[q - G.2.2.1]? = some (tw_ad G (q - G.2.2.1), tw_c G h (q - G.2.2.1)) := by
      rw [List.getElem?_append_left (by simp [tw_ws]; exact hb)]
      exact tw_ws_get hb
    have := hD1.1 _ _ _ _ e0 e2 (by rw [tw_ad_lt (by omega)]; omega)
    omega
theorem ar_new {i ci N : Nat} {C : String} {T : u_T} (hd : M.2.2.2.2[k]? = some (pc, .new i, nx, tg)) (hw : Cond.classLink M.1.cls i C ∈ tw_tbl) (hc : tCl[ci]? = some (C, T, N)) (hty : ∀ j, j < N → ∃ ty, parseFieldDescriptor (T j).2.2.1 = some ty ∧ defaultValue ty = (if tRef ci j = true then .null else .int 0)) (hm : h.2.2.2 - n0 + 1 ≤ mc ∧ c2 + N ≤ ms) (kk : tw_AW l G M d mc ms n0 (c2 + N) P nx ls (vr (some h.2.2.2) :: st) (hNw h (ci, N))) : tw_AW l G M d mc ms n0 c2 P pc ls st h := by
  intro p e s m args below meth c H locs ls' X hl hP hS h0 hn
  obtain ⟨dd, e1⟩ := tw_dec X hd rfl
  subst e1
  have hws : ∀ w ∈ tw_tbl, w.before args s = true := fun w h => X.2.2.2.2.2.1 w (List.mem_cons_of_mem _ h)
  obtain ⟨z1, ⟨ty, z2⟩, z3, z4, z5⟩ := tw_cls hc
  have hA : ∀ q, s.heap.size ≤ q → tw_A G q := fun q hq => by show G.2.2.1 ≤ q; rw [X.2.2.2.2.2.2.2.2.1] at hq; omega
  have hB := X.2.2.2.2.2.2.2.2.2.1
  refine va_new (ci := ci) (fs := (List.range N).map (tw_fv G (hNw h (ci, N)) h.2.2.2)) X.1 X.2.1 hws z1 ty z2 X.2.2.2.2.1 (hws _ hw) (hws _ z4) (hws _ z5) X.2.2.2.2.2.2.1.1 hP (tw_ws_D hn) hS hA hc ?_ hm.1 hm.2 dd (fun q H1 hP1 hD1 hS1 => ?_)
  · intro j hj
    obtain ⟨t1, y1, y2⟩ := hty j hj
    have : ty j = t1 := Option.some.inj ((z2 j hj).symm.trans y1)
    rw [this, y2]
    have e1 : zK h.1 h.2.2.2 (ci, N) h.2.2.2 = (ci, N) := if_pos rfl
    have e2 : zI h.2.1 h.2.2.2 h.2.2.2 = fun _ => 0 := if_pos rfl
    have e3 : zQ h.2.2.1 h.2.2.2 h.2.2.2 = fun _ => none := if_pos rfl
    simp only [vp_V, List.getD_eq_getElem?_getD, List.getElem?_map, List.getElem?_range hj, Option.map_some, Option.getD_some, tw_fv, e1, e2, e3]
    rfl
  · intro T' hT Y
    have hq := tw_fresh X.2.2.2.2.2.2.2.2.1 h0 hn hP1 hD1 hT Y
    subst hq
    have e2 : tw_ws G h ++ [(tw_ad G h.2.2.2, .inr (ci, (List.range N).map (tw_fv G (hNw h (ci, N)) h.2.2.2)))] = tw_ws G (hNw h (ci, N)) :=
      tw_ws_push rfl (tw_c_obj (h := hNw h (ci, N)) (if_pos rfl) (tw_tcl_len hc)) (fun b hb => tw_c_hNw hb)
    rw [e2] at hP1
    have K := kk p e s m args below meth c H1 locs ls' X hl hP1 hS1 (by show n0 ≤ h.2.2.2 + 1; omega) (by show h.2.2.2 + 1 < 1000000; omega)
    rw [show (hNw h (ci, N)).2.2.2 - n0 = h.2.2.2 - n0 + 1 by show h.2.2.2 + 1 - n0 = _; omega] at K
    exact K T' hT Y
theorem ar_newa_int {N : Nat} {z : Int} (hd : M.2.2.2.2[k]? = some (pc, .newarray .int, nx, tg)) (hw : Cond.arrayClass .int ∈ tw_tbl) (hz : z = (N : Int)) (hN : N < 10000) (hm : h.2.2.2 - n0 + 1 ≤ mc ∧ c2 + N ≤ ms) (kk : tw_AW l G M d mc ms n0 (c2 + N) P nx ls (vr (some h.2.2.2) :: st) (hNw h (14, N))) : tw_AW l G M d mc ms n0 c2 P pc ls (vi z :: st) h := by
  intro p e s m args below meth c H locs ls' X hl hP hS h0 hn
  obtain ⟨dd, e1⟩ := tw_dec X hd rfl
  subst e1
  have hws : ∀ w ∈ tw_tbl, w.before args s = true := fun w h => X.2.2.2.2.2.1 w (List.mem_cons_of_mem _ h)
  have hA : ∀ q, s.heap.size ≤ q → tw_A G q := fun q hq => by show G.2.2.1 ≤ q; rw [X.2.2.2.2.2.2.2.2.1] at hq; omega
  have hB := X.2.2.2.2.2.2.2.2.2.1
  subst hz
  have ht : tr (N : Int) := ⟨by omega, by omega⟩
  refine va_newa (atype := .int) (n := Int32.ofInt (N : Int)) (N' := N) (a0 := (N, .inl (fun _ => 0))) X.1 X.2.1 (hws _ hw) (ty := .int) rfl X.2.2.2.2.2.2.1.1 hP (tw_ws_D hn) hS hA (fun cA => rfl) (fun q => by have := (tr_lt ht (by decide : tr 0)).mp q; omega) (by show (Int32.ofInt (N : Int)).toInt.toNat = N; rw [tr_id ht]; omega) (by show N * _ ≤ _; simp only [componentBytes]; omega) hm.1 hm.2 dd (fun q cA H1 hK1 hP1 hD1 hS1 => ?_)
  have hcA : cA = G.2.1 14 := by
    have f1 := (hK1.2 6 (cA, .int) rfl).2
    have f2 := (X.2.2.2.2.2.2.1.1.2 1 (G.2.1 14, .int) rfl).2
    exact Option.some.inj (f1.symm.trans f2)
  subst hcA
  intro T' hT Y
  have hq := tw_fresh X.2.2.2.2.2.2.2.2.1 h0 hn hP1 hD1 hT Y
  subst hq
  have e2 : tw_ws G h ++ [(tw_ad G h.2.2.2, .inl (G.2.1 14, N, .inl (fun _ => 0)))] = tw_ws G (hNw h (14, N)) := by
    refine tw_ws_push rfl ?_ (fun b hb => tw_c_hNw hb)
    rw [tw_c_int (h := hNw h (14, N)) (ci := 14) (N := N) (if_pos rfl) (by decide) (by decide)]
    have e3 : zI h.2.1 h.2.2.2 h.2.2.2 = fun _ => 0 := if_pos rfl
    simp only [e3]
    rfl
  rw [e2] at hP1
  have K := kk p e s m args below meth c H1 locs ls' X hl hP1 hS1 (by show n0 ≤ h.2.2.2 + 1; omega) (by show h.2.2.2 + 1 < 1000000; omega)
  rw [show (hNw h (14, N)).2.2.2 - n0 = h.2.2.2 - n0 + 1 by show h.2.2.2 + 1 - n0 = _; omega] at K
  exact K T' hT Y
theorem ar_newa_byte {N : Nat} {z : Int} (hd : M.2.2.2.2[k]? = some (pc, .newarray .byte, nx, tg)) (hw : Cond.arrayClass .byte ∈ tw_tbl) (hz : z = (N : Int)) (hN : N < 10000) (hm : h.2.2.2 - n0 + 1 ≤ mc ∧ c2 + N ≤ ms) (kk : tw_AW l G M d mc ms n0 (c2 + N) P nx ls (vr (some h.2.2.2) :: st) (hNw h (13, N))) : tw_AW l G M d mc ms n0 c2 P pc ls (vi z :: st) h := by
  intro p e s m args below meth c H locs ls' X hl hP hS h0 hn
  obtain ⟨dd, e1⟩ := tw_dec X hd rfl
  subst e1
  have hws : ∀ w ∈ tw_tbl, w.before args s = true := fun w h => X.2.2.2.2.2.1 w (List.mem_cons_of_mem _ h)
  have hA : ∀ q, s.heap.size ≤ q → tw_A G q := fun q hq => by show G.2.2.1 ≤ q; rw [X.2.2.2.2.2.2.2.2.1] at hq; omega
  have hB := X.2.2.2.2.2.2.2.2.2.1
  subst hz
  have ht : tr (N : Int) := ⟨by omega, by omega⟩
  refine va_newa (atype := .byte) (n := Int32.ofInt (N : Int)) (N' := N) (a0 := (N, .inl (fun _ => 0))) X.1 X.2.1 (hws _ hw) (ty := .byte) rfl X.2.2.2.2.2.2.1.1 hP (tw_ws_D hn) hS hA (fun cA => rfl) (fun q => by have := (tr_lt ht (by decide : tr 0)).mp q; omega) (by show (Int32.ofInt (N : Int)).toInt.toNat = N; rw [tr_id ht]; omega) (by show N * _ ≤ _; simp only [componentBytes]; omega) hm.1 hm.2 dd (fun q cA H1 hK1 hP1 hD1 hS1 => ?_)
  have hcA : cA = G.2.1 13 := by
    have f1 := (hK1.2 6 (cA, .byte) rfl).2
    have f2 := (X.2.2.2.2.2.2.1.1.2 0 (G.2.1 13, .byte) rfl).2
    exact Option.some.inj (f1.symm.trans f2)
  subst hcA
  intro T' hT Y
  have hq := tw_fresh X.2.2.2.2.2.2.2.2.1 h0 hn hP1 hD1 hT Y
  subst hq
  have e2 : tw_ws G h ++ [(tw_ad G h.2.2.2, .inl (G.2.1 13, N, .inl (fun _ => 0)))] = tw_ws G (hNw h (13, N)) := by
    refine tw_ws_push rfl ?_ (fun b hb => tw_c_hNw hb)
    rw [tw_c_int (h := hNw h (13, N)) (ci := 13) (N := N) (if_pos rfl) (by decide) (by decide)]
    have e3 : zI h.2.1 h.2.2.2 h.2.2.2 = fun _ => 0 := if_pos rfl
    simp only [e3]
    rfl
  rw [e2] at hP1
  have K := kk p e s m args below meth c H1 locs ls' X hl hP1 hS1 (by show n0 ≤ h.2.2.2 + 1; omega) (by show h.2.2.2 + 1 < 1000000; omega)
  rw [show (hNw h (13, N)).2.2.2 - n0 = h.2.2.2 - n0 + 1 by show h.2.2.2 + 1 - n0 = _; omega] at K
  exact K T' hT Y
theorem ar_newa_boolean {N : Nat} {z : Int} (hd : M.2.2.2.2[k]? = some (pc, .newarray .boolean, nx, tg)) (hw : Cond.arrayClass .boolean ∈ tw_tbl) (hz : z = (N : Int)) (hN : N < 10000) (hm : h.2.2.2 - n0 + 1 ≤ mc ∧ c2 + N ≤ ms) (kk : tw_AW l G M d mc ms n0 (c2 + N) P nx ls (vr (some h.2.2.2) :: st) (hNw h (15, N))) : tw_AW l G M d mc ms n0 c2 P pc ls (vi z :: st) h := by
  intro p e s m args below meth c H locs ls' X hl hP hS h0 hn
  obtain ⟨dd, e1⟩ := tw_dec X hd rfl
  subst e1
  have hws : ∀ w ∈ tw_tbl, w.before args s = true := fun w h => X.2.2.2.2.2.1 w (List.mem_cons_of_mem _ h)
  have hA : ∀ q, s.heap.size ≤ q → tw_A G q := fun q hq => by show G.2.2.1 ≤ q; rw [X.2.2.2.2.2.2.2.2.1] at hq; omega
  have hB := X.2.2.2.2.2.2.2.2.2.1
  subst hz
  have ht : tr (N : Int) := ⟨by omega, by omega⟩
  refine va_newa (atype := .boolean) (n := Int32.ofInt (N : Int)) (N' := N) (a0 := (N, .inl (fun _ => 0))) X.1 X.2.1 (hws _ hw) (ty := .boolean) rfl X.2.2.2.2.2.2.1.1 hP (tw_ws_D hn) hS hA (fun cA => rfl) (fun q => by have := (tr_lt ht (by decide : tr 0)).mp q; omega) (by show (Int32.ofInt (N : Int)).toInt.toNat = N; rw [tr_id ht]; omega) (by show N * _ ≤ _; simp only [componentBytes]; omega) hm.1 hm.2 dd (fun q cA H1 hK1 hP1 hD1 hS1 => ?_)
  have hcA : cA = G.2.1 15 := by
    have f1 := (hK1.2 6 (cA, .boolean) rfl).2
    have f2 := (X.2.2.2.2.2.2.1.1.2 2 (G.2.1 15, .boolean) rfl).2
    exact Option.some.inj (f1.symm.trans f2)
  subst hcA
  intro T' hT Y
  have hq := tw_fresh X.2.2.2.2.2.2.2.2.1 h0 hn hP1 hD1 hT Y
  subst hq
  have e2 : tw_ws G h ++ [(tw_ad G h.2.2.2, .inl (G.2.1 15, N, .inl (fun _ => 0)))] = tw_ws G (hNw h (15, N)) := by
    refine tw_ws_push rfl ?_ (fun b hb => tw_c_hNw hb)
    rw [tw_c_int (h := hNw h (15, N)) (ci := 15) (N := N) (if_pos rfl) (by decide) (by decide)]
    have e3 : zI h.2.1 h.2.2.2 h.2.2.2 = fun _ => 0 := if_pos rfl
    simp only [e3]
    rfl
  rw [e2] at hP1
  have K := kk p e s m args below meth c H1 locs ls' X hl hP1 hS1 (by show n0 ≤ h.2.2.2 + 1; omega) (by show h.2.2.2 + 1 < 1000000; omega)
  rw [show (hNw h (15, N)).2.2.2 - n0 = h.2.2.2 - n0 + 1 by show h.2.2.2 + 1 - n0 = _; omega] at K
  exact K T' hT Y
theorem ar_anew_Hand {i N : Nat} {z : Int} (hd : M.2.2.2.2[k]? = some (pc, .anewarray i, nx, tg)) (hw : Cond.classLink M.1.cls i "TwinTools$Hand" ∈ tw_tbl) (hz : z = (N : Int)) (hN : N < 10000) (hm : h.2.2.2 - n0 + 1 ≤ mc ∧ c2 + N ≤ ms) (kk : tw_AW l G M d mc ms n0 (c2 + N) P nx ls (vr (some h.2.2.2) :: st) (hNw h (16, N))) : tw_AW l G M d mc ms n0 c2 P pc ls (vi z :: st) h := by
  intro p e s m args below meth c H locs ls' X hl hP hS h0 hn
  obtain ⟨dd, e1⟩ := tw_dec X hd rfl
  subst e1
  have hws : ∀ w ∈ tw_tbl, w.before args s = true := fun w h => X.2.2.2.2.2.1 w (List.mem_cons_of_mem _ h)
  have hA : ∀ q, s.heap.size ≤ q → tw_A G q := fun q hq => by show G.2.2.1 ≤ q; rw [X.2.2.2.2.2.2.2.2.1] at hq; omega
  have hB := X.2.2.2.2.2.2.2.2.2.1
  subst hz
  have ht : tr (N : Int) := ⟨by omega, by omega⟩
  refine va_newq (n := Int32.ofInt (N : Int)) (N' := N) X.1 X.2.1 X.2.2.2.2.1 (hws _ hw) X.2.2.2.2.2.2.1.2.2.2.2.1 X.2.2.2.2.2.2.1.1 hP (tw_ws_D hn) hS hA (fun q => by have := (tr_lt ht (by decide : tr 0)).mp q; omega) (by show (Int32.ofInt (N : Int)).toInt.toNat = N; rw [tr_id ht]; omega) (by omega) hm.1 hm.2 dd (fun q cA H1 hK1 hP1 hD1 hS1 => ?_)
  have hcA : cA = G.2.1 16 := by
    obtain ⟨_, _, _, _, _, f1⟩ := (hK1.2 6 (cA, .object "TwinTools$Hand") rfl).2
    obtain ⟨_, _, _, _, _, f2⟩ := (X.2.2.2.2.2.2.1.1.2 3 (G.2.1 16, .object "TwinTools$Hand") rfl).2
    exact Option.some.inj (f1.symm.trans f2)
  subst hcA
  intro T' hT Y
  have hq := tw_fresh X.2.2.2.2.2.2.2.2.1 h0 hn hP1 hD1 hT Y
  subst hq
  have e2 : tw_ws G h ++ [(tw_ad G h.2.2.2, .inl (G.2.1 16, N, .inr (.inr (.inr (.inr (fun _ => none))))))] = tw_ws G (hNw h (16, N)) := by
    refine tw_ws_push rfl ?_ (fun b hb => tw_c_hNw hb)
    rw [tw_c_ref (h := hNw h (16, N)) (ci := 16) (N := N) (if_pos rfl) (by decide)]
    have e3 : zQ h.2.2.1 h.2.2.2 h.2.2.2 = fun _ => none := if_pos rfl
    simp only [e3]
    rfl
  rw [e2] at hP1
  have K := kk p e s m args below meth c H1 locs ls' X hl hP1 hS1 (by show n0 ≤ h.2.2.2 + 1; omega) (by show h.2.2.2 + 1 < 1000000; omega)
  rw [show (hNw h (16, N)).2.2.2 - n0 = h.2.2.2 - n0 + 1 by show h.2.2.2 + 1 - n0 = _; omega] at K
  exact K T' hT Y
theorem ar_anew_Valley {i N : Nat} {z : Int} (hd : M.2.2.2.2[k]? = some (pc, .anewarray i, nx, tg)) (hw : Cond.classLink M.1.cls i "TwinTools$Valley" ∈ tw_tbl) (hz : z = (N : Int)) (hN : N < 10000) (hm : h.2.2.2 - n0 + 1 ≤ mc ∧ c2 + N ≤ ms) (kk : tw_AW l G M d mc ms n0 (c2 + N) P nx ls (vr (some h.2.2.2) :: st) (hNw h (17, N))) : tw_AW l G M d mc ms n0 c2 P pc ls (vi z :: st) h := by
  intro p e s m args below meth c H locs ls' X hl hP hS h0 hn
  obtain ⟨dd, e1⟩ := tw_dec X hd rfl
  subst e1
  have hws : ∀ w ∈ tw_tbl, w.before args s = true := fun w h => X.2.2.2.2.2.1 w (List.mem_cons_of_mem _ h)
  have hA : ∀ q, s.heap.size ≤ q → tw_A G q := fun q hq => by show G.2.2.1 ≤ q; rw [X.2.2.2.2.2.2.2.2.1] at hq; omega
  have hB := X.2.2.2.2.2.2.2.2.2.1
  subst hz
  have ht : tr (N : Int) := ⟨by omega, by omega⟩
  refine va_newq (n := Int32.ofInt (N : Int)) (N' := N) X.1 X.2.1 X.2.2.2.2.1 (hws _ hw) X.2.2.2.2.2.2.1.2.2.2.2.2.1 X.2.2.2.2.2.2.1.1 hP (tw_ws_D hn) hS hA (fun q => by have := (tr_lt ht (by decide : tr 0)).mp q; omega) (by show (Int32.ofInt (N : Int)).toInt.toNat = N; rw [tr_id ht]; omega) (by omega) hm.1 hm.2 dd (fun q cA H1 hK1 hP1 hD1 hS1 => ?_)
  have hcA : cA = G.2.1 17 := by
    obtain ⟨_, _, _, _, _, f1⟩ := (hK1.2 6 (cA, .object "TwinTools$Valley") rfl).2
    obtain ⟨_, _, _, _, _, f2⟩ := (X.2.2.2.2.2.2.1.1.2 4 (G.2.1 17, .object "TwinTools$Valley") rfl).2
    exact Option.some.inj (f1.symm.trans f2)
  subst hcA
  intro T' hT Y
  have hq := tw_fresh X.2.2.2.2.2.2.2.2.1 h0 hn hP1 hD1 hT Y
  subst hq
  have e2 : tw_ws G h ++ [(tw_ad G h.2.2.2, .inl (G.2.1 17, N, .inr (.inr (.inr (.inr (fun _ => none))))))] = tw_ws G (hNw h (17, N)) := by
    refine tw_ws_push rfl ?_ (fun b hb => tw_c_hNw hb)
    rw [tw_c_ref (h := hNw h (17, N)) (ci := 17) (N := N) (if_pos rfl) (by decide)]
    have e3 : zQ h.2.2.1 h.2.2.2 h.2.2.2 = fun _ => none := if_pos rfl
    simp only [e3]
    rfl
  rw [e2] at hP1
  have K := kk p e s m args below meth c H1 locs ls' X hl hP1 hS1 (by show n0 ≤ h.2.2.2 + 1; omega) (by show h.2.2.2 + 1 < 1000000; omega)
  rw [show (hNw h (17, N)).2.2.2 - n0 = h.2.2.2 - n0 + 1 by show h.2.2.2 + 1 - n0 = _; omega] at K
  exact K T' hT Y
theorem ar_inst {i a ci N : Nat} {C nm : String} {T : u_T} {b : Int} (hd : M.2.2.2.2[k]? = some (pc, .instanceof i, nx, tg)) (hw : Cond.classLink M.1.cls i nm ∈ tw_tbl) (hk : tK h a (ci, N)) (hc : tCl[ci]? = some (C, T, N)) (hb : (b = 1 ∧ (C = nm ∨ (C, nm) ∈ castL)) ∨ (b = 0 ∧ (C, nm) ∈ ncL)) (kk : tw_AW l G M d mc ms n0 c2 P nx ls (vi b :: st) h) : tw_AW l G M d mc ms n0 c2 P pc ls (vr (some a) :: st) h := by
  intro p e s m args below meth c H locs ls' X hl hP hS h0 hn
  obtain ⟨dd, e1⟩ := tw_dec X hd rfl
  subst e1
  have hws : ∀ w ∈ tw_tbl, w.before args s = true := fun w h => X.2.2.2.2.2.1 w (List.mem_cons_of_mem _ h)
  have K := kk p e s m args below meth c H locs ls' X hl hP hS h0 hn
  have hr := tw_recv (G := G) X.2.2.2.2.2.2.1.1 hP hk hc
  rcases hb with ⟨rfl, hb⟩ | ⟨rfl, hb⟩
  · rcases hb with rfl | hb
    · exact va_instS X.1 X.2.1 X.2.2.2.2.1 (hws _ hw) (X.2.2.2.2.2.2.1.1.1 ci _ hc).2 hr dd K
    · exact va_instY X.1 X.2.1 X.2.2.2.2.1 (hws _ hw) (X.2.2.2.2.2.2.1.2.2.1 _ hb) hr dd K
  · exact va_instNo X.1 X.2.1 X.2.2.2.2.1 (hws _ hw) (X.2.2.2.2.2.2.1.2.2.2.1 _ hb) hr dd K
theorem ar_tswIn {dflt lo hi off : Int} {offs : Array Int} {z : Int} {t : Nat} (hd : M.2.2.2.2[k]? = some (pc, .tableswitch dflt lo hi offs, nx, tg)) (hz : tr z) (h1 : lo ≤ z) (h2 : z ≤ hi) (ho : offs[(z - lo).toNat]? = some off) (ht : (pc : Int) + off = (t : Int)) (kk : tw_AW l G M d mc ms n0 c2 P t ls st h) : tw_AW l G M d mc ms n0 c2 P pc ls (vi z :: st) h := by
  intro p e s m args below meth c H locs ls' X hl hP hS h0 hn
  have dd := tw_sw X hd
  exact lv_tableIn X.1 X.2.1 dd (by rw [tr_id hz]; omega) (by rw [tr_id hz]; omega) (by rw [tr_id hz]; exact ho) ht (kk p e s m args below meth c H locs ls' X hl hP hS h0 hn)
theorem ar_tswOut {dflt lo hi : Int} {offs : Array Int} {z : Int} {t : Nat} (hd : M.2.2.2.2[k]? = some (pc, .tableswitch dflt lo hi offs, nx, tg)) (hz : tr z) (h1 : z < lo ∨ hi < z) (ht : (pc : Int) + dflt = (t : Int)) (kk : tw_AW l G M d mc ms n0 c2 P t ls st h) : tw_AW l G M d mc ms n0 c2 P pc ls (vi z :: st) h := by
  intro p e s m args below meth c H locs ls' X hl hP hS h0 hn
  have dd := tw_sw X hd
  exact lv_tableOut X.1 X.2.1 dd (by rw [tr_id hz]; exact h1) ht (kk p e s m args below meth c H locs ls' X hl hP hS h0 hn)
theorem ar_lsw {dflt off : Int} {ps : Array (Int × Int)} {z : Int} {t : Nat} (hd : M.2.2.2.2[k]? = some (pc, .lookupswitch dflt ps, nx, tg)) (hz : tr z) (hp : (ps.toList.zip (ps.toList.drop 1)).all (fun (a, next) => a.1 < next.1) = true) (ho : Op.lookupswitch.offset ps.toList dflt z = off) (ht : (pc : Int) + off = (t : Int)) (kk : tw_AW l G M d mc ms n0 c2 P t ls st h) : tw_AW l G M d mc ms n0 c2 P pc ls (vi z :: st) h := by
  intro p e s m args below meth c H locs ls' X hl hP hS h0 hn
  have dd := tw_sw X hd
  exact lv_lookup X.1 X.2.1 dd hp (by rw [tr_id hz]; exact ho) ht (kk p e s m args below meth c H locs ls' X hl hP hS h0 hn)
def tcpy (f g : Int → Int) (n : Nat) : Int → Int := fun j => if 0 ≤ j ∧ j < n then f j else g j
def hC (h : tH) (a b n : Nat) : tH := (h.1, fun x => if x = b then tcpy (h.2.1 a) (h.2.1 b) n else h.2.1 x, h.2.2.1, h.2.2.2)
theorem ar_copyi {i a b N N' n : Nat} {z : Int} (hd : M.2.2.2.2[k]? = some (pc, .invokestatic i, nx, tg)) (hw : Cond.methodLink M.1.cls i arraycopyName ∈ tw_tbl ∧ Cond.native arraycopyName ∈ tw_tbl ∧ Cond.static arraycopyName ∈ tw_tbl ∧ Cond.initialized "java/lang/System" ∈ tw_tbl) (hka : tK h a (14, N)) (hkb : tK h b (14, N')) (hz : z = (n : Int)) (hN : n ≤ N ∧ n ≤ N' ∧ n < 10000) (hdd : 1 ≤ d) (hst : (st.map tw_w).sum ≤ 8) (kk : tw_AW l G M d mc ms n0 c2 P nx ls st (hC h a b n)) : tw_AW l G M d mc ms n0 c2 P pc ls (vi z :: vi 0 :: vr (some b) :: vi 0 :: vr (some a) :: st) h := by
  intro p e s m args below meth c H locs ls' X hl hP hS h0 hn
  obtain ⟨dd, e1⟩ := tw_dec X hd rfl
  subst e1
  have hws : ∀ w ∈ tw_tbl, w.before args s = true := fun w h => X.2.2.2.2.2.1 w (List.mem_cons_of_mem _ h)
  have ha := tw_ws_get (G := G) hka.2
  rw [tw_c_int hka.1 (by decide) (by decide)] at ha
  have hb := tw_ws_get (G := G) hkb.2
  rw [tw_c_int hkb.1 (by decide) (by decide)] at hb
  subst hz
  have ht : tr (n : Int) := ⟨by omega, by omega⟩
  have en : (Int32.ofInt (n : Int)).toNatClampNeg = n := by show (Int32.ofInt (n : Int)).toInt.toNat = n; rw [tr_id ht]; omega
  have e0 : (Int32.ofInt 0).toNatClampNeg = 0 := rfl
  refine va_copyi (sp := Int32.ofInt 0) (dp := Int32.ofInt 0) (n := Int32.ofInt (n : Int)) X.1 X.2.1 (X.2.2.2.1.trans hl.1.symm) X.2.2.2.2.1 (hws _ hw.1) (hws _ hw.2.1) (hws _ hw.2.2.1) (hws _ hw.2.2.2) X.2.2.2.2.2.2.1.1 hP (tw_ws_D hn) hS a b 1 1 ha hb rfl rfl rfl (by decide) (by decide) (fun q => by have := (tr_lt ht (by decide : tr 0)).mp q; omega) (by rw [en, e0]; omega) (by rw [en, e0]; omega) (fun i _ => rfl) hdd ?_ dd (fun H1 locs1 hP1 _ hS1 => ?_)
  · have := tw_cat_sum G st
    rw [this]
    show _ ≤ 64 * d
    have e : nativeFrameWords "java/lang/System" "arraycopy" 5 ≤ 40 := by decide
    omega
  · have e2 : (tw_ws G h).set b (tw_ad G b, .inl (G.2.1 14, N', .inl (va_cpy (fun j => Int32.ofInt (h.2.1 a (j : Int))) (fun j => Int32.ofInt (h.2.1 b (j : Int))) (Int32.ofInt 0).toNatClampNeg (Int32.ofInt 0).toNatClampNeg (Int32.ofInt (n : Int)).toNatClampNeg))) = tw_ws G (hC h a b n) := by
      refine tw_ws_set rfl hkb.2 ?_ (fun x hx => ?_)
      · rw [tw_c_int (h := hC h a b n) hkb.1 (by decide) (by decide), en, e0]
        congr 4
        funext j
        have e3 : (hC h a b n).2.1 b = tcpy (h.2.1 a) (h.2.1 b) n := if_pos rfl
        rw [e3]
        by_cases hj : j < n
        · have hj' : (0 : Int) ≤ (j : Int) ∧ (j : Int) < (n : Int) := by omega
          simp [va_cpy, tcpy, hj, hj']
        · have hj' : ¬ ((0 : Int) ≤ (j : Int) ∧ (j : Int) < (n : Int)) := by omega
          simp [va_cpy, tcpy, hj]
      · have e3 : (hC h a b n).2.1 x = h.2.1 x := if_neg hx
        unfold tw_c tw_fv
        simp only [e3]
        rfl
    rw [e2] at hP1
    exact kk p e s m args below meth c H1 locs1 ls' X hl hP1 hS1 h0 hn
theorem ar_copyb {i a b N N' n : Nat} {z : Int} (hd : M.2.2.2.2[k]? = some (pc, .invokestatic i, nx, tg)) (hw : Cond.methodLink M.1.cls i arraycopyName ∈ tw_tbl ∧ Cond.native arraycopyName ∈ tw_tbl ∧ Cond.static arraycopyName ∈ tw_tbl ∧ Cond.initialized "java/lang/System" ∈ tw_tbl) (hka : tK h a (13, N)) (hkb : tK h b (13, N')) (hz : z = (n : Int)) (hN : n ≤ N ∧ n ≤ N' ∧ n < 10000) (hf : ∀ j : Int, 0 ≤ j → j < n → -128 ≤ h.2.1 a j ∧ h.2.1 a j ≤ 127) (hdd : 1 ≤ d) (hst : (st.map tw_w).sum ≤ 8) (kk : tw_AW l G M d mc ms n0 c2 P nx ls st (hC h a b n)) : tw_AW l G M d mc ms n0 c2 P pc ls (vi z :: vi 0 :: vr (some b) :: vi 0 :: vr (some a) :: st) h := by
  intro p e s m args below meth c H locs ls' X hl hP hS h0 hn
  obtain ⟨dd, e1⟩ := tw_dec X hd rfl
  subst e1
  have hws : ∀ w ∈ tw_tbl, w.before args s = true := fun w h => X.2.2.2.2.2.1 w (List.mem_cons_of_mem _ h)
  have ha := tw_ws_get (G := G) hka.2
  rw [tw_c_int hka.1 (by decide) (by decide)] at ha
  have hb := tw_ws_get (G := G) hkb.2
  rw [tw_c_int hkb.1 (by decide) (by decide)] at hb
  subst hz
  have ht : tr (n : Int) := ⟨by omega, by omega⟩
  have en : (Int32.ofInt (n : Int)).toNatClampNeg = n := by show (Int32.ofInt (n : Int)).toInt.toNat = n; rw [tr_id ht]; omega
  have e0 : (Int32.ofInt 0).toNatClampNeg = 0 := rfl
  refine va_copyi (sp := Int32.ofInt 0) (dp := Int32.ofInt 0) (n := Int32.ofInt (n : Int)) X.1 X.2.1 (X.2.2.2.1.trans hl.1.symm) X.2.2.2.2.1 (hws _ hw.1) (hws _ hw.2.1) (hws _ hw.2.2.1) (hws _ hw.2.2.2) X.2.2.2.2.2.2.1.1 hP (tw_ws_D hn) hS a b 0 0 ha hb rfl rfl rfl (by decide) (by decide) (fun q => by have := (tr_lt ht (by decide : tr 0)).mp q; omega) (by rw [en, e0]; omega) (by rw [en, e0]; omega) (?_) hdd ?_ dd (fun H1 locs1 hP1 _ hS1 => ?_)
  · intro j hj
    rw [e0, Nat.zero_add]
    rw [en] at hj
    have hh := hf (j : Int) (by omega) (by omega)
    have hx : tr (h.2.1 a (j : Int)) := ⟨by omega, by omega⟩
    have q1 : (-128 : Int32) ≤ Int32.ofInt (h.2.1 a (j : Int)) := (tr_le (by decide : tr (-128)) hx).mpr hh.1
    have q2 : Int32.ofInt (h.2.1 a (j : Int)) ≤ (127 : Int32) := (tr_le hx (by decide : tr 127)).mpr hh.2
    show (decide ((-128 : Int32) ≤ Int32.ofInt (h.2.1 a (j : Int))) && decide (Int32.ofInt (h.2.1 a (j : Int)) ≤ 127)) = true
    simp [q1, q2]
  · have := tw_cat_sum G st
    rw [this]
    show _ ≤ 64 * d
    have e : nativeFrameWords "java/lang/System" "arraycopy" 5 ≤ 40 := by decide
    omega
  · have e2 : (tw_ws G h).set b (tw_ad G b, .inl (G.2.1 13, N', .inl (va_cpy (fun j => Int32.ofInt (h.2.1 a (j : Int))) (fun j => Int32.ofInt (h.2.1 b (j : Int))) (Int32.ofInt 0).toNatClampNeg (Int32.ofInt 0).toNatClampNeg (Int32.ofInt (n : Int)).toNatClampNeg))) = tw_ws G (hC h a b n) := by
      refine tw_ws_set rfl hkb.2 ?_ (fun x hx => ?_)
      · rw [tw_c_int (h := hC h a b n) hkb.1 (by decide) (by decide), en, e0]
        congr 4
        funext j
        have e3 : (hC h a b n).2.1 b = tcpy (h.2.1 a) (h.2.1 b) n := if_pos rfl
        rw [e3]
        by_cases hj : j < n
        · have hj' : (0 : Int) ≤ (j : Int) ∧ (j : Int) < (n : Int) := by omega
          simp [va_cpy, tcpy, hj, hj']
        · have hj' : ¬ ((0 : Int) ≤ (j : Int) ∧ (j : Int) < (n : Int)) := by omega
          simp [va_cpy, tcpy, hj]
      · have e3 : (hC h a b n).2.1 x = h.2.1 x := if_neg hx
        unfold tw_c tw_fv
        simp only [e3]
        rfl
    rw [e2] at hP1
    exact kk p e s m args below meth c H1 locs1 ls' X hl hP1 hS1 h0 hn
end AR5
end
section
section BR
variable {l : Launch} {G : tG} {M : tM} {d mc ms n0 c2 : Nat} {P : Option tV → tH → Prop} {ls : List (Nat × tV)} {st : List tV} {k pc nx tg : Nat} {K : Nat → Nat × Nat} {I : Nat → Int → Int} {Q : Nat → Int → Option Nat} {n : Nat}
theorem br_getI {i ci N a kf : Nat} (hd : M.2.2.2.2[k]? = some (pc, .getfield i, nx, tg)) (hk : tK (K, I, Q, n) a (ci, N)) (hF : tw_FL M.1.cls i ci kf) (hN : kf < N) (hr : tRef ci kf = false) (kk : tw_AW l G M d mc ms n0 c2 P nx ls (vi (I a (kf : Int)) :: st) (K, I, Q, n)) : tw_AW l G M d mc ms n0 c2 P pc ls (vr (some a) :: st) (K, I, Q, n) := ar_getI hd hk hF hN hr kk
theorem br_getR {i ci N a kf : Nat} {r : Option Nat} (hd : M.2.2.2.2[k]? = some (pc, .getfield i, nx, tg)) (hk : tK (K, I, Q, n) a (ci, N)) (hF : tw_FL M.1.cls i ci kf) (hN : kf < N) (hr : tRef ci kf = true) (hq : Q a (kf : Int) = r) (kk : tw_AW l G M d mc ms n0 c2 P nx ls (vr r :: st) (K, I, Q, n)) : tw_AW l G M d mc ms n0 c2 P pc ls (vr (some a) :: st) (K, I, Q, n) := ar_getR hd hk hF hN hr (by subst hq; exact kk)
theorem br_putI {i ci N a kf : Nat} {x : Int} (hd : M.2.2.2.2[k]? = some (pc, .putfield i, nx, tg)) (hk : tK (K, I, Q, n) a (ci, N)) (hF : tw_FL M.1.cls i ci kf) (hN : kf < N) (hr : tRef ci kf = false) (hf : ∀ C T N, tCl[ci]? = some (C, T, N) → (T kf).2.2.2 = false ∧ parseFieldDescriptor (T kf).2.2.1 = some .int) (kk : tw_AW l G M d mc ms n0 c2 P nx ls st (K, uI I a kf x, Q, n)) : tw_AW l G M d mc ms n0 c2 P pc ls (vi x :: vr (some a) :: st) (K, I, Q, n) := ar_putI hd hk hF hN hr hf kk
theorem br_putZ {i ci N a kf : Nat} {x : Int} (hd : M.2.2.2.2[k]? = some (pc, .putfield i, nx, tg)) (hk : tK (K, I, Q, n) a (ci, N)) (hF : tw_FL M.1.cls i ci kf) (hN : kf < N) (hr : tRef ci kf = false) (hx : 0 ≤ x ∧ x ≤ 1) (hf : ∀ C T N, tCl[ci]? = some (C, T, N) → (T kf).2.2.2 = false ∧ parseFieldDescriptor (T kf).2.2.1 = some .boolean) (kk : tw_AW l G M d mc ms n0 c2 P nx ls st (K, uI I a kf x, Q, n)) : tw_AW l G M d mc ms n0 c2 P pc ls (vi x :: vr (some a) :: st) (K, I, Q, n) := ar_putZ hd hk hF hN hr hx hf kk
theorem br_putR {i ci N a kf : Nat} {x : Option Nat} (hd : M.2.2.2.2[k]? = some (pc, .putfield i, nx, tg)) (hk : tK (K, I, Q, n) a (ci, N)) (hF : tw_FL M.1.cls i ci kf) (hN : kf < N) (hr : tRef ci kf = true) (hf : ∀ C T N, tCl[ci]? = some (C, T, N) → (T kf).2.2.2 = false ∧ ∃ ty, parseFieldDescriptor (T kf).2.2.1 = some ty ∧ ty.isReference = true) (kk : tw_AW l G M d mc ms n0 c2 P nx ls st (K, I, uQ Q a kf x, n)) : tw_AW l G M d mc ms n0 c2 P pc ls (vr x :: vr (some a) :: st) (K, I, Q, n) := ar_putR hd hk hF hN hr hf kk
theorem br_putFI {i ci N a kf : Nat} {x : Int} (hd : M.2.2.2.2[k]? = some (pc, .putfield i, nx, tg)) (hk : tK (K, I, Q, n) a (ci, N)) (hF : tw_FL M.1.cls i ci kf) (hN : kf < N) (hr : tRef ci kf = false) (hi : M.1.name = "<init>") (hf : ∀ C T N, tCl[ci]? = some (C, T, N) → (T kf).2.2.2 = true ∧ (T kf).1 = M.1.cls ∧ parseFieldDescriptor (T kf).2.2.1 = some .int) (kk : tw_AW l G M d mc ms n0 c2 P nx ls st (K, uI I a kf x, Q, n)) : tw_AW l G M d mc ms n0 c2 P pc ls (vi x :: vr (some a) :: st) (K, I, Q, n) := ar_putFI hd hk hF hN hr hi hf kk
theorem br_putFR {i ci N a kf : Nat} {x : Option Nat} (hd : M.2.2.2.2[k]? = some (pc, .putfield i, nx, tg)) (hk : tK (K, I, Q, n) a (ci, N)) (hF : tw_FL M.1.cls i ci kf) (hN : kf < N) (hr : tRef ci kf = true) (hi : M.1.name = "<init>") (hf : ∀ C T N, tCl[ci]? = some (C, T, N) → (T kf).2.2.2 = true ∧ (T kf).1 = M.1.cls ∧ ∃ ty, parseFieldDescriptor (T kf).2.2.1 = some ty ∧ ty.isReference = true) (kk : tw_AW l G M d mc ms n0 c2 P nx ls st (K, I, uQ Q a kf x, n)) : tw_AW l G M d mc ms n0 c2 P pc ls (vr x :: vr (some a) :: st) (K, I, Q, n) := ar_putFR hd hk hF hN hr hi hf kk
theorem br_iald {a N : Nat} {i : Int} (hd : M.2.2.2.2[k]? = some (pc, .iaload, nx, tg)) (hk : tK (K, I, Q, n) a (14, N)) (h1 : 0 ≤ i) (h2 : i < N) (hN : N < 2147483648) (kk : tw_AW l G M d mc ms n0 c2 P nx ls (vi (I a i) :: st) (K, I, Q, n)) : tw_AW l G M d mc ms n0 c2 P pc ls (vi i :: vr (some a) :: st) (K, I, Q, n) := ar_iald hd hk h1 h2 hN kk
theorem br_bald {a N : Nat} {i : Int} (hd : M.2.2.2.2[k]? = some (pc, .baload, nx, tg)) (hk : tK (K, I, Q, n) a (13, N)) (h1 : 0 ≤ i) (h2 : i < N) (hN : N < 2147483648) (kk : tw_AW l G M d mc ms n0 c2 P nx ls (vi (I a i) :: st) (K, I, Q, n)) : tw_AW l G M d mc ms n0 c2 P pc ls (vi i :: vr (some a) :: st) (K, I, Q, n) := ar_bald hd hk h1 h2 hN kk
theorem br_zald {a N : Nat} {i : Int} (hd : M.2.2.2.2[k]? = some (pc, .baload, nx, tg)) (hk : tK (K, I, Q, n) a (15, N)) (h1 : 0 ≤ i) (h2 : i < N) (hN : N < 2147483648) (kk : tw_AW l G M d mc ms n0 c2 P nx ls (vi (I a i) :: st) (K, I, Q, n)) : tw_AW l G M d mc ms n0 c2 P pc ls (vi i :: vr (some a) :: st) (K, I, Q, n) := ar_zald hd hk h1 h2 hN kk
theorem br_iast {a N : Nat} {i x : Int} (hd : M.2.2.2.2[k]? = some (pc, .iastore, nx, tg)) (hk : tK (K, I, Q, n) a (14, N)) (h1 : 0 ≤ i) (h2 : i < N) (hN : N < 2147483648) (kk : tw_AW l G M d mc ms n0 c2 P nx ls st (K, uI I a i x, Q, n)) : tw_AW l G M d mc ms n0 c2 P pc ls (vi x :: vi i :: vr (some a) :: st) (K, I, Q, n) := ar_iast hd hk h1 h2 hN kk
theorem br_bast {a N : Nat} {i x : Int} (hd : M.2.2.2.2[k]? = some (pc, .bastore, nx, tg)) (hk : tK (K, I, Q, n) a (13, N)) (h1 : 0 ≤ i) (h2 : i < N) (hN : N < 2147483648) (hx : -128 ≤ x ∧ x ≤ 127) (kk : tw_AW l G M d mc ms n0 c2 P nx ls st (K, uI I a i x, Q, n)) : tw_AW l G M d mc ms n0 c2 P pc ls (vi x :: vi i :: vr (some a) :: st) (K, I, Q, n) := ar_bast hd hk h1 h2 hN hx kk
theorem br_zast {a N : Nat} {i x : Int} (hd : M.2.2.2.2[k]? = some (pc, .bastore, nx, tg)) (hk : tK (K, I, Q, n) a (15, N)) (h1 : 0 ≤ i) (h2 : i < N) (hN : N < 2147483648) (hx : 0 ≤ x ∧ x ≤ 1) (kk : tw_AW l G M d mc ms n0 c2 P nx ls st (K, uI I a i x, Q, n)) : tw_AW l G M d mc ms n0 c2 P pc ls (vi x :: vi i :: vr (some a) :: st) (K, I, Q, n) := ar_zast hd hk h1 h2 hN hx kk
theorem br_aald16 {a N : Nat} {i : Int} {r : Option Nat} (hd : M.2.2.2.2[k]? = some (pc, .aaload, nx, tg)) (hk : tK (K, I, Q, n) a (16, N)) (h1 : 0 ≤ i) (h2 : i < N) (hN : N < 2147483648) (hq : Q a i = r) (kk : tw_AW l G M d mc ms n0 c2 P nx ls (vr r :: st) (K, I, Q, n)) : tw_AW l G M d mc ms n0 c2 P pc ls (vi i :: vr (some a) :: st) (K, I, Q, n) := ar_aald16 hd hk h1 h2 hN (by subst hq; exact kk)
theorem br_aald17 {a N : Nat} {i : Int} {r : Option Nat} (hd : M.2.2.2.2[k]? = some (pc, .aaload, nx, tg)) (hk : tK (K, I, Q, n) a (17, N)) (h1 : 0 ≤ i) (h2 : i < N) (hN : N < 2147483648) (hq : Q a i = r) (kk : tw_AW l G M d mc ms n0 c2 P nx ls (vr r :: st) (K, I, Q, n)) : tw_AW l G M d mc ms n0 c2 P pc ls (vi i :: vr (some a) :: st) (K, I, Q, n) := ar_aald17 hd hk h1 h2 hN (by subst hq; exact kk)
theorem br_aald18 {a N : Nat} {i : Int} {r : Option Nat} (hd : M.2.2.2.2[k]? = some (pc, .aaload, nx, tg)) (hk : tK (K, I, Q, n) a (18, N)) (h1 : 0 ≤ i) (h2 : i < N) (hN : N < 2147483648) (hq : Q a i = r) (kk : tw_AW l G M d mc ms n0 c2 P nx ls (vr r :: st) (K, I, Q, n)) : tw_AW l G M d mc ms n0 c2 P pc ls (vi i :: vr (some a) :: st) (K, I, Q, n) := ar_aald18 hd hk h1 h2 hN (by subst hq; exact kk)
theorem br_aast16 {a N : Nat} {i : Int} {x : Option Nat} (hd : M.2.2.2.2[k]? = some (pc, .aastore, nx, tg)) (hk : tK (K, I, Q, n) a (16, N)) (h1 : 0 ≤ i) (h2 : i < N) (hN : N < 2147483648) (hx : ∀ b, x = some b → ∃ cb Nb C T, tK (K, I, Q, n) b (cb, Nb) ∧ tCl[cb]? = some (C, T, Nb) ∧ (C = "TwinTools$Hand" ∨ (C, "TwinTools$Hand") ∈ castL)) (kk : tw_AW l G M d mc ms n0 c2 P nx ls st (K, I, uQ Q a i x, n)) : tw_AW l G M d mc ms n0 c2 P pc ls (vr x :: vi i :: vr (some a) :: st) (K, I, Q, n) := ar_aast16 hd hk h1 h2 hN hx kk
theorem br_aast17 {a N : Nat} {i : Int} {x : Option Nat} (hd : M.2.2.2.2[k]? = some (pc, .aastore, nx, tg)) (hk : tK (K, I, Q, n) a (17, N)) (h1 : 0 ≤ i) (h2 : i < N) (hN : N < 2147483648) (hx : ∀ b, x = some b → ∃ cb Nb C T, tK (K, I, Q, n) b (cb, Nb) ∧ tCl[cb]? = some (C, T, Nb) ∧ (C = "TwinTools$Valley" ∨ (C, "TwinTools$Valley") ∈ castL)) (kk : tw_AW l G M d mc ms n0 c2 P nx ls st (K, I, uQ Q a i x, n)) : tw_AW l G M d mc ms n0 c2 P pc ls (vr x :: vi i :: vr (some a) :: st) (K, I, Q, n) := ar_aast17 hd hk h1 h2 hN hx kk
theorem br_alen {a ci N : Nat} (hd : M.2.2.2.2[k]? = some (pc, .arraylength, nx, tg)) (hk : tK (K, I, Q, n) a (ci, N)) (h1 : 13 ≤ ci) (h2 : ci < 19) (kk : tw_AW l G M d mc ms n0 c2 P nx ls (vi N :: st) (K, I, Q, n)) : tw_AW l G M d mc ms n0 c2 P pc ls (vr (some a) :: st) (K, I, Q, n) := ar_alen hd hk h1 h2 kk
abbrev tw_fn (r0 : Option tV) (h1 : tH) : Option tV → tH → Prop := fun r h => r = r0 ∧ h = h1
/-- a contract that says all -/
abbrev tw_F (l : Launch) (G : tG) (d mc ms : Nat) (M : tM) (av : List tV) (h : tH) (r0 : Option tV) (h1 : tH) : Prop := tw_M l G d mc ms M av h (tw_fn r0 h1)
theorem br_callV {i mc' ms' d' n' : Nat} {M' : tM} {as : List tV} {r0 : Option tV} {h1 : tH} {h : tH} {a ci N : Nat} {C : String} {T : u_T} (hd : M.2.2.2.2[k]? = some (pc, .invokevirtual i, nx, tg)) (hw : tw_LV M.1.cls i M' C n') (hk : tK h a (ci, N)) (hc : tCl[ci]? = some (C, T, N)) (hM : tw_F l G d' mc' ms' M' (vr (some a) :: as) h r0 h1) (hn' : as.length = n') (hdd : d' + 1 ≤ d) (hL : M'.2.2.1 ≤ 45) (hm : h.2.2.2 - n0 + mc' ≤ mc ∧ c2 + ms' ≤ ms) (hst : (st.map tw_w).sum ≤ 8) (kk : tw_AW l G M d mc ms n0 (c2 + ms') P nx ls (r0.toList ++ st) h1) : tw_AW l G M d mc ms n0 c2 P pc ls (as.reverse ++ vr (some a) :: st) h := ar_callV hd hw hk hc hM hn' hdd hL hm hst (fun r h' hp => by obtain ⟨rfl, rfl⟩ := hp; exact kk)
theorem br_callP {i mc' ms' d' n' : Nat} {M' : tM} {as : List tV} {r0 : Option tV} {h1 : tH} {h : tH} {a ci N : Nat} {C : String} {T : u_T} (hd : M.2.2.2.2[k]? = some (pc, .invokespecial i, nx, tg)) (hw : tw_LP M.1.cls i M' n') (hk : tK h a (ci, N)) (hc : tCl[ci]? = some (C, T, N)) (hM : tw_F l G d' mc' ms' M' (vr (some a) :: as) h r0 h1) (hn' : as.length = n') (hdd : d' + 1 ≤ d) (hL : M'.2.2.1 ≤ 45) (hm : h.2.2.2 - n0 + mc' ≤ mc ∧ c2 + ms' ≤ ms) (hst : (st.map tw_w).sum ≤ 8) (kk : tw_AW l G M d mc ms n0 (c2 + ms') P nx ls (r0.toList ++ st) h1) : tw_AW l G M d mc ms n0 c2 P pc ls (as.reverse ++ vr (some a) :: st) h := ar_callP hd hw hk hc hM hn' hdd hL hm hst (fun r h' hp => by obtain ⟨rfl, rfl⟩ := hp; exact kk)
theorem br_callS {i mc' ms' d' n' : Nat} {M' : tM} {as : List tV} {r0 : Option tV} {h1 : tH} {h : tH} (hd : M.2.2.2.2[k]? = some (pc, .invokestatic i, nx, tg)) (hw : tw_LS M.1.cls i M' n') (hM : tw_F l G d' mc' ms' M' (as) h r0 h1) (hn' : as.length = n') (hdd : d' + 1 ≤ d) (hL : M'.2.2.1 ≤ 45) (hm : h.2.2.2 - n0 + mc' ≤ mc ∧ c2 + ms' ≤ ms) (hst : (st.map tw_w).sum ≤ 8) (kk : tw_AW l G M d mc ms n0 (c2 + ms') P nx ls (r0.toList ++ st) h1) : tw_AW l G M d mc ms n0 c2 P pc ls (as.reverse ++ st) h := ar_callS hd hw hM hn' hdd hL hm hst (fun r h' hp => by obtain ⟨rfl, rfl⟩ := hp; exact kk)
theorem br_callI {i mc' ms' d' n' : Nat} {M' : tM} {as : List tV} {r0 : Option tV} {h1 : tH} {h : tH} {a : Nat} (hd : M.2.2.2.2[k]? = some (pc, .invokespecial i, nx, tg)) (hw : tw_LI M.1.cls i M' n') (hM : tw_F l G d' mc' ms' M' (vr (some a) :: as) h r0 h1) (hn' : as.length = n') (hdd : d' + 1 ≤ d) (hL : M'.2.2.1 ≤ 45) (hm : h.2.2.2 - n0 + mc' ≤ mc ∧ c2 + ms' ≤ ms) (hst : (st.map tw_w).sum ≤ 8) (kk : tw_AW l G M d mc ms n0 (c2 + ms') P nx ls (r0.toList ++ st) h1) : tw_AW l G M d mc ms n0 c2 P pc ls (as.reverse ++ vr (some a) :: st) h := ar_callI hd hw hM hn' hdd hL hm hst (fun r h' hp => by obtain ⟨rfl, rfl⟩ := hp; exact kk)
theorem tw_m0 {n : Nat} : n - n + 0 ≤ 0 ∧ 0 + 0 ≤ 0 := by simp
end BR
/-- the kinds and sizes of the 77 cells that the two constructors make -/
def shpL : List (Nat × Nat) := [(11, 7), (10, 20), (13, 100), (17, 5), (16, 8), (14, 8), (14, 32), (14, 10), (14, 10), (14, 10), (14, 12), (14, 12), (14, 12), (14, 12), (10, 20), (13, 100), (17, 5), (16, 8), (14, 8), (14, 32), (14, 10), (14, 10), (14, 10), (14, 12), (14, 12), (14, 12), (14, 12), (10, 20), (13, 100), (17, 5), (16, 8), (14, 8), (14, 32), (14, 10), (14, 10), (14, 10), (14, 12), (14, 12), (14, 12), (14, 12), (6, 19), (18, 10), (14, 24), (14, 24), (14, 24), (14, 24), (14, 24), (14, 24), (14, 24), (14, 24), (14, 24), (14, 24), (14, 8), (14, 8), (14, 5), (14, 5), (14, 5), (14, 32), (14, 32), (14, 32), (14, 6), (8, 2), (14, 20), (9, 12), (14, 10), (14, 10), (14, 100), (14, 5), (14, 13), (12, 23), (14, 984), (14, 984), (14, 5), (15, 64), (14, 10), (14, 10), (14, 20)]
def shp (a : Nat) : Nat × Nat := shpL.getD a (0, 0)
/-- the references among them that stay -/
def srfL : List (List (Option Nat)) := [[some 1, some 14, some 27, none, some 40, some 61], [some 2, none, some 3, none, some 4, none, some 5, some 6, some 7, some 8, some 9, none, none, some 10, some 11, none, none, some 12, some 13], [], [], [], [], [], [], [], [], [], [], [], [], [some 15, none, some 16, none, some 17, none, some 18, some 19, some 20, some 21, some 22, none, none, some 23, some 24, none, none, some 25, some 26], [], [], [], [], [], [], [], [], [], [], [], [], [some 28, none, some 29, none, some 30, none, some 31, some 32, some 33, some 34, some 35, none, none, some 36, some 37, none, none, some 38, some 39], [], [], [], [], [], [], [], [], [], [], [], [], [none, none, some 41, some 52, some 53, none, none, some 54, some 55, some 56, none, some 57, some 58, some 59, none, none, none, some 60], [some 42, some 43, some 44, some 45, some 46, some 47, some 48, some 49, some 50, some 51], [], [], [], [], [], [], [], [], [], [], [], [], [], [], [], [], [], [], [], [some 62], [], [none, some 64, some 65, none, some 66, none, some 67, some 68, some 2], [], [], [], [], [], [none, some 70, some 71, none, none, none, none, none, none, some 72, some 73, none, none, none, some 74, some 75, none, none, some 76], [], [], [], [], [], [], []]
def srf (a k : Nat) : Option Nat := (srfL.getD a []).getD k none
def tSt (h : tH) : Prop := (∀ a, a < 77 → h.1 a = shp a) ∧ 77 ≤ h.2.2.2 ∧ ∀ (a k b : Nat), srf a k = some b → h.2.2.1 a (k : Int) = some b
theorem tSt.k {h : tH} (H : tSt h) {a : Nat} (ha : a < 77) : tK h a (shp a) := ⟨H.1 a ha, by have := H.2.1; omega⟩
theorem tSt.r {K : Nat → Nat × Nat} {I : Nat → Int → Int} {Q : Nat → Int → Option Nat} {n : Nat} (H : tSt (K, I, Q, n)) {a k b : Nat} (ha : srf a k = some b) : Q a (k : Int) = some b := H.2.2 a k b ha
theorem tSt.i {K : Nat → Nat × Nat} {I I2 : Nat → Int → Int} {Q : Nat → Int → Option Nat} {n : Nat} (H : tSt (K, I, Q, n)) : tSt (K, I2, Q, n) := H
end
section
def mR_init : tM := (⟨"TwinToolsModel", "<init>", "()V"⟩, prog_14_method_1_code, 2, none, [(0, .aload_n 0, 1, 0), (1, .invokespecial 3, 4, 0), (4, .aload_n 0, 5, 0), (5, .sipush 984, 8, 0), (8, .newarray .int, 10, 0), (10, .putfield 9, 13, 0), (13, .aload_n 0, 14, 0), (14, .sipush 984, 17, 0), (17, .newarray .int, 19, 0), (19, .putfield 15, 22, 0), (22, .aload_n 0, 23, 0), (23, .iconst 5, 24, 0), (24, .newarray .int, 26, 0), (26, .putfield 18, 29, 0), (29, .aload_n 0, 30, 0), (30, .bipush 64, 32, 0), (32, .newarray .boolean, 34, 0), (34, .putfield 21, 37, 0), (37, .aload_n 0, 38, 0), (38, .bipush 10, 40, 0), (40, .newarray .int, 42, 0), (42, .putfield 25, 45, 0), (45, .aload_n 0, 46, 0), (46, .bipush 10, 48, 0), (48, .newarray .int, 50, 0), (50, .putfield 28, 53, 0), (53, .aload_n 0, 54, 0), (54, .bipush 20, 56, 0), (56, .newarray .int, 58, 0), (58, .putfield 31, 61, 0), (61, .aload_n 0, 62, 0), (62, .getfield 9, 65, 0), (65, .bipush 6, 67, 0), (67, .iconst (-1), 68, 0), (68, .iastore, 69, 0), (69, .iconst 0, 70, 0), (70, .istore_n 1, 71, 0), (71, .iload_n 1, 72, 0), (72, .bipush 32, 74, 0), (74, .if_icmp .ge 19, 77, 93), (77, .aload_n 0, 78, 0), (78, .getfield 9, 81, 0), (81, .bipush 42, 83, 0), (83, .iload_n 1, 84, 0), (84, .iadd, 85, 0), (85, .iconst (-1), 86, 0), (86, .iastore, 87, 0), (87, .iinc 1 1, 90, 0), (90, .goto (-19), 93, 71), (93, .return_, 94, 0)])
theorem okR_init : tw_ok mR_init := ⟨by decide, by decide +kernel⟩
def mR_in : tM := (⟨"TwinToolsModel", "in", "(III)Z"⟩, prog_14_method_3_code, 3, (some .boolean), [(0, .iload_n 0, 1, 0), (1, .iload_n 1, 2, 0), (2, .if_icmp .lt 12, 5, 14), (5, .iload_n 0, 6, 0), (6, .iload_n 2, 7, 0), (7, .if_icmp .gt 7, 10, 14), (10, .iconst 1, 11, 0), (11, .goto 4, 14, 15), (14, .iconst 0, 15, 0), (15, .ireturn, 16, 0)])
theorem okR_in : tw_ok mR_in := ⟨by decide, by decide +kernel⟩
def mR_isPerson : tM := (⟨"TwinToolsModel", "isPerson", "(I)Z"⟩, prog_14_method_4_code, 2, (some .boolean), [(0, .iload_n 1, 1, 0), (1, .iconst 0, 2, 0), (2, .aload_n 0, 3, 0), (3, .getfield 9, 6, 0), (6, .iconst 0, 7, 0), (7, .iaload, 8, 0), (8, .iconst 1, 9, 0), (9, .isub, 10, 0), (10, .invokestatic 38, 13, 0), (13, .ireturn, 14, 0)])
theorem okR_isPerson : tw_ok mR_isPerson := ⟨by decide, by decide +kernel⟩
def mR_isTool : tM := (⟨"TwinToolsModel", "isTool", "(I)Z"⟩, prog_14_method_5_code, 2, (some .boolean), [(0, .iload_n 1, 1, 0), (1, .iconst 0, 2, 0), (2, .aload_n 0, 3, 0), (3, .getfield 9, 6, 0), (6, .iconst 1, 7, 0), (7, .iaload, 8, 0), (8, .iconst 1, 9, 0), (9, .isub, 10, 0), (10, .invokestatic 38, 13, 0), (13, .ireturn, 14, 0)])
theorem okR_isTool : tw_ok mR_isTool := ⟨by decide, by decide +kernel⟩
def mR_isHour : tM := (⟨"TwinToolsModel", "isHour", "(I)Z"⟩, prog_14_method_6_code, 1, (some .boolean), [(0, .iload_n 0, 1, 0), (1, .iconst 0, 2, 0), (2, .bipush 23, 4, 0), (4, .invokestatic 38, 7, 0), (7, .ireturn, 8, 0)])
theorem okR_isHour : tw_ok mR_isHour := ⟨by decide, by decide +kernel⟩
def mR_feed : tM := (⟨"TwinToolsModel", "feed", "(I)I"⟩, prog_14_method_7_code, 2, (some .int), [(0, .iload_n 1, 1, 0), (1, .iconst 0, 2, 0), (2, .bipush 127, 4, 0), (4, .invokestatic 38, 7, 0), (7, .ifCond .ne 6, 10, 13), (10, .bipush (-2), 12, 0), (12, .ireturn, 13, 0), (13, .aload_n 0, 14, 0), (14, .getfield 9, 17, 0), (17, .iconst 5, 18, 0), (18, .iaload, 19, 0), (19, .bipush 100, 21, 0), (21, .if_icmp .ne 6, 24, 27), (24, .bipush (-4), 26, 0), (26, .ireturn, 27, 0), (27, .aload_n 0, 28, 0), (28, .getfield 9, 31, 0), (31, .sipush 174, 34, 0), (34, .aload_n 0, 35, 0), (35, .getfield 9, 38, 0), (38, .iconst 5, 39, 0), (39, .iaload, 40, 0), (40, .iadd, 41, 0), (41, .iload_n 1, 42, 0), (42, .iastore, 43, 0), (43, .aload_n 0, 44, 0), (44, .getfield 9, 47, 0), (47, .iconst 5, 48, 0), (48, .dup2, 49, 0), (49, .iaload, 50, 0), (50, .iconst 1, 51, 0), (51, .iadd, 52, 0), (52, .iastore, 53, 0), (53, .aload_n 0, 54, 0), (54, .getfield 9, 57, 0), (57, .iconst 5, 58, 0), (58, .iaload, 59, 0), (59, .ireturn, 60, 0)])
theorem okR_feed : tw_ok mR_feed := ⟨by decide, by decide +kernel⟩
def mR_here : tM := (⟨"TwinToolsModel", "here", "()I"⟩, prog_14_method_8_code, 1, (some .int), [(0, .aload_n 0, 1, 0), (1, .getfield 42, 4, 0), (4, .aload_n 0, 5, 0), (5, .getfield 45, 8, 0), (8, .if_icmp .ge 19, 11, 27), (11, .aload_n 0, 12, 0), (12, .getfield 9, 15, 0), (15, .sipush 174, 18, 0), (18, .aload_n 0, 19, 0), (19, .getfield 42, 22, 0), (22, .iadd, 23, 0), (23, .iaload, 24, 0), (24, .goto 4, 27, 28), (27, .iconst (-1), 28, 0), (28, .ireturn, 29, 0)])
theorem okR_here : tw_ok mR_here := ⟨by decide, by decide +kernel⟩
def mR_must : tM := (⟨"TwinToolsModel", "must", "(I)V"⟩, prog_14_method_9_code, 2, none, [(0, .aload_n 0, 1, 0), (1, .aload_n 0, 2, 0), (2, .getfield 48, 5, 0), (5, .ifCond .ne 11, 8, 16), (8, .aload_n 0, 9, 0), (9, .invokevirtual 52, 12, 0), (12, .iload_n 1, 13, 0), (13, .if_icmp .eq 7, 16, 20), (16, .iconst 1, 17, 0), (17, .goto 4, 20, 21), (20, .iconst 0, 21, 0), (21, .putfield 48, 24, 0), (24, .aload_n 0, 25, 0), (25, .dup, 26, 0), (26, .getfield 42, 29, 0), (29, .aload_n 0, 30, 0), (30, .getfield 48, 33, 0), (33, .ifCond .eq 7, 36, 40), (36, .iconst 0, 37, 0), (37, .goto 4, 40, 41), (40, .iconst 1, 41, 0), (41, .iadd, 42, 0), (42, .putfield 42, 45, 0), (45, .return_, 46, 0)])
theorem okR_must : tw_ok mR_must := ⟨by decide, by decide +kernel⟩
def mR_spells : tM := (⟨"TwinToolsModel", "spells", "(Ljava/lang/String;)V"⟩, prog_14_method_10_code, 3, none, [(0, .iconst 0, 1, 0), (1, .istore_n 2, 2, 0), (2, .iload_n 2, 3, 0), (3, .aload_n 1, 4, 0), (4, .invokevirtual 56, 7, 0), (7, .if_icmp .ge 18, 10, 25), (10, .aload_n 0, 11, 0), (11, .aload_n 1, 12, 0), (12, .iload_n 2, 13, 0), (13, .invokevirtual 61, 16, 0), (16, .invokevirtual 65, 19, 0), (19, .iinc 2 1, 22, 0), (22, .goto (-20), 25, 2), (25, .return_, 26, 0)])
theorem okR_spells : tw_ok mR_spells := ⟨by decide, by decide +kernel⟩
def mR_figures : tM := (⟨"TwinToolsModel", "figures", "()I"⟩, prog_14_method_11_code, 3, (some .int), [(0, .aload_n 0, 1, 0), (1, .aload_n 0, 2, 0), (2, .getfield 48, 5, 0), (5, .ifCond .ne 17, 8, 22), (8, .aload_n 0, 9, 0), (9, .invokevirtual 52, 12, 0), (12, .bipush 48, 14, 0), (14, .bipush 57, 16, 0), (16, .invokestatic 38, 19, 0), (19, .ifCond .ne 7, 22, 26), (22, .iconst 1, 23, 0), (23, .goto 4, 26, 27), (26, .iconst 0, 27, 0), (27, .putfield 48, 30, 0), (30, .iconst 0, 31, 0), (31, .istore_n 1, 32, 0), (32, .iconst 0, 33, 0), (33, .istore_n 2, 34, 0), (34, .iload_n 2, 35, 0), (35, .iconst 2, 36, 0), (36, .if_icmp .ge 61, 39, 97), (39, .aload_n 0, 40, 0), (40, .getfield 48, 43, 0), (43, .ifCond .ne 54, 46, 97), (46, .aload_n 0, 47, 0), (47, .invokevirtual 52, 50, 0), (50, .bipush 48, 52, 0), (52, .bipush 57, 54, 0), (54, .invokestatic 38, 57, 0), (57, .ifCond .eq 40, 60, 97), (60, .iload_n 2, 61, 0), (61, .ifCond .eq 7, 64, 68), (64, .iload_n 1, 65, 0), (65, .ifCond .le 32, 68, 97), (68, .bipush 10, 70, 0), (70, .iload_n 1, 71, 0), (71, .imul, 72, 0), (72, .aload_n 0, 73, 0), (73, .invokevirtual 52, 76, 0), (76, .iadd, 77, 0), (77, .bipush 48, 79, 0), (79, .isub, 80, 0), (80, .istore_n 1, 81, 0), (81, .aload_n 0, 82, 0), (82, .dup, 83, 0), (83, .getfield 42, 86, 0), (86, .iconst 1, 87, 0), (87, .iadd, 88, 0), (88, .putfield 42, 91, 0), (91, .iinc 2 1, 94, 0), (94, .goto (-60), 97, 34), (97, .iload_n 1, 98, 0), (98, .ireturn, 99, 0)])
theorem okR_figures : tw_ok mR_figures := ⟨by decide, by decide +kernel⟩
def mR_among : tM := (⟨"TwinToolsModel", "among", "(Ljava/lang/String;)I"⟩, prog_14_method_12_code, 3, (some .int), [(0, .iconst 0, 1, 0), (1, .istore_n 2, 2, 0), (2, .iload_n 2, 3, 0), (3, .aload_n 1, 4, 0), (4, .invokevirtual 56, 7, 0), (7, .if_icmp .ge 33, 10, 40), (10, .aload_n 0, 11, 0), (11, .invokevirtual 52, 14, 0), (14, .aload_n 1, 15, 0), (15, .iload_n 2, 16, 0), (16, .invokevirtual 61, 19, 0), (19, .if_icmp .ne 15, 22, 34), (22, .aload_n 0, 23, 0), (23, .dup, 24, 0), (24, .getfield 42, 27, 0), (27, .iconst 1, 28, 0), (28, .iadd, 29, 0), (29, .putfield 42, 32, 0), (32, .iload_n 2, 33, 0), (33, .ireturn, 34, 0), (34, .iinc 2 1, 37, 0), (37, .goto (-35), 40, 2), (40, .iconst (-1), 41, 0), (41, .ireturn, 42, 0)])
theorem okR_among : tw_ok mR_among := ⟨by decide, by decide +kernel⟩
def mR_emits : tM := (⟨"TwinToolsModel", "emits", "(I)V"⟩, prog_14_method_13_code, 2, none, [(0, .aload_n 0, 1, 0), (1, .getfield 48, 4, 0), (4, .ifCond .ne 52, 7, 56), (7, .aload_n 0, 8, 0), (8, .getfield 9, 11, 0), (11, .sipush 284, 14, 0), (14, .sipush 140, 17, 0), (17, .aload_n 0, 18, 0), (18, .getfield 69, 21, 0), (21, .imul, 22, 0), (22, .iadd, 23, 0), (23, .aload_n 0, 24, 0), (24, .getfield 9, 27, 0), (27, .sipush 279, 30, 0), (30, .aload_n 0, 31, 0), (31, .getfield 69, 34, 0), (34, .iadd, 35, 0), (35, .iaload, 36, 0), (36, .iadd, 37, 0), (37, .iload_n 1, 38, 0), (38, .iastore, 39, 0), (39, .aload_n 0, 40, 0), (40, .getfield 9, 43, 0), (43, .sipush 279, 46, 0), (46, .aload_n 0, 47, 0), (47, .getfield 69, 50, 0), (50, .iadd, 51, 0), (51, .dup2, 52, 0), (52, .iaload, 53, 0), (53, .iconst 1, 54, 0), (54, .iadd, 55, 0), (55, .iastore, 56, 0), (56, .return_, 57, 0)])
theorem okR_emits : tw_ok mR_emits := ⟨by decide, by decide +kernel⟩
def mR_factor : tM := (⟨"TwinToolsModel", "factor", "()V"⟩, prog_14_method_14_code, 5, none, [(0, .aload_n 0, 1, 0), (1, .getfield 48, 4, 0), (4, .ifCond .eq 4, 7, 8), (7, .return_, 8, 0), (8, .aload_n 0, 9, 0), (9, .invokevirtual 52, 12, 0), (12, .istore_n 1, 13, 0), (13, .iload_n 1, 14, 0), (14, .bipush 33, 16, 0), (16, .if_icmp .eq 9, 19, 25), (19, .iload_n 1, 20, 0), (20, .bipush 40, 22, 0), (22, .if_icmp .ne 90, 25, 112), (25, .aload_n 0, 26, 0), (26, .aload_n 0, 27, 0), (27, .getfield 72, 30, 0), (30, .iconst 5, 31, 0), (31, .if_icmp .ne 7, 34, 38), (34, .iconst 1, 35, 0), (35, .goto 4, 38, 39), (38, .iconst 0, 39, 0), (39, .putfield 48, 42, 0), (42, .aload_n 0, 43, 0), (43, .dup, 44, 0), (44, .getfield 72, 47, 0), (47, .iconst 1, 48, 0), (48, .iadd, 49, 0), (49, .putfield 72, 52, 0), (52, .aload_n 0, 53, 0), (53, .dup, 54, 0), (54, .getfield 42, 57, 0), (57, .aload_n 0, 58, 0), (58, .getfield 48, 61, 0), (61, .ifCond .eq 7, 64, 68), (64, .iconst 0, 65, 0), (65, .goto 4, 68, 69), (68, .iconst 1, 69, 0), (69, .iadd, 70, 0), (70, .putfield 42, 73, 0), (73, .iload_n 1, 74, 0), (74, .bipush 33, 76, 0), (76, .if_icmp .ne 15, 79, 91), (79, .aload_n 0, 80, 0), (80, .invokevirtual 75, 83, 0), (83, .aload_n 0, 84, 0), (84, .iconst (-1), 85, 0), (85, .invokevirtual 78, 88, 0), (88, .goto 13, 91, 101), (91, .aload_n 0, 92, 0), (92, .invokevirtual 81, 95, 0), (95, .aload_n 0, 96, 0), (96, .bipush 41, 98, 0), (98, .invokevirtual 65, 101, 0), (101, .aload_n 0, 102, 0), (102, .dup, 103, 0), (103, .getfield 72, 106, 0), (106, .iconst 1, 107, 0), (107, .isub, 108, 0), (108, .putfield 72, 111, 0), (111, .return_, 112, 0), (112, .aload_n 0, 113, 0), (113, .ldc 84, 115, 0), (115, .invokevirtual 86, 118, 0), (118, .istore_n 2, 119, 0), (119, .aload_n 0, 120, 0), (120, .iload_n 2, 121, 0), (121, .iconst (-1), 122, 0), (122, .if_icmp .ne 7, 125, 129), (125, .iconst 1, 126, 0), (126, .goto 4, 129, 130), (129, .iconst 0, 130, 0), (130, .putfield 48, 133, 0), (133, .aload_n 0, 134, 0), (134, .getfield 48, 137, 0), (137, .ifCond .eq 7, 140, 144), (140, .iconst 0, 141, 0), (141, .goto 9, 144, 150), (144, .aload_n 0, 145, 0), (145, .ldc 90, 147, 0), (147, .invokevirtual 86, 150, 0), (150, .istore_n 3, 151, 0), (151, .aload_n 0, 152, 0), (152, .aload_n 0, 153, 0), (153, .getfield 48, 156, 0), (156, .ifCond .ne 8, 159, 164), (159, .iload_n 3, 160, 0), (160, .iconst (-1), 161, 0), (161, .if_icmp .ne 7, 164, 168), (164, .iconst 1, 165, 0), (165, .goto 4, 168, 169), (168, .iconst 0, 169, 0), (169, .putfield 48, 172, 0), (172, .aload_n 0, 173, 0), (173, .invokevirtual 92, 176, 0), (176, .istore 4, 178, 0), (178, .aload_n 0, 179, 0), (179, .iload_n 2, 180, 0), (180, .bipush 8, 182, 0), (182, .iload_n 3, 183, 0), (183, .imul, 184, 0), (184, .iadd, 185, 0), (185, .bipush 32, 187, 0), (187, .iload 4, 189, 0), (189, .imul, 190, 0), (190, .iadd, 191, 0), (191, .invokevirtual 78, 194, 0), (194, .return_, 195, 0)])
theorem okR_factor : tw_ok mR_factor := ⟨by decide, by decide +kernel⟩
def mR_every : tM := (⟨"TwinToolsModel", "every", "()V"⟩, prog_14_method_15_code, 1, none, [(0, .aload_n 0, 1, 0), (1, .invokevirtual 75, 4, 0), (4, .aload_n 0, 5, 0), (5, .getfield 48, 8, 0), (8, .ifCond .ne 35, 11, 43), (11, .aload_n 0, 12, 0), (12, .invokevirtual 52, 15, 0), (15, .bipush 38, 17, 0), (17, .if_icmp .ne 26, 20, 43), (20, .aload_n 0, 21, 0), (21, .dup, 22, 0), (22, .getfield 42, 25, 0), (25, .iconst 1, 26, 0), (26, .iadd, 27, 0), (27, .putfield 42, 30, 0), (30, .aload_n 0, 31, 0), (31, .invokevirtual 75, 34, 0), (34, .aload_n 0, 35, 0), (35, .bipush (-2), 37, 0), (37, .invokevirtual 78, 40, 0), (40, .goto (-36), 43, 4), (43, .return_, 44, 0)])
theorem okR_every : tw_ok mR_every := ⟨by decide, by decide +kernel⟩
def mR_some : tM := (⟨"TwinToolsModel", "some", "()V"⟩, prog_14_method_16_code, 1, none, [(0, .aload_n 0, 1, 0), (1, .invokevirtual 95, 4, 0), (4, .aload_n 0, 5, 0), (5, .getfield 48, 8, 0), (8, .ifCond .ne 35, 11, 43), (11, .aload_n 0, 12, 0), (12, .invokevirtual 52, 15, 0), (15, .bipush 124, 17, 0), (17, .if_icmp .ne 26, 20, 43), (20, .aload_n 0, 21, 0), (21, .dup, 22, 0), (22, .getfield 42, 25, 0), (25, .iconst 1, 26, 0), (26, .iadd, 27, 0), (27, .putfield 42, 30, 0), (30, .aload_n 0, 31, 0), (31, .invokevirtual 95, 34, 0), (34, .aload_n 0, 35, 0), (35, .bipush (-3), 37, 0), (37, .invokevirtual 78, 40, 0), (40, .goto (-36), 43, 4), (43, .return_, 44, 0)])
theorem okR_some : tw_ok mR_some := ⟨by decide, by decide +kernel⟩
def mR_much : tM := (⟨"TwinToolsModel", "much", "(ILjava/lang/String;)V"⟩, prog_14_method_17_code, 4, none, [(0, .aload_n 0, 1, 0), (1, .aload_n 2, 2, 0), (2, .invokevirtual 98, 5, 0), (5, .aload_n 0, 6, 0), (6, .invokevirtual 92, 9, 0), (9, .istore_n 3, 10, 0), (10, .aload_n 0, 11, 0), (11, .bipush 32, 13, 0), (13, .invokevirtual 65, 16, 0), (16, .aload_n 0, 17, 0), (17, .invokevirtual 81, 20, 0), (20, .aload_n 0, 21, 0), (21, .iload_n 1, 22, 0), (22, .iload_n 3, 23, 0), (23, .isub, 24, 0), (24, .invokevirtual 78, 27, 0), (27, .return_, 28, 0)])
theorem okR_much : tw_ok mR_much := ⟨by decide, by decide +kernel⟩
def mR_clauseHere : tM := (⟨"TwinToolsModel", "clauseHere", "()V"⟩, prog_14_method_18_code, 2, none, [(0, .aload_n 0, 1, 0), (1, .invokevirtual 52, 4, 0), (4, .lookupswitch 94 #[(98, 59), (108, 47), (119, 36)], 40, 0), (40, .aload_n 0, 41, 0), (41, .bipush (-10), 43, 0), (43, .ldc 102, 45, 0), (45, .invokevirtual 104, 48, 0), (48, .goto 55, 51, 103), (51, .aload_n 0, 52, 0), (52, .sipush (-200), 55, 0), (55, .ldc 108, 57, 0), (57, .invokevirtual 104, 60, 0), (60, .goto 43, 63, 103), (63, .aload_n 0, 64, 0), (64, .ldc 110, 66, 0), (66, .invokevirtual 98, 69, 0), (69, .aload_n 0, 70, 0), (70, .invokevirtual 92, 73, 0), (73, .istore_n 1, 74, 0), (74, .aload_n 0, 75, 0), (75, .getfield 48, 78, 0), (78, .ifCond .ne 25, 81, 103), (81, .aload_n 0, 82, 0), (82, .getfield 9, 85, 0), (85, .sipush 274, 88, 0), (88, .aload_n 0, 89, 0), (89, .getfield 69, 92, 0), (92, .iadd, 93, 0), (93, .iload_n 1, 94, 0), (94, .iastore, 95, 0), (95, .goto 8, 98, 103), (98, .aload_n 0, 99, 0), (99, .iconst 1, 100, 0), (100, .putfield 48, 103, 0), (103, .return_, 104, 0)])
theorem okR_clauseHere : tw_ok mR_clauseHere := ⟨by decide, by decide +kernel⟩
def mR_valley : tM := (⟨"TwinToolsModel", "valley", "()I"⟩, prog_14_method_19_code, 2, (some .int), [(0, .aload_n 0, 1, 0), (1, .getfield 9, 4, 0), (4, .iconst 2, 5, 0), (5, .iaload, 6, 0), (6, .iconst 5, 7, 0), (7, .if_icmp .ne 6, 10, 13), (10, .bipush (-4), 12, 0), (12, .ireturn, 13, 0), (13, .aload_n 0, 14, 0), (14, .aload_n 0, 15, 0), (15, .getfield 9, 18, 0), (18, .iconst 2, 19, 0), (19, .iaload, 20, 0), (20, .putfield 69, 23, 0), (23, .aload_n 0, 24, 0), (24, .aload_n 0, 25, 0), (25, .getfield 9, 28, 0), (28, .iconst 5, 29, 0), (29, .iaload, 30, 0), (30, .putfield 45, 33, 0), (33, .aload_n 0, 34, 0), (34, .getfield 9, 37, 0), (37, .iconst 5, 38, 0), (38, .iconst 0, 39, 0), (39, .iastore, 40, 0), (40, .aload_n 0, 41, 0), (41, .getfield 9, 44, 0), (44, .sipush 274, 47, 0), (47, .aload_n 0, 48, 0), (48, .getfield 69, 51, 0), (51, .iadd, 52, 0), (52, .bipush 6, 54, 0), (54, .iastore, 55, 0), (55, .aload_n 0, 56, 0), (56, .getfield 9, 59, 0), (59, .sipush 279, 62, 0), (62, .aload_n 0, 63, 0), (63, .getfield 69, 66, 0), (66, .iadd, 67, 0), (67, .iconst 0, 68, 0), (68, .iastore, 69, 0), (69, .aload_n 0, 70, 0), (70, .iconst 0, 71, 0), (71, .putfield 42, 74, 0), (74, .aload_n 0, 75, 0), (75, .iconst 0, 76, 0), (76, .putfield 48, 79, 0), (79, .aload_n 0, 80, 0), (80, .iconst 0, 81, 0), (81, .putfield 72, 84, 0), (84, .iconst 1, 85, 0), (85, .istore_n 1, 86, 0), (86, .aload_n 0, 87, 0), (87, .invokevirtual 112, 90, 0), (90, .aload_n 0, 91, 0), (91, .getfield 48, 94, 0), (94, .ifCond .ne 38, 97, 132), (97, .iload_n 1, 98, 0), (98, .bipush 10, 100, 0), (100, .if_icmp .ge 32, 103, 132), (103, .aload_n 0, 104, 0), (104, .invokevirtual 52, 107, 0), (107, .bipush 59, 109, 0), (109, .if_icmp .ne 23, 112, 132), (112, .aload_n 0, 113, 0), (113, .dup, 114, 0), (114, .getfield 42, 117, 0), (117, .iconst 1, 118, 0), (118, .iadd, 119, 0), (119, .putfield 42, 122, 0), (122, .aload_n 0, 123, 0), (123, .invokevirtual 112, 126, 0), (126, .iinc 1 1, 129, 0), (129, .goto (-39), 132, 90), (132, .aload_n 0, 133, 0), (133, .getfield 48, 136, 0), (136, .ifCond .ne 14, 139, 150), (139, .aload_n 0, 140, 0), (140, .getfield 42, 143, 0), (143, .aload_n 0, 144, 0), (144, .getfield 45, 147, 0), (147, .if_icmp .eq 11, 150, 158), (150, .bipush (-10), 152, 0), (152, .aload_n 0, 153, 0), (153, .getfield 42, 156, 0), (156, .isub, 157, 0), (157, .ireturn, 158, 0), (158, .aload_n 0, 159, 0), (159, .getfield 9, 162, 0), (162, .iconst 2, 163, 0), (163, .dup2, 164, 0), (164, .iaload, 165, 0), (165, .iconst 1, 166, 0), (166, .iadd, 167, 0), (167, .iastore, 168, 0), (168, .aload_n 0, 169, 0), (169, .getfield 9, 172, 0), (172, .bipush 6, 174, 0), (174, .aload_n 0, 175, 0), (175, .getfield 69, 178, 0), (178, .iastore, 179, 0), (179, .aload_n 0, 180, 0), (180, .getfield 69, 183, 0), (183, .ireturn, 184, 0)])
theorem okR_valley : tw_ok mR_valley := ⟨by decide, by decide +kernel⟩
def mR_bell : tM := (⟨"TwinToolsModel", "bell", "()I"⟩, prog_14_method_20_code, 2, (some .int), [(0, .aload_n 0, 1, 0), (1, .getfield 9, 4, 0), (4, .bipush 6, 6, 0), (6, .iaload, 7, 0), (7, .iconst (-1), 8, 0), (8, .if_icmp .ne 8, 11, 16), (11, .bipush 6, 13, 0), (13, .goto 19, 16, 32), (16, .aload_n 0, 17, 0), (17, .getfield 9, 20, 0), (20, .sipush 274, 23, 0), (23, .aload_n 0, 24, 0), (24, .getfield 9, 27, 0), (27, .bipush 6, 29, 0), (29, .iaload, 30, 0), (30, .iadd, 31, 0), (31, .iaload, 32, 0), (32, .istore_n 1, 33, 0), (33, .iload_n 1, 34, 0), (34, .iconst 1, 35, 0), (35, .if_icmp .ge 7, 38, 42), (38, .iconst 1, 39, 0), (39, .goto 4, 42, 43), (42, .iload_n 1, 43, 0), (43, .ireturn, 44, 0)])
theorem okR_bell : tw_ok mR_bell := ⟨by decide, by decide +kernel⟩
def mR_person : tM := (⟨"TwinToolsModel", "person", "(III)I"⟩, prog_14_method_21_code, 6, (some .int), [(0, .iload_n 1, 1, 0), (1, .iconst 0, 2, 0), (2, .bipush 6, 4, 0), (4, .invokestatic 38, 7, 0), (7, .ifCond .ne 5, 10, 12), (10, .iconst (-1), 11, 0), (11, .ireturn, 12, 0), (12, .iload_n 2, 13, 0), (13, .iconst 0, 14, 0), (14, .bipush 9, 16, 0), (16, .invokestatic 38, 19, 0), (19, .ifCond .eq 12, 22, 31), (22, .iload_n 3, 23, 0), (23, .iconst 0, 24, 0), (24, .iconst 3, 25, 0), (25, .invokestatic 38, 28, 0), (28, .ifCond .ne 6, 31, 34), (31, .bipush (-2), 33, 0), (33, .ireturn, 34, 0), (34, .aload_n 0, 35, 0), (35, .getfield 9, 38, 0), (38, .iconst 0, 39, 0), (39, .iaload, 40, 0), (40, .bipush 8, 42, 0), (42, .if_icmp .ne 6, 45, 48), (45, .bipush (-4), 47, 0), (47, .ireturn, 48, 0), (48, .aload_n 0, 49, 0), (49, .getfield 9, 52, 0), (52, .iconst 0, 53, 0), (53, .iaload, 54, 0), (54, .istore 4, 56, 0), (56, .aload_n 0, 57, 0), (57, .getfield 9, 60, 0), (60, .bipush 10, 62, 0), (62, .iload 4, 64, 0), (64, .iadd, 65, 0), (65, .iload_n 1, 66, 0), (66, .iastore, 67, 0), (67, .aload_n 0, 68, 0), (68, .getfield 9, 71, 0), (71, .bipush 18, 73, 0), (73, .iload 4, 75, 0), (75, .iadd, 76, 0), (76, .iload_n 2, 77, 0), (77, .iastore, 78, 0), (78, .aload_n 0, 79, 0), (79, .getfield 9, 82, 0), (82, .bipush 26, 84, 0), (84, .iload 4, 86, 0), (86, .iadd, 87, 0), (87, .iload_n 3, 88, 0), (88, .iastore, 89, 0), (89, .aload_n 0, 90, 0), (90, .getfield 9, 93, 0), (93, .bipush 34, 95, 0), (95, .iload 4, 97, 0), (97, .iadd, 98, 0), (98, .iconst 0, 99, 0), (99, .iastore, 100, 0), (100, .iconst 0, 101, 0), (101, .istore 5, 103, 0), (103, .iload 5, 105, 0), (105, .iconst 4, 106, 0), (106, .if_icmp .ge 25, 109, 131), (109, .aload_n 0, 110, 0), (110, .getfield 9, 113, 0), (113, .bipush 42, 115, 0), (115, .iconst 4, 116, 0), (116, .iload 4, 118, 0), (118, .imul, 119, 0), (119, .iadd, 120, 0), (120, .iload 5, 122, 0), (122, .iadd, 123, 0), (123, .iconst (-1), 124, 0), (124, .iastore, 125, 0), (125, .iinc 5 1, 128, 0), (128, .goto (-25), 131, 103), (131, .aload_n 0, 132, 0), (132, .getfield 9, 135, 0), (135, .iconst 0, 136, 0), (136, .dup2, 137, 0), (137, .iaload, 138, 0), (138, .iconst 1, 139, 0), (139, .iadd, 140, 0), (140, .iastore, 141, 0), (141, .iload 4, 143, 0), (143, .ireturn, 144, 0)])
theorem okR_person : tw_ok mR_person := ⟨by decide, by decide +kernel⟩
def mR_free : tM := (⟨"TwinToolsModel", "free", "(II)I"⟩, prog_14_method_22_code, 5, (some .int), [(0, .aload_n 0, 1, 0), (1, .iload_n 1, 2, 0), (2, .invokevirtual 115, 5, 0), (5, .ifCond .ne 5, 8, 10), (8, .iconst (-1), 9, 0), (9, .ireturn, 10, 0), (10, .iload_n 2, 11, 0), (11, .iconst 0, 12, 0), (12, .ldc 119, 14, 0), (14, .invokestatic 38, 17, 0), (17, .ifCond .ne 6, 20, 23), (20, .bipush (-2), 22, 0), (22, .ireturn, 23, 0), (23, .iconst 0, 24, 0), (24, .istore_n 3, 25, 0), (25, .iconst 0, 26, 0), (26, .istore 4, 28, 0), (28, .iload 4, 30, 0), (30, .bipush 24, 32, 0), (32, .if_icmp .ge 26, 35, 58), (35, .iload_n 3, 36, 0), (36, .aload_n 0, 37, 0), (37, .getfield 9, 40, 0), (40, .bipush 34, 42, 0), (42, .iload_n 1, 43, 0), (43, .iadd, 44, 0), (44, .iaload, 45, 0), (45, .iload 4, 47, 0), (47, .ishr, 48, 0), (48, .iconst 1, 49, 0), (49, .iand, 50, 0), (50, .iadd, 51, 0), (51, .istore_n 3, 52, 0), (52, .iinc 4 1, 55, 0), (55, .goto (-27), 58, 28), (58, .aload_n 0, 59, 0), (59, .getfield 9, 62, 0), (62, .bipush 34, 64, 0), (64, .iload_n 1, 65, 0), (65, .iadd, 66, 0), (66, .iload_n 2, 67, 0), (67, .iastore, 68, 0), (68, .iload_n 3, 69, 0), (69, .ireturn, 70, 0)])
theorem okR_free : tw_ok mR_free := ⟨by decide, by decide +kernel⟩
def mR_row : tM := (⟨"TwinToolsModel", "row", "(III)I"⟩, prog_14_method_23_code, 5, (some .int), [(0, .aload_n 0, 1, 0), (1, .iload_n 1, 2, 0), (2, .invokevirtual 115, 5, 0), (5, .ifCond .eq 12, 8, 17), (8, .iload_n 2, 9, 0), (9, .iconst 0, 10, 0), (10, .iconst 3, 11, 0), (11, .invokestatic 38, 14, 0), (14, .ifCond .ne 5, 17, 19), (17, .iconst (-1), 18, 0), (18, .ireturn, 19, 0), (19, .iload_n 3, 20, 0), (20, .iconst (-1), 21, 0), (21, .bipush 9, 23, 0), (23, .invokestatic 38, 26, 0), (26, .ifCond .ne 6, 29, 32), (29, .bipush (-2), 31, 0), (31, .ireturn, 32, 0), (32, .aload_n 0, 33, 0), (33, .getfield 9, 36, 0), (36, .bipush 10, 38, 0), (38, .iload_n 1, 39, 0), (39, .iadd, 40, 0), (40, .iaload, 41, 0), (41, .bipush 6, 43, 0), (43, .if_icmp .eq 6, 46, 49), (46, .bipush (-3), 48, 0), (48, .ireturn, 49, 0), (49, .aload_n 0, 50, 0), (50, .getfield 9, 53, 0), (53, .bipush 42, 55, 0), (55, .iconst 4, 56, 0), (56, .iload_n 1, 57, 0), (57, .imul, 58, 0), (58, .iadd, 59, 0), (59, .iload_n 2, 60, 0), (60, .iadd, 61, 0), (61, .iaload, 62, 0), (62, .istore 4, 64, 0), (64, .aload_n 0, 65, 0), (65, .getfield 9, 68, 0), (68, .bipush 42, 70, 0), (70, .iconst 4, 71, 0), (71, .iload_n 1, 72, 0), (72, .imul, 73, 0), (73, .iadd, 74, 0), (74, .iload_n 2, 75, 0), (75, .iadd, 76, 0), (76, .iload_n 3, 77, 0), (77, .iastore, 78, 0), (78, .iload 4, 80, 0), (80, .iconst (-1), 81, 0), (81, .if_icmp .ne 8, 84, 89), (84, .bipush (-5), 86, 0), (86, .goto 5, 89, 91), (89, .iload 4, 91, 0), (91, .ireturn, 92, 0)])
theorem okR_row : tw_ok mR_row := ⟨by decide, by decide +kernel⟩
def mR_tool : tM := (⟨"TwinToolsModel", "tool", "(II)I"⟩, prog_14_method_24_code, 4, (some .int), [(0, .aload_n 0, 1, 0), (1, .iload_n 2, 2, 0), (2, .invokevirtual 115, 5, 0), (5, .ifCond .ne 5, 8, 10), (8, .iconst (-1), 9, 0), (9, .ireturn, 10, 0), (10, .iload_n 1, 11, 0), (11, .iconst 0, 12, 0), (12, .iconst 3, 13, 0), (13, .invokestatic 38, 16, 0), (16, .ifCond .ne 6, 19, 22), (19, .bipush (-2), 21, 0), (21, .ireturn, 22, 0), (22, .aload_n 0, 23, 0), (23, .getfield 9, 26, 0), (26, .iconst 1, 27, 0), (27, .iaload, 28, 0), (28, .bipush 10, 30, 0), (30, .if_icmp .ne 6, 33, 36), (33, .bipush (-4), 35, 0), (35, .ireturn, 36, 0), (36, .aload_n 0, 37, 0), (37, .getfield 9, 40, 0), (40, .iconst 1, 41, 0), (41, .iaload, 42, 0), (42, .istore_n 3, 43, 0), (43, .aload_n 0, 44, 0), (44, .getfield 9, 47, 0), (47, .bipush 74, 49, 0), (49, .iload_n 3, 50, 0), (50, .iadd, 51, 0), (51, .iload_n 1, 52, 0), (52, .iastore, 53, 0), (53, .aload_n 0, 54, 0), (54, .getfield 9, 57, 0), (57, .bipush 84, 59, 0), (59, .iload_n 3, 60, 0), (60, .iadd, 61, 0), (61, .iload_n 2, 62, 0), (62, .iastore, 63, 0), (63, .aload_n 0, 64, 0), (64, .getfield 9, 67, 0), (67, .bipush 94, 69, 0), (69, .iload_n 3, 70, 0), (70, .iadd, 71, 0), (71, .iconst (-1), 72, 0), (72, .iastore, 73, 0), (73, .aload_n 0, 74, 0), (74, .getfield 9, 77, 0), (77, .bipush 104, 79, 0), (79, .iload_n 3, 80, 0), (80, .iadd, 81, 0), (81, .iconst 0, 82, 0), (82, .iastore, 83, 0), (83, .aload_n 0, 84, 0), (84, .getfield 9, 87, 0), (87, .iconst 1, 88, 0), (88, .dup2, 89, 0), (89, .iaload, 90, 0), (90, .iconst 1, 91, 0), (91, .iadd, 92, 0), (92, .iastore, 93, 0), (93, .iload_n 3, 94, 0), (94, .ireturn, 95, 0)])
theorem okR_tool : tw_ok mR_tool := ⟨by decide, by decide +kernel⟩
def mR_parts : tM := (⟨"TwinToolsModel", "parts", "(I)V"⟩, prog_14_method_25_code, 2, none, [(0, .aload_n 0, 1, 0), (1, .getfield 9, 4, 0), (4, .bipush 94, 6, 0), (6, .iload_n 1, 7, 0), (7, .iadd, 8, 0), (8, .iaload, 9, 0), (9, .iconst (-1), 10, 0), (10, .if_icmp .eq 31, 13, 41), (13, .aload_n 0, 14, 0), (14, .getfield 9, 17, 0), (17, .bipush 94, 19, 0), (19, .aload_n 0, 20, 0), (20, .getfield 9, 23, 0), (23, .bipush 94, 25, 0), (25, .iload_n 1, 26, 0), (26, .iadd, 27, 0), (27, .iaload, 28, 0), (28, .iadd, 29, 0), (29, .iconst (-1), 30, 0), (30, .iastore, 31, 0), (31, .aload_n 0, 32, 0), (32, .getfield 9, 35, 0), (35, .bipush 94, 37, 0), (37, .iload_n 1, 38, 0), (38, .iadd, 39, 0), (39, .iconst (-1), 40, 0), (40, .iastore, 41, 0), (41, .return_, 42, 0)])
theorem okR_parts : tw_ok mR_parts := ⟨by decide, by decide +kernel⟩
def mR_twin : tM := (⟨"TwinToolsModel", "twin", "(II)I"⟩, prog_14_method_26_code, 4, (some .int), [(0, .aload_n 0, 1, 0), (1, .iload_n 1, 2, 0), (2, .invokevirtual 120, 5, 0), (5, .ifCond .eq 11, 8, 16), (8, .aload_n 0, 9, 0), (9, .iload_n 2, 10, 0), (10, .invokevirtual 120, 13, 0), (13, .ifCond .ne 5, 16, 18), (16, .iconst (-1), 17, 0), (17, .ireturn, 18, 0), (18, .iload_n 1, 19, 0), (19, .iload_n 2, 20, 0), (20, .if_icmp .ne 6, 23, 26), (23, .bipush (-2), 25, 0), (25, .ireturn, 26, 0), (26, .aload_n 0, 27, 0), (27, .getfield 9, 30, 0), (30, .bipush 94, 32, 0), (32, .iload_n 1, 33, 0), (33, .iadd, 34, 0), (34, .iaload, 35, 0), (35, .iload_n 2, 36, 0), (36, .if_icmp .ne 7, 39, 43), (39, .iconst 1, 40, 0), (40, .goto 4, 43, 44), (43, .iconst 0, 44, 0), (44, .istore_n 3, 45, 0), (45, .aload_n 0, 46, 0), (46, .iload_n 1, 47, 0), (47, .invokevirtual 123, 50, 0), (50, .aload_n 0, 51, 0), (51, .iload_n 2, 52, 0), (52, .invokevirtual 123, 55, 0), (55, .aload_n 0, 56, 0), (56, .getfield 9, 59, 0), (59, .bipush 94, 61, 0), (61, .iload_n 1, 62, 0), (62, .iadd, 63, 0), (63, .iload_n 2, 64, 0), (64, .iastore, 65, 0), (65, .aload_n 0, 66, 0), (66, .getfield 9, 69, 0), (69, .bipush 94, 71, 0), (71, .iload_n 2, 72, 0), (72, .iadd, 73, 0), (73, .iload_n 1, 74, 0), (74, .iastore, 75, 0), (75, .iload_n 3, 76, 0), (76, .ireturn, 77, 0)])
theorem okR_twin : tw_ok mR_twin := ⟨by decide, by decide +kernel⟩
def mR_broken : tM := (⟨"TwinToolsModel", "broken", "(IZ)I"⟩, prog_14_method_27_code, 4, (some .int), [(0, .aload_n 0, 1, 0), (1, .iload_n 1, 2, 0), (2, .invokevirtual 120, 5, 0), (5, .ifCond .ne 5, 8, 10), (8, .iconst (-1), 9, 0), (9, .ireturn, 10, 0), (10, .aload_n 0, 11, 0), (11, .getfield 9, 14, 0), (14, .bipush 104, 16, 0), (16, .iload_n 1, 17, 0), (17, .iadd, 18, 0), (18, .iaload, 19, 0), (19, .istore_n 3, 20, 0), (20, .aload_n 0, 21, 0), (21, .getfield 9, 24, 0), (24, .bipush 104, 26, 0), (26, .iload_n 1, 27, 0), (27, .iadd, 28, 0), (28, .iload_n 2, 29, 0), (29, .ifCond .eq 7, 32, 36), (32, .iconst 1, 33, 0), (33, .goto 4, 36, 37), (36, .iconst 0, 37, 0), (37, .iastore, 38, 0), (38, .iload_n 3, 39, 0), (39, .ireturn, 40, 0)])
theorem okR_broken : tw_ok mR_broken := ⟨by decide, by decide +kernel⟩
def mR_give : tM := (⟨"TwinToolsModel", "give", "(II)I"⟩, prog_14_method_28_code, 4, (some .int), [(0, .aload_n 0, 1, 0), (1, .iload_n 1, 2, 0), (2, .invokevirtual 120, 5, 0), (5, .ifCond .eq 11, 8, 16), (8, .aload_n 0, 9, 0), (9, .iload_n 2, 10, 0), (10, .invokevirtual 115, 13, 0), (13, .ifCond .ne 5, 16, 18), (16, .iconst (-1), 17, 0), (17, .ireturn, 18, 0), (18, .aload_n 0, 19, 0), (19, .getfield 9, 22, 0), (22, .bipush 84, 24, 0), (24, .iload_n 1, 25, 0), (25, .iadd, 26, 0), (26, .iaload, 27, 0), (27, .istore_n 3, 28, 0), (28, .aload_n 0, 29, 0), (29, .getfield 9, 32, 0), (32, .bipush 84, 34, 0), (34, .iload_n 1, 35, 0), (35, .iadd, 36, 0), (36, .iload_n 2, 37, 0), (37, .iastore, 38, 0), (38, .iload_n 3, 39, 0), (39, .ireturn, 40, 0)])
theorem okR_give : tw_ok mR_give := ⟨by decide, by decide +kernel⟩
def mR_who : tM := (⟨"TwinToolsModel", "who", "(II)I"⟩, prog_14_method_29_code, 5, (some .int), [(0, .aload_n 0, 1, 0), (1, .iload_n 1, 2, 0), (2, .invokevirtual 115, 5, 0), (5, .ifCond .eq 12, 8, 17), (8, .iload_n 2, 9, 0), (9, .iconst 0, 10, 0), (10, .iconst 4, 11, 0), (11, .invokestatic 38, 14, 0), (14, .ifCond .ne 5, 17, 19), (17, .iconst (-1), 18, 0), (18, .ireturn, 19, 0), (19, .iload_n 2, 20, 0), (20, .iconst 4, 21, 0), (21, .if_icmp .ge 18, 24, 39), (24, .aload_n 0, 25, 0), (25, .getfield 9, 28, 0), (28, .bipush 10, 30, 0), (30, .bipush 8, 32, 0), (32, .iload_n 2, 33, 0), (33, .imul, 34, 0), (34, .iadd, 35, 0), (35, .iload_n 1, 36, 0), (36, .iadd, 37, 0), (37, .iaload, 38, 0), (38, .ireturn, 39, 0), (39, .iconst 0, 40, 0), (40, .istore_n 3, 41, 0), (41, .iconst 0, 42, 0), (42, .istore 4, 44, 0), (44, .iload 4, 46, 0), (46, .aload_n 0, 47, 0), (47, .getfield 9, 50, 0), (50, .iconst 1, 51, 0), (51, .iaload, 52, 0), (52, .if_icmp .ge 31, 55, 83), (55, .iload_n 3, 56, 0), (56, .aload_n 0, 57, 0), (57, .getfield 9, 60, 0), (60, .bipush 84, 62, 0), (62, .iload 4, 64, 0), (64, .iadd, 65, 0), (65, .iaload, 66, 0), (66, .iload_n 1, 67, 0), (67, .if_icmp .ne 7, 70, 74), (70, .iconst 1, 71, 0), (71, .goto 4, 74, 75), (74, .iconst 0, 75, 0), (75, .iadd, 76, 0), (76, .istore_n 3, 77, 0), (77, .iinc 4 1, 80, 0), (80, .goto (-36), 83, 44), (83, .iload_n 3, 84, 0), (84, .ireturn, 85, 0)])
theorem okR_who : tw_ok mR_who := ⟨by decide, by decide +kernel⟩
def mR_lesser : tM := (⟨"TwinToolsModel", "lesser", "(I)I"⟩, prog_14_method_30_code, 2, (some .int), [(0, .aload_n 0, 1, 0), (1, .getfield 9, 4, 0), (4, .bipush 94, 6, 0), (6, .iload_n 1, 7, 0), (7, .iadd, 8, 0), (8, .iaload, 9, 0), (9, .iload_n 1, 10, 0), (10, .if_icmp .ge 15, 13, 25), (13, .aload_n 0, 14, 0), (14, .getfield 9, 17, 0), (17, .bipush 94, 19, 0), (19, .iload_n 1, 20, 0), (20, .iadd, 21, 0), (21, .iaload, 22, 0), (22, .goto 4, 25, 26), (25, .iload_n 1, 26, 0), (26, .ireturn, 27, 0)])
theorem okR_lesser : tw_ok mR_lesser := ⟨by decide, by decide +kernel⟩
def mR_worthOf : tM := (⟨"TwinToolsModel", "worthOf", "(II)I"⟩, prog_14_method_31_code, 14, (some .int), [(0, .aload_n 0, 1, 0), (1, .iload_n 1, 2, 0), (2, .invokevirtual 126, 5, 0), (5, .istore_n 3, 6, 0), (6, .aload_n 0, 7, 0), (7, .getfield 9, 10, 0), (10, .bipush 94, 12, 0), (12, .iload_n 3, 13, 0), (13, .iadd, 14, 0), (14, .iaload, 15, 0), (15, .istore 4, 17, 0), (17, .aload_n 0, 18, 0), (18, .getfield 18, 21, 0), (21, .iconst 0, 22, 0), (22, .iload_n 2, 23, 0), (23, .iastore, 24, 0), (24, .aload_n 0, 25, 0), (25, .getfield 18, 28, 0), (28, .iconst 1, 29, 0), (29, .aload_n 0, 30, 0), (30, .getfield 9, 33, 0), (33, .bipush 74, 35, 0), (35, .iload_n 3, 36, 0), (36, .iadd, 37, 0), (37, .iaload, 38, 0), (38, .iastore, 39, 0), (39, .aload_n 0, 40, 0), (40, .getfield 18, 43, 0), (43, .iconst 2, 44, 0), (44, .iload_n 3, 45, 0), (45, .iastore, 46, 0), (46, .aload_n 0, 47, 0), (47, .getfield 18, 50, 0), (50, .iconst 3, 51, 0), (51, .aload_n 0, 52, 0), (52, .getfield 9, 55, 0), (55, .bipush 10, 57, 0), (57, .aload_n 0, 58, 0), (58, .getfield 9, 61, 0), (61, .bipush 84, 63, 0), (63, .iload_n 3, 64, 0), (64, .iadd, 65, 0), (65, .iaload, 66, 0), (66, .iadd, 67, 0), (67, .iaload, 68, 0), (68, .iastore, 69, 0), (69, .aload_n 0, 70, 0), (70, .getfield 18, 73, 0), (73, .iconst 4, 74, 0), (74, .aload_n 0, 75, 0), (75, .getfield 9, 78, 0), (78, .bipush 26, 80, 0), (80, .aload_n 0, 81, 0), (81, .getfield 9, 84, 0), (84, .bipush 84, 86, 0), (86, .iload_n 3, 87, 0), (87, .iadd, 88, 0), (88, .iaload, 89, 0), (89, .iadd, 90, 0), (90, .iaload, 91, 0), (91, .aload_n 0, 92, 0), (92, .getfield 9, 95, 0), (95, .bipush 26, 97, 0), (97, .aload_n 0, 98, 0), (98, .getfield 9, 101, 0), (101, .bipush 84, 103, 0), (103, .iload 4, 105, 0), (105, .iadd, 106, 0), (106, .iaload, 107, 0), (107, .iadd, 108, 0), (108, .iaload, 109, 0), (109, .if_icmp .ne 7, 112, 116), (112, .iconst 1, 113, 0), (113, .goto 4, 116, 117), (116, .iconst 0, 117, 0), (117, .iastore, 118, 0), (118, .iconst 0, 119, 0), (119, .istore 5, 121, 0), (121, .aload_n 0, 122, 0), (122, .getfield 9, 125, 0), (125, .bipush 6, 127, 0), (127, .iaload, 128, 0), (128, .iconst (-1), 129, 0), (129, .if_icmp .ne 7, 132, 136), (132, .iconst 0, 133, 0), (133, .goto 19, 136, 152), (136, .aload_n 0, 137, 0), (137, .getfield 9, 140, 0), (140, .sipush 279, 143, 0), (143, .aload_n 0, 144, 0), (144, .getfield 9, 147, 0), (147, .bipush 6, 149, 0), (149, .iaload, 150, 0), (150, .iadd, 151, 0), (151, .iaload, 152, 0), (152, .istore 6, 154, 0), (154, .sipush 284, 157, 0), (157, .sipush 140, 160, 0), (160, .aload_n 0, 161, 0), (161, .getfield 9, 164, 0), (164, .bipush 6, 166, 0), (166, .iaload, 167, 0), (167, .imul, 168, 0), (168, .iadd, 169, 0), (169, .istore 7, 171, 0), (171, .iconst 0, 172, 0), (172, .istore 8, 174, 0), (174, .iload 7, 176, 0), (176, .istore 9, 178, 0), (178, .iload 9, 180, 0), (180, .iload 7, 182, 0), (182, .iload 6, 184, 0), (184, .iadd, 185, 0), (185, .if_icmp .ge 281, 188, 466), (188, .aload_n 0, 189, 0), (189, .getfield 9, 192, 0), (192, .iload 9, 194, 0), (194, .iaload, 195, 0), (195, .istore 10, 197, 0), (197, .iload 10, 199, 0), (199, .ifCond .lt 97, 202, 296), (202, .aload_n 0, 203, 0), (203, .getfield 18, 206, 0), (206, .iload 10, 208, 0), (208, .bipush 8, 210, 0), (210, .irem, 211, 0), (211, .iaload, 212, 0), (212, .istore 11, 214, 0), (214, .iload 10, 216, 0), (216, .bipush 8, 218, 0), (218, .idiv, 219, 0), (219, .iconst 4, 220, 0), (220, .irem, 221, 0), (221, .istore 12, 223, 0), (223, .iload 10, 225, 0), (225, .bipush 32, 227, 0), (227, .idiv, 228, 0), (228, .istore 13, 230, 0), (230, .aload_n 0, 231, 0), (231, .getfield 21, 234, 0), (234, .iload 8, 236, 0), (236, .iload 12, 238, 0), (238, .ifCond .ne 18, 241, 256), (241, .iload 11, 243, 0), (243, .iload 13, 245, 0), (245, .if_icmp .ge 7, 248, 252), (248, .iconst 1, 249, 0), (249, .goto 40, 252, 289), (252, .iconst 0, 253, 0), (253, .goto 36, 256, 289), (256, .iload 12, 258, 0), (258, .iconst 1, 259, 0), (259, .if_icmp .ne 18, 262, 277), (262, .iload 11, 264, 0), (264, .iload 13, 266, 0), (266, .if_icmp .ne 7, 269, 273), (269, .iconst 1, 270, 0), (270, .goto 19, 273, 289), (273, .iconst 0, 274, 0), (274, .goto 15, 277, 289), (277, .iload 11, 279, 0), (279, .iload 13, 281, 0), (281, .if_icmp .le 7, 284, 288), (284, .iconst 1, 285, 0), (285, .goto 4, 288, 289), (288, .iconst 0, 289, 0), (289, .bastore, 290, 0), (290, .iinc 8 1, 293, 0), (293, .goto 167, 296, 460), (296, .iload 10, 298, 0), (298, .iconst (-1), 299, 0), (299, .if_icmp .ne 32, 302, 331), (302, .aload_n 0, 303, 0), (303, .getfield 21, 306, 0), (306, .iload 8, 308, 0), (308, .iconst 1, 309, 0), (309, .isub, 310, 0), (310, .aload_n 0, 311, 0), (311, .getfield 21, 314, 0), (314, .iload 8, 316, 0), (316, .iconst 1, 317, 0), (317, .isub, 318, 0), (318, .baload, 319, 0), (319, .ifCond .ne 7, 322, 326), (322, .iconst 1, 323, 0), (323, .goto 4, 326, 327), (326, .iconst 0, 327, 0), (327, .bastore, 328, 0), (328, .goto 132, 331, 460), (331, .iload 10, 333, 0), (333, .bipush (-10), 335, 0), (335, .if_icmp .le 82, 338, 417), (338, .iinc 8 (-1), 341, 0), (341, .aload_n 0, 342, 0), (342, .getfield 21, 345, 0), (345, .iload 8, 347, 0), (347, .iconst 1, 348, 0), (348, .isub, 349, 0), (349, .iload 10, 351, 0), (351, .bipush (-2), 353, 0), (353, .if_icmp .ne 33, 356, 386), (356, .aload_n 0, 357, 0), (357, .getfield 21, 360, 0), (360, .iload 8, 362, 0), (362, .iconst 1, 363, 0), (363, .isub, 364, 0), (364, .baload, 365, 0), (365, .ifCond .eq 17, 368, 382), (368, .aload_n 0, 369, 0), (369, .getfield 21, 372, 0), (372, .iload 8, 374, 0), (374, .baload, 375, 0), (375, .ifCond .eq 7, 378, 382), (378, .iconst 1, 379, 0), (379, .goto 34, 382, 413), (382, .iconst 0, 383, 0), (383, .goto 30, 386, 413), (386, .aload_n 0, 387, 0), (387, .getfield 21, 390, 0), (390, .iload 8, 392, 0), (392, .iconst 1, 393, 0), (393, .isub, 394, 0), (394, .baload, 395, 0), (395, .ifCond .ne 13, 398, 408), (398, .aload_n 0, 399, 0), (399, .getfield 21, 402, 0), (402, .iload 8, 404, 0), (404, .baload, 405, 0), (405, .ifCond .eq 7, 408, 412), (408, .iconst 1, 409, 0), (409, .goto 4, 412, 413), (412, .iconst 0, 413, 0), (413, .bastore, 414, 0), (414, .goto 46, 417, 460), (417, .iconst 0, 418, 0), (418, .istore 8, 420, 0), (420, .iload 5, 422, 0), (422, .aload_n 0, 423, 0), (423, .getfield 21, 426, 0), (426, .iconst 0, 427, 0), (427, .baload, 428, 0), (428, .ifCond .ne 7, 431, 435), (431, .iconst 0, 432, 0), (432, .goto 25, 435, 457), (435, .iload 10, 437, 0), (437, .sipush (-200), 440, 0), (440, .if_icmp .le 11, 443, 451), (443, .bipush (-10), 445, 0), (445, .iload 10, 447, 0), (447, .isub, 448, 0), (448, .goto 9, 451, 457), (451, .iload 10, 453, 0), (453, .sipush (-200), 456, 0), (456, .isub, 457, 0), (457, .iadd, 458, 0), (458, .istore 5, 460, 0), (460, .iinc 9 1, 463, 0), (463, .goto (-285), 466, 178), (466, .iload 5, 468, 0), (468, .ireturn, 469, 0)])
theorem okR_worthOf : tw_ok mR_worthOf := ⟨by decide, by decide +kernel⟩
def mR_worth : tM := (⟨"TwinToolsModel", "worth", "(II)I"⟩, prog_14_method_32_code, 3, (some .int), [(0, .aload_n 0, 1, 0), (1, .iload_n 1, 2, 0), (2, .invokevirtual 120, 5, 0), (5, .ifCond .eq 32, 8, 37), (8, .iload_n 2, 9, 0), (9, .invokestatic 130, 12, 0), (12, .ifCond .eq 25, 15, 37), (15, .aload_n 0, 16, 0), (16, .getfield 9, 19, 0), (19, .bipush 94, 21, 0), (21, .iload_n 1, 22, 0), (22, .iadd, 23, 0), (23, .iaload, 24, 0), (24, .iconst (-1), 25, 0), (25, .if_icmp .eq 12, 28, 37), (28, .aload_n 0, 29, 0), (29, .iload_n 1, 30, 0), (30, .iload_n 2, 31, 0), (31, .invokevirtual 133, 34, 0), (34, .goto 6, 37, 40), (37, .sipush (-10001), 40, 0), (40, .ireturn, 41, 0)])
theorem okR_worth : tw_ok mR_worth := ⟨by decide, by decide +kernel⟩
def mR_isFree : tM := (⟨"TwinToolsModel", "isFree", "(II)Z"⟩, prog_14_method_33_code, 3, (some .boolean), [(0, .aload_n 0, 1, 0), (1, .getfield 9, 4, 0), (4, .bipush 34, 6, 0), (6, .iload_n 1, 7, 0), (7, .iadd, 8, 0), (8, .iaload, 9, 0), (9, .iload_n 2, 10, 0), (10, .ishr, 11, 0), (11, .iconst 1, 12, 0), (12, .iand, 13, 0), (13, .iconst 1, 14, 0), (14, .if_icmp .ne 7, 17, 21), (17, .iconst 1, 18, 0), (18, .goto 4, 21, 22), (21, .iconst 0, 22, 0), (22, .ireturn, 23, 0)])
theorem okR_isFree : tw_ok mR_isFree := ⟨by decide, by decide +kernel⟩
def mR_isFit : tM := (⟨"TwinToolsModel", "isFit", "(II)Z"⟩, prog_14_method_34_code, 3, (some .boolean), [(0, .aload_n 0, 1, 0), (1, .getfield 9, 4, 0), (4, .bipush 84, 6, 0), (6, .iload_n 2, 7, 0), (7, .iadd, 8, 0), (8, .iaload, 9, 0), (9, .iload_n 1, 10, 0), (10, .if_icmp .ne 32, 13, 42), (13, .aload_n 0, 14, 0), (14, .getfield 9, 17, 0), (17, .bipush 104, 19, 0), (19, .iload_n 2, 20, 0), (20, .iadd, 21, 0), (21, .iaload, 22, 0), (22, .ifCond .ne 20, 25, 42), (25, .aload_n 0, 26, 0), (26, .getfield 9, 29, 0), (29, .bipush 94, 31, 0), (31, .iload_n 2, 32, 0), (32, .iadd, 33, 0), (33, .iaload, 34, 0), (34, .iconst (-1), 35, 0), (35, .if_icmp .eq 7, 38, 42), (38, .iconst 1, 39, 0), (39, .goto 4, 42, 43), (42, .iconst 0, 43, 0), (43, .ireturn, 44, 0)])
theorem okR_isFit : tw_ok mR_isFit := ⟨by decide, by decide +kernel⟩
def mR_atLeast : tM := (⟨"TwinToolsModel", "atLeast", "(I)I"⟩, prog_14_method_35_code, 3, (some .int), [(0, .iconst 0, 1, 0), (1, .istore_n 2, 2, 0), (2, .iload_n 2, 3, 0), (3, .aload_n 0, 4, 0), (4, .getfield 9, 7, 0), (7, .iconst 1, 8, 0), (8, .iaload, 9, 0), (9, .if_icmp .ge 20, 12, 29), (12, .aload_n 0, 13, 0), (13, .iload_n 1, 14, 0), (14, .iload_n 2, 15, 0), (15, .invokevirtual 137, 18, 0), (18, .ifCond .eq 5, 21, 23), (21, .iload_n 2, 22, 0), (22, .ireturn, 23, 0), (23, .iinc 2 1, 26, 0), (26, .goto (-24), 29, 2), (29, .iconst (-1), 30, 0), (30, .ireturn, 31, 0)])
theorem okR_atLeast : tw_ok mR_atLeast := ⟨by decide, by decide +kernel⟩
def mR_atBest : tM := (⟨"TwinToolsModel", "atBest", "(IIZ)I"⟩, prog_14_method_36_code, 11, (some .int), [(0, .iconst (-1), 1, 0), (1, .istore 4, 3, 0), (3, .iconst 0, 4, 0), (4, .istore 5, 6, 0), (6, .iconst 0, 7, 0), (7, .istore 6, 9, 0), (9, .iload 6, 11, 0), (11, .aload_n 0, 12, 0), (12, .getfield 9, 15, 0), (15, .iconst 1, 16, 0), (16, .iaload, 17, 0), (17, .if_icmp .ge 128, 20, 145), (20, .aload_n 0, 21, 0), (21, .iload_n 1, 22, 0), (22, .iload 6, 24, 0), (24, .invokevirtual 137, 27, 0), (27, .ifCond .eq 112, 30, 139), (30, .aload_n 0, 31, 0), (31, .getfield 9, 34, 0), (34, .bipush 84, 36, 0), (36, .aload_n 0, 37, 0), (37, .getfield 9, 40, 0), (40, .bipush 94, 42, 0), (42, .iload 6, 44, 0), (44, .iadd, 45, 0), (45, .iaload, 46, 0), (46, .iadd, 47, 0), (47, .iaload, 48, 0), (48, .istore 7, 50, 0), (50, .aload_n 0, 51, 0), (51, .iload 6, 53, 0), (53, .iload_n 2, 54, 0), (54, .invokevirtual 133, 57, 0), (57, .istore 8, 59, 0), (59, .iload_n 3, 60, 0), (60, .ifCond .eq 19, 63, 79), (63, .iload 7, 65, 0), (65, .iload_n 1, 66, 0), (66, .if_icmp .eq 17, 69, 83), (69, .aload_n 0, 70, 0), (70, .iload 7, 72, 0), (72, .iload_n 2, 73, 0), (73, .invokevirtual 141, 76, 0), (76, .ifCond .eq 7, 79, 83), (79, .iconst 1, 80, 0), (80, .goto 4, 83, 84), (83, .iconst 0, 84, 0), (84, .istore 9, 86, 0), (86, .iload 9, 88, 0), (88, .ifCond .eq 20, 91, 108), (91, .iload 4, 93, 0), (93, .iconst (-1), 94, 0), (94, .if_icmp .eq 10, 97, 104), (97, .iload 8, 99, 0), (99, .iload 5, 101, 0), (101, .if_icmp .le 7, 104, 108), (104, .iconst 1, 105, 0), (105, .goto 4, 108, 109), (108, .iconst 0, 109, 0), (109, .istore 10, 111, 0), (111, .iload 10, 113, 0), (113, .ifCond .eq 8, 116, 121), (116, .iload 6, 118, 0), (118, .goto 5, 121, 123), (121, .iload 4, 123, 0), (123, .istore 4, 125, 0), (125, .iload 10, 127, 0), (127, .ifCond .eq 8, 130, 135), (130, .iload 8, 132, 0), (132, .goto 5, 135, 137), (135, .iload 5, 137, 0), (137, .istore 5, 139, 0), (139, .iinc 6 1, 142, 0), (142, .goto (-133), 145, 9), (145, .iload 4, 147, 0), (147, .ireturn, 148, 0)])
theorem okR_atBest : tw_ok mR_atBest := ⟨by decide, by decide +kernel⟩
def mR_atHome : tM := (⟨"TwinToolsModel", "atHome", "(I)I"⟩, prog_14_method_37_code, 3, (some .int), [(0, .iconst 0, 1, 0), (1, .istore_n 2, 2, 0), (2, .iload_n 2, 3, 0), (3, .aload_n 0, 4, 0), (4, .getfield 9, 7, 0), (7, .iconst 1, 8, 0), (8, .iaload, 9, 0), (9, .if_icmp .ge 57, 12, 66), (12, .aload_n 0, 13, 0), (13, .iload_n 1, 14, 0), (14, .iload_n 2, 15, 0), (15, .invokevirtual 137, 18, 0), (18, .ifCond .eq 42, 21, 60), (21, .aload_n 0, 22, 0), (22, .getfield 9, 25, 0), (25, .bipush 26, 27, 0), (27, .aload_n 0, 28, 0), (28, .getfield 9, 31, 0), (31, .bipush 84, 33, 0), (33, .aload_n 0, 34, 0), (34, .getfield 9, 37, 0), (37, .bipush 94, 39, 0), (39, .iload_n 2, 40, 0), (40, .iadd, 41, 0), (41, .iaload, 42, 0), (42, .iadd, 43, 0), (43, .iaload, 44, 0), (44, .iadd, 45, 0), (45, .iaload, 46, 0), (46, .aload_n 0, 47, 0), (47, .getfield 9, 50, 0), (50, .bipush 26, 52, 0), (52, .iload_n 1, 53, 0), (53, .iadd, 54, 0), (54, .iaload, 55, 0), (55, .if_icmp .ne 5, 58, 60), (58, .iload_n 2, 59, 0), (59, .ireturn, 60, 0), (60, .iinc 2 1, 63, 0), (63, .goto (-61), 66, 2), (66, .aload_n 0, 67, 0), (67, .iload_n 1, 68, 0), (68, .invokevirtual 144, 71, 0), (71, .ireturn, 72, 0)])
theorem okR_atHome : tw_ok mR_atHome := ⟨by decide, by decide +kernel⟩
def mR_atOf : tM := (⟨"TwinToolsModel", "atOf", "(II)I"⟩, prog_14_method_38_code, 6, (some .int), [(0, .aload_n 0, 1, 0), (1, .getfield 9, 4, 0), (4, .bipush 18, 6, 0), (6, .iload_n 1, 7, 0), (7, .iadd, 8, 0), (8, .iaload, 9, 0), (9, .istore_n 3, 10, 0), (10, .aload_n 0, 11, 0), (11, .iload_n 1, 12, 0), (12, .iload_n 2, 13, 0), (13, .invokevirtual 141, 16, 0), (16, .istore 4, 18, 0), (18, .aload_n 0, 19, 0), (19, .getfield 9, 22, 0), (22, .bipush 10, 24, 0), (24, .iload_n 1, 25, 0), (25, .iadd, 26, 0), (26, .iaload, 27, 0), (27, .tableswitch 241 1 6 #[37, 63, 78, 95, 152, 179], 64, 0), (64, .iload 4, 66, 0), (66, .ifCond .eq 22, 69, 88), (69, .iload_n 2, 70, 0), (70, .aload_n 0, 71, 0), (71, .invokevirtual 147, 74, 0), (74, .irem, 75, 0), (75, .ifCond .ne 13, 78, 88), (78, .aload_n 0, 79, 0), (79, .iload_n 1, 80, 0), (80, .iload_n 2, 81, 0), (81, .iconst 0, 82, 0), (82, .invokevirtual 150, 85, 0), (85, .goto 4, 88, 89), (88, .iconst (-1), 89, 0), (89, .ireturn, 90, 0), (90, .iload 4, 92, 0), (92, .ifCond .eq 11, 95, 103), (95, .aload_n 0, 96, 0), (96, .iload_n 1, 97, 0), (97, .invokevirtual 154, 100, 0), (100, .goto 4, 103, 104), (103, .iconst (-1), 104, 0), (104, .ireturn, 105, 0), (105, .iload 4, 107, 0), (107, .ifCond .eq 13, 110, 120), (110, .aload_n 0, 111, 0), (111, .iload_n 1, 112, 0), (112, .iload_n 2, 113, 0), (113, .iconst 1, 114, 0), (114, .invokevirtual 150, 117, 0), (117, .goto 4, 120, 121), (120, .iconst (-1), 121, 0), (121, .ireturn, 122, 0), (122, .iload 4, 124, 0), (124, .ifCond .eq 22, 127, 146), (127, .iload_n 2, 128, 0), (128, .aload_n 0, 129, 0), (129, .invokevirtual 147, 132, 0), (132, .irem, 133, 0), (133, .ifCond .ne 13, 136, 146), (136, .aload_n 0, 137, 0), (137, .iload_n 1, 138, 0), (138, .iload_n 2, 139, 0), (139, .iconst 0, 140, 0), (140, .invokevirtual 150, 143, 0), (143, .goto 4, 146, 147), (146, .iconst (-1), 147, 0), (147, .istore 5, 149, 0), (149, .iload 5, 151, 0), (151, .iconst (-1), 152, 0), (152, .if_icmp .ne 24, 155, 176), (155, .aload_n 0, 156, 0), (156, .iload_n 3, 157, 0), (157, .invokevirtual 120, 160, 0), (160, .ifCond .eq 16, 163, 176), (163, .aload_n 0, 164, 0), (164, .iload_n 1, 165, 0), (165, .iload_n 3, 166, 0), (166, .invokevirtual 137, 169, 0), (169, .ifCond .eq 7, 172, 176), (172, .iload_n 3, 173, 0), (173, .goto 5, 176, 178), (176, .iload 5, 178, 0), (178, .ireturn, 179, 0), (179, .aload_n 0, 180, 0), (180, .iload_n 1, 181, 0), (181, .iload_n 2, 182, 0), (182, .iload_n 3, 183, 0), (183, .isub, 184, 0), (184, .bipush 24, 186, 0), (186, .iadd, 187, 0), (187, .bipush 24, 189, 0), (189, .irem, 190, 0), (190, .invokevirtual 141, 193, 0), (193, .ifCond .eq 11, 196, 204), (196, .aload_n 0, 197, 0), (197, .iload_n 1, 198, 0), (198, .invokevirtual 154, 201, 0), (201, .goto 4, 204, 205), (204, .iconst (-1), 205, 0), (205, .ireturn, 206, 0), (206, .aload_n 0, 207, 0), (207, .getfield 9, 210, 0), (210, .bipush 42, 212, 0), (212, .iconst 4, 213, 0), (213, .iload_n 1, 214, 0), (214, .imul, 215, 0), (215, .iadd, 216, 0), (216, .iload_n 2, 217, 0), (217, .iconst 4, 218, 0), (218, .irem, 219, 0), (219, .iadd, 220, 0), (220, .iaload, 221, 0), (221, .istore 5, 223, 0), (223, .iload 4, 225, 0), (225, .ifCond .ne 7, 228, 232), (228, .iconst (-1), 229, 0), (229, .goto 38, 232, 267), (232, .aload_n 0, 233, 0), (233, .iload 5, 235, 0), (235, .invokevirtual 120, 238, 0), (238, .ifCond .eq 22, 241, 260), (241, .aload_n 0, 242, 0), (242, .getfield 9, 245, 0), (245, .bipush 84, 247, 0), (247, .iload 5, 249, 0), (249, .iadd, 250, 0), (250, .iaload, 251, 0), (251, .iload_n 1, 252, 0), (252, .if_icmp .ne 8, 255, 260), (255, .iload 5, 257, 0), (257, .goto 10, 260, 267), (260, .aload_n 0, 261, 0), (261, .iload_n 1, 262, 0), (262, .iload_n 2, 263, 0), (263, .iconst 1, 264, 0), (264, .invokevirtual 150, 267, 0), (267, .ireturn, 268, 0), (268, .iload 4, 270, 0), (270, .ifCond .eq 11, 273, 281), (273, .aload_n 0, 274, 0), (274, .iload_n 1, 275, 0), (275, .invokevirtual 144, 278, 0), (278, .goto 4, 281, 282), (281, .iconst (-1), 282, 0), (282, .ireturn, 283, 0)])
theorem okR_atOf : tw_ok mR_atOf := ⟨by decide, by decide +kernel⟩
def mR_at : tM := (⟨"TwinToolsModel", "at", "(II)I"⟩, prog_14_method_39_code, 4, (some .int), [(0, .aload_n 0, 1, 0), (1, .iload_n 1, 2, 0), (2, .invokevirtual 115, 5, 0), (5, .ifCond .eq 10, 8, 15), (8, .iload_n 2, 9, 0), (9, .invokestatic 130, 12, 0), (12, .ifCond .ne 5, 15, 17), (15, .iconst (-1), 16, 0), (16, .ireturn, 17, 0), (17, .aload_n 0, 18, 0), (18, .iload_n 1, 19, 0), (19, .iload_n 2, 20, 0), (20, .invokevirtual 157, 23, 0), (23, .istore_n 3, 24, 0), (24, .iload_n 3, 25, 0), (25, .iconst (-1), 26, 0), (26, .if_icmp .ne 8, 29, 34), (29, .bipush (-5), 31, 0), (31, .goto 4, 34, 35), (34, .iload_n 3, 35, 0), (35, .ireturn, 36, 0)])
theorem okR_at : tw_ok mR_at := ⟨by decide, by decide +kernel⟩
def mR_workedAt : tM := (⟨"TwinToolsModel", "workedAt", "(I)I"⟩, prog_14_method_40_code, 5, (some .int), [(0, .iconst 0, 1, 0), (1, .istore_n 2, 2, 0), (2, .iconst 0, 3, 0), (3, .istore_n 3, 4, 0), (4, .iload_n 3, 5, 0), (5, .aload_n 0, 6, 0), (6, .getfield 9, 9, 0), (9, .iconst 0, 10, 0), (10, .iaload, 11, 0), (11, .if_icmp .ge 34, 14, 45), (14, .aload_n 0, 15, 0), (15, .iload_n 3, 16, 0), (16, .iload_n 1, 17, 0), (17, .invokevirtual 157, 20, 0), (20, .istore 4, 22, 0), (22, .iload_n 2, 23, 0), (23, .iload 4, 25, 0), (25, .iconst (-1), 26, 0), (26, .if_icmp .ne 7, 29, 33), (29, .iconst 0, 30, 0), (30, .goto 7, 33, 37), (33, .iconst 1, 34, 0), (34, .iload 4, 36, 0), (36, .ishl, 37, 0), (37, .ior, 38, 0), (38, .istore_n 2, 39, 0), (39, .iinc 3 1, 42, 0), (42, .goto (-38), 45, 4), (45, .iload_n 2, 46, 0), (46, .ireturn, 47, 0)])
theorem okR_workedAt : tw_ok mR_workedAt := ⟨by decide, by decide +kernel⟩
def mR_doesGo : tM := (⟨"TwinToolsModel", "doesGo", "(II)Z"⟩, prog_14_method_41_code, 4, (some .boolean), [(0, .aload_n 0, 1, 0), (1, .getfield 9, 4, 0), (4, .bipush 94, 6, 0), (6, .iload_n 1, 7, 0), (7, .iadd, 8, 0), (8, .iaload, 9, 0), (9, .istore_n 3, 10, 0), (10, .iload_n 3, 11, 0), (11, .iconst (-1), 12, 0), (12, .if_icmp .eq 49, 15, 61), (15, .iload_n 2, 16, 0), (16, .iload_n 1, 17, 0), (17, .ishr, 18, 0), (18, .iconst 1, 19, 0), (19, .iand, 20, 0), (20, .iconst 1, 21, 0), (21, .if_icmp .ne 40, 24, 61), (24, .iload_n 2, 25, 0), (25, .iload_n 3, 26, 0), (26, .ishr, 27, 0), (27, .iconst 1, 28, 0), (28, .iand, 29, 0), (29, .iconst 1, 30, 0), (30, .if_icmp .ne 31, 33, 61), (33, .aload_n 0, 34, 0), (34, .getfield 9, 37, 0), (37, .bipush 104, 39, 0), (39, .iload_n 1, 40, 0), (40, .iadd, 41, 0), (41, .iaload, 42, 0), (42, .ifCond .ne 19, 45, 61), (45, .aload_n 0, 46, 0), (46, .getfield 9, 49, 0), (49, .bipush 104, 51, 0), (51, .iload_n 3, 52, 0), (52, .iadd, 53, 0), (53, .iaload, 54, 0), (54, .ifCond .ne 7, 57, 61), (57, .iconst 1, 58, 0), (58, .goto 4, 61, 62), (61, .iconst 0, 62, 0), (62, .ireturn, 63, 0)])
theorem okR_doesGo : tw_ok mR_doesGo := ⟨by decide, by decide +kernel⟩
def mR_going : tM := (⟨"TwinToolsModel", "going", "(I)I"⟩, prog_14_method_42_code, 5, (some .int), [(0, .aload_n 0, 1, 0), (1, .iload_n 1, 2, 0), (2, .invokevirtual 160, 5, 0), (5, .istore_n 2, 6, 0), (6, .iconst 0, 7, 0), (7, .istore_n 3, 8, 0), (8, .iconst 0, 9, 0), (9, .istore 4, 11, 0), (11, .iload 4, 13, 0), (13, .aload_n 0, 14, 0), (14, .getfield 9, 17, 0), (17, .iconst 1, 18, 0), (18, .iaload, 19, 0), (19, .if_icmp .ge 45, 22, 64), (22, .iload_n 3, 23, 0), (23, .aload_n 0, 24, 0), (24, .iload 4, 26, 0), (26, .iload_n 2, 27, 0), (27, .invokevirtual 163, 30, 0), (30, .ifCond .eq 25, 33, 55), (33, .aload_n 0, 34, 0), (34, .getfield 9, 37, 0), (37, .bipush 94, 39, 0), (39, .iload 4, 41, 0), (41, .iadd, 42, 0), (42, .iaload, 43, 0), (43, .iload 4, 45, 0), (45, .if_icmp .le 10, 48, 55), (48, .iconst 1, 49, 0), (49, .iload 4, 51, 0), (51, .ishl, 52, 0), (52, .goto 4, 55, 56), (55, .iconst 0, 56, 0), (56, .ior, 57, 0), (57, .istore_n 3, 58, 0), (58, .iinc 4 1, 61, 0), (61, .goto (-50), 64, 11), (64, .iload_n 3, 65, 0), (65, .ireturn, 66, 0)])
theorem okR_going : tw_ok mR_going := ⟨by decide, by decide +kernel⟩
def mR_waiting : tM := (⟨"TwinToolsModel", "waiting", "(I)I"⟩, prog_14_method_43_code, 5, (some .int), [(0, .aload_n 0, 1, 0), (1, .iload_n 1, 2, 0), (2, .invokevirtual 160, 5, 0), (5, .istore_n 2, 6, 0), (6, .iconst 0, 7, 0), (7, .istore_n 3, 8, 0), (8, .iconst 0, 9, 0), (9, .istore 4, 11, 0), (11, .iload 4, 13, 0), (13, .aload_n 0, 14, 0), (14, .getfield 9, 17, 0), (17, .iconst 1, 18, 0), (18, .iaload, 19, 0), (19, .if_icmp .ge 40, 22, 59), (22, .iload_n 3, 23, 0), (23, .iload_n 2, 24, 0), (24, .iload 4, 26, 0), (26, .ishr, 27, 0), (27, .iconst 1, 28, 0), (28, .iand, 29, 0), (29, .iconst 1, 30, 0), (30, .if_icmp .ne 20, 33, 50), (33, .aload_n 0, 34, 0), (34, .iload 4, 36, 0), (36, .iload_n 2, 37, 0), (37, .invokevirtual 163, 40, 0), (40, .ifCond .ne 10, 43, 50), (43, .iconst 1, 44, 0), (44, .iload 4, 46, 0), (46, .ishl, 47, 0), (47, .goto 4, 50, 51), (50, .iconst 0, 51, 0), (51, .ior, 52, 0), (52, .istore_n 3, 53, 0), (53, .iinc 4 1, 56, 0), (56, .goto (-45), 59, 11), (59, .iload_n 3, 60, 0), (60, .ireturn, 61, 0)])
theorem okR_waiting : tw_ok mR_waiting := ⟨by decide, by decide +kernel⟩
def mR_can : tM := (⟨"TwinToolsModel", "can", "(III)Z"⟩, prog_14_method_44_code, 7, (some .boolean), [(0, .aload_n 0, 1, 0), (1, .getfield 9, 4, 0), (4, .bipush 94, 6, 0), (6, .iload_n 1, 7, 0), (7, .iadd, 8, 0), (8, .iaload, 9, 0), (9, .istore 4, 11, 0), (11, .iload 4, 13, 0), (13, .iload_n 1, 14, 0), (14, .if_icmp .lt 30, 17, 44), (17, .aload_n 0, 18, 0), (18, .getfield 9, 21, 0), (21, .bipush 104, 23, 0), (23, .iload_n 1, 24, 0), (24, .iadd, 25, 0), (25, .iaload, 26, 0), (26, .iconst 1, 27, 0), (27, .if_icmp .eq 17, 30, 44), (30, .aload_n 0, 31, 0), (31, .getfield 9, 34, 0), (34, .bipush 104, 36, 0), (36, .iload 4, 38, 0), (38, .iadd, 39, 0), (39, .iaload, 40, 0), (40, .iconst 1, 41, 0), (41, .if_icmp .ne 5, 44, 46), (44, .iconst 0, 45, 0), (45, .ireturn, 46, 0), (46, .aload_n 0, 47, 0), (47, .getfield 9, 50, 0), (50, .bipush 84, 52, 0), (52, .iload_n 1, 53, 0), (53, .iadd, 54, 0), (54, .iaload, 55, 0), (55, .istore 5, 57, 0), (57, .aload_n 0, 58, 0), (58, .getfield 9, 61, 0), (61, .bipush 84, 63, 0), (63, .iload 4, 65, 0), (65, .iadd, 66, 0), (66, .iaload, 67, 0), (67, .istore 6, 69, 0), (69, .iload 5, 71, 0), (71, .iload 6, 73, 0), (73, .if_icmp .eq 45, 76, 118), (76, .aload_n 0, 77, 0), (77, .iload 5, 79, 0), (79, .iload_n 2, 80, 0), (80, .invokevirtual 141, 83, 0), (83, .ifCond .eq 35, 86, 118), (86, .aload_n 0, 87, 0), (87, .iload 6, 89, 0), (89, .iload_n 2, 90, 0), (90, .invokevirtual 141, 93, 0), (93, .ifCond .eq 25, 96, 118), (96, .iload_n 3, 97, 0), (97, .iload 5, 99, 0), (99, .ishr, 100, 0), (100, .iconst 1, 101, 0), (101, .iand, 102, 0), (102, .ifCond .ne 16, 105, 118), (105, .iload_n 3, 106, 0), (106, .iload 6, 108, 0), (108, .ishr, 109, 0), (109, .iconst 1, 110, 0), (110, .iand, 111, 0), (111, .ifCond .ne 7, 114, 118), (114, .iconst 1, 115, 0), (115, .goto 4, 118, 119), (118, .iconst 0, 119, 0), (119, .ireturn, 120, 0)])
theorem okR_can : tw_ok mR_can := ⟨by decide, by decide +kernel⟩
def mR_setsFrom : tM := (⟨"TwinToolsModel", "setsFrom", "(IIIIII)V"⟩, prog_14_method_45_code, 8, none, [(0, .iload_n 1, 1, 0), (1, .aload_n 0, 2, 0), (2, .getfield 9, 5, 0), (5, .iconst 1, 6, 0), (6, .iaload, 7, 0), (7, .if_icmp .ne 94, 10, 101), (10, .iload 5, 12, 0), (12, .aload_n 0, 13, 0), (13, .getfield 166, 16, 0), (16, .if_icmp .gt 20, 19, 36), (19, .iload 5, 21, 0), (21, .aload_n 0, 22, 0), (22, .getfield 166, 25, 0), (25, .if_icmp .ne 15, 28, 40), (28, .iload_n 3, 29, 0), (29, .aload_n 0, 30, 0), (30, .getfield 169, 33, 0), (33, .if_icmp .ge 7, 36, 40), (36, .iconst 1, 37, 0), (37, .goto 4, 40, 41), (40, .iconst 0, 41, 0), (41, .istore 7, 43, 0), (43, .aload_n 0, 44, 0), (44, .iload 7, 46, 0), (46, .ifCond .eq 8, 49, 54), (49, .iload 5, 51, 0), (51, .goto 7, 54, 58), (54, .aload_n 0, 55, 0), (55, .getfield 166, 58, 0), (58, .putfield 166, 61, 0), (61, .aload_n 0, 62, 0), (62, .iload 7, 64, 0), (64, .ifCond .eq 7, 67, 71), (67, .iload_n 3, 68, 0), (68, .goto 7, 71, 75), (71, .aload_n 0, 72, 0), (72, .getfield 169, 75, 0), (75, .putfield 169, 78, 0), (78, .aload_n 0, 79, 0), (79, .iload 6, 81, 0), (81, .aload_n 0, 82, 0), (82, .getfield 172, 85, 0), (85, .if_icmp .le 8, 88, 93), (88, .iload 6, 90, 0), (90, .goto 7, 93, 97), (93, .aload_n 0, 94, 0), (94, .getfield 172, 97, 0), (97, .putfield 172, 100, 0), (100, .return_, 101, 0), (101, .aload_n 0, 102, 0), (102, .iload_n 1, 103, 0), (103, .iconst 1, 104, 0), (104, .iadd, 105, 0), (105, .iload_n 2, 106, 0), (106, .iload_n 3, 107, 0), (107, .iload 4, 109, 0), (109, .iload 5, 111, 0), (111, .iload 6, 113, 0), (113, .invokevirtual 175, 116, 0), (116, .aload_n 0, 117, 0), (117, .iload_n 1, 118, 0), (118, .iload_n 2, 119, 0), (119, .iload 4, 121, 0), (121, .invokevirtual 179, 124, 0), (124, .ifCond .eq 63, 127, 187), (127, .aload_n 0, 128, 0), (128, .iload_n 1, 129, 0), (129, .iconst 1, 130, 0), (130, .iadd, 131, 0), (131, .iload_n 2, 132, 0), (132, .iload_n 3, 133, 0), (133, .iconst 1, 134, 0), (134, .iload_n 1, 135, 0), (135, .ishl, 136, 0), (136, .ior, 137, 0), (137, .iload 4, 139, 0), (139, .iconst 1, 140, 0), (140, .aload_n 0, 141, 0), (141, .getfield 9, 144, 0), (144, .bipush 84, 146, 0), (146, .iload_n 1, 147, 0), (147, .iadd, 148, 0), (148, .iaload, 149, 0), (149, .ishl, 150, 0), (150, .ior, 151, 0), (151, .iconst 1, 152, 0), (152, .aload_n 0, 153, 0), (153, .getfield 9, 156, 0), (156, .bipush 84, 158, 0), (158, .aload_n 0, 159, 0), (159, .getfield 9, 162, 0), (162, .bipush 94, 164, 0), (164, .iload_n 1, 165, 0), (165, .iadd, 166, 0), (166, .iaload, 167, 0), (167, .iadd, 168, 0), (168, .iaload, 169, 0), (169, .ishl, 170, 0), (170, .ior, 171, 0), (171, .iload 5, 173, 0), (173, .aload_n 0, 174, 0), (174, .iload_n 1, 175, 0), (175, .iload_n 2, 176, 0), (176, .invokevirtual 133, 179, 0), (179, .iadd, 180, 0), (180, .iload 6, 182, 0), (182, .iconst 1, 183, 0), (183, .iadd, 184, 0), (184, .invokevirtual 175, 187, 0), (187, .return_, 188, 0)])
theorem okR_setsFrom : tw_ok mR_setsFrom := ⟨by decide, by decide +kernel⟩
def mR_looksForMost : tM := (⟨"TwinToolsModel", "looksForMost", "(I)V"⟩, prog_14_method_46_code, 2, none, [(0, .aload_n 0, 1, 0), (1, .iconst 0, 2, 0), (2, .putfield 166, 5, 0), (5, .aload_n 0, 6, 0), (6, .iconst 0, 7, 0), (7, .putfield 169, 10, 0), (10, .aload_n 0, 11, 0), (11, .iconst 0, 12, 0), (12, .putfield 172, 15, 0), (15, .aload_n 0, 16, 0), (16, .iconst 0, 17, 0), (17, .iload_n 1, 18, 0), (18, .iconst 0, 19, 0), (19, .iconst 0, 20, 0), (20, .iconst 0, 21, 0), (21, .iconst 0, 22, 0), (22, .invokevirtual 175, 25, 0), (25, .return_, 26, 0)])
theorem okR_looksForMost : tw_ok mR_looksForMost := ⟨by decide, by decide +kernel⟩
def mR_hour : tM := (⟨"TwinToolsModel", "hour", "(II)I"⟩, prog_14_method_47_code, 3, (some .int), [(0, .iload_n 1, 1, 0), (1, .invokestatic 130, 4, 0), (4, .ifCond .ne 7, 7, 11), (7, .sipush (-10001), 10, 0), (10, .ireturn, 11, 0), (11, .iload_n 2, 12, 0), (12, .tableswitch 82 0 4 #[36, 42, 48, 48, 48], 48, 0), (48, .aload_n 0, 49, 0), (49, .iload_n 1, 50, 0), (50, .invokevirtual 182, 53, 0), (53, .ireturn, 54, 0), (54, .aload_n 0, 55, 0), (55, .iload_n 1, 56, 0), (56, .invokevirtual 185, 59, 0), (59, .ireturn, 60, 0), (60, .aload_n 0, 61, 0), (61, .iload_n 1, 62, 0), (62, .invokevirtual 188, 65, 0), (65, .iload_n 2, 66, 0), (66, .iconst 2, 67, 0), (67, .if_icmp .ne 10, 70, 77), (70, .aload_n 0, 71, 0), (71, .getfield 166, 74, 0), (74, .goto 19, 77, 93), (77, .iload_n 2, 78, 0), (78, .iconst 3, 79, 0), (79, .if_icmp .ne 10, 82, 89), (82, .aload_n 0, 83, 0), (83, .getfield 169, 86, 0), (86, .goto 7, 89, 93), (89, .aload_n 0, 90, 0), (90, .getfield 172, 93, 0), (93, .ireturn, 94, 0), (94, .sipush (-10001), 97, 0), (97, .ireturn, 98, 0)])
theorem okR_hour : tw_ok mR_hour := ⟨by decide, by decide +kernel⟩
def mR_of : tM := (⟨"TwinToolsModel", "of", "(II)I"⟩, prog_14_method_48_code, 5, (some .int), [(0, .aload_n 0, 1, 0), (1, .iload_n 1, 2, 0), (2, .invokevirtual 120, 5, 0), (5, .ifCond .eq 12, 8, 17), (8, .iload_n 2, 9, 0), (9, .iconst 0, 10, 0), (10, .iconst 4, 11, 0), (11, .invokestatic 38, 14, 0), (14, .ifCond .ne 5, 17, 19), (17, .iconst (-1), 18, 0), (18, .ireturn, 19, 0), (19, .iload_n 2, 20, 0), (20, .iconst 4, 21, 0), (21, .if_icmp .ge 35, 24, 56), (24, .aload_n 0, 25, 0), (25, .getfield 9, 28, 0), (28, .bipush 74, 30, 0), (30, .bipush 10, 32, 0), (32, .iload_n 2, 33, 0), (33, .imul, 34, 0), (34, .iadd, 35, 0), (35, .iload_n 1, 36, 0), (36, .iadd, 37, 0), (37, .iaload, 38, 0), (38, .istore_n 3, 39, 0), (39, .iload_n 2, 40, 0), (40, .iconst 2, 41, 0), (41, .if_icmp .ne 13, 44, 54), (44, .iload_n 3, 45, 0), (45, .iconst (-1), 46, 0), (46, .if_icmp .ne 8, 49, 54), (49, .bipush (-5), 51, 0), (51, .goto 4, 54, 55), (54, .iload_n 3, 55, 0), (55, .ireturn, 56, 0), (56, .iconst 0, 57, 0), (57, .istore_n 3, 58, 0), (58, .iconst 0, 59, 0), (59, .istore 4, 61, 0), (61, .iload 4, 63, 0), (63, .bipush 24, 65, 0), (65, .if_icmp .ge 34, 68, 99), (68, .iload_n 3, 69, 0), (69, .aload_n 0, 70, 0), (70, .iload_n 1, 71, 0), (71, .aload_n 0, 72, 0), (72, .iload 4, 74, 0), (74, .invokevirtual 160, 77, 0), (77, .invokevirtual 163, 80, 0), (80, .ifCond .eq 10, 83, 90), (83, .iconst 1, 84, 0), (84, .iload 4, 86, 0), (86, .ishl, 87, 0), (87, .goto 4, 90, 91), (90, .iconst 0, 91, 0), (91, .ior, 92, 0), (92, .istore_n 3, 93, 0), (93, .iinc 4 1, 96, 0), (96, .goto (-35), 99, 61), (99, .iload_n 3, 100, 0), (100, .ireturn, 101, 0)])
theorem okR_of : tw_ok mR_of := ⟨by decide, by decide +kernel⟩
def mR_count1 : tM := (⟨"TwinToolsModel", "count1", "(I)I"⟩, prog_14_method_49_code, 3, (some .int), [(0, .iconst 0, 1, 0), (1, .istore_n 1, 2, 0), (2, .iconst 0, 3, 0), (3, .istore_n 2, 4, 0), (4, .iload_n 2, 5, 0), (5, .bipush 10, 7, 0), (7, .if_icmp .ge 17, 10, 24), (10, .iload_n 1, 11, 0), (11, .iload_n 0, 12, 0), (12, .iload_n 2, 13, 0), (13, .ishr, 14, 0), (14, .iconst 1, 15, 0), (15, .iand, 16, 0), (16, .iadd, 17, 0), (17, .istore_n 1, 18, 0), (18, .iinc 2 1, 21, 0), (21, .goto (-17), 24, 4), (24, .iload_n 1, 25, 0), (25, .ireturn, 26, 0)])
theorem okR_count1 : tw_ok mR_count1 := ⟨by decide, by decide +kernel⟩
def mR_bestDay : tM := (⟨"TwinToolsModel", "bestDay", "()I"⟩, prog_14_method_50_code, 3, (some .int), [(0, .iconst 0, 1, 0), (1, .istore_n 1, 2, 0), (2, .iconst 0, 3, 0), (3, .istore_n 2, 4, 0), (4, .iload_n 2, 5, 0), (5, .bipush 24, 7, 0), (7, .if_icmp .ge 21, 10, 28), (10, .aload_n 0, 11, 0), (11, .iload_n 2, 12, 0), (12, .invokevirtual 188, 15, 0), (15, .iload_n 1, 16, 0), (16, .aload_n 0, 17, 0), (17, .getfield 166, 20, 0), (20, .iadd, 21, 0), (21, .istore_n 1, 22, 0), (22, .iinc 2 1, 25, 0), (25, .goto (-21), 28, 4), (28, .iload_n 1, 29, 0), (29, .ireturn, 30, 0)])
theorem okR_bestDay : tw_ok mR_bestDay := ⟨by decide, by decide +kernel⟩
def mR_allWorth : tM := (⟨"TwinToolsModel", "allWorth", "()I"⟩, prog_14_method_51_code, 5, (some .int), [(0, .iconst 0, 1, 0), (1, .istore_n 1, 2, 0), (2, .iconst 0, 3, 0), (3, .istore_n 2, 4, 0), (4, .iload_n 2, 5, 0), (5, .bipush 24, 7, 0), (7, .if_icmp .ge 59, 10, 66), (10, .aload_n 0, 11, 0), (11, .iload_n 2, 12, 0), (12, .invokevirtual 182, 15, 0), (15, .istore_n 3, 16, 0), (16, .iconst 0, 17, 0), (17, .istore 4, 19, 0), (19, .iload 4, 21, 0), (21, .aload_n 0, 22, 0), (22, .getfield 9, 25, 0), (25, .iconst 1, 26, 0), (26, .iaload, 27, 0), (27, .if_icmp .ge 33, 30, 60), (30, .iload_n 1, 31, 0), (31, .iload_n 3, 32, 0), (32, .iload 4, 34, 0), (34, .ishr, 35, 0), (35, .iconst 1, 36, 0), (36, .iand, 37, 0), (37, .iconst 1, 38, 0), (38, .if_icmp .ne 13, 41, 51), (41, .aload_n 0, 42, 0), (42, .iload 4, 44, 0), (44, .iload_n 2, 45, 0), (45, .invokevirtual 133, 48, 0), (48, .goto 4, 51, 52), (51, .iconst 0, 52, 0), (52, .iadd, 53, 0), (53, .istore_n 1, 54, 0), (54, .iinc 4 1, 57, 0), (57, .goto (-38), 60, 19), (60, .iinc 2 1, 63, 0), (63, .goto (-59), 66, 4), (66, .iload_n 1, 67, 0), (67, .ireturn, 68, 0)])
theorem okR_allWorth : tw_ok mR_allWorth := ⟨by decide, by decide +kernel⟩
def mR_allWaiting : tM := (⟨"TwinToolsModel", "allWaiting", "()I"⟩, prog_14_method_52_code, 3, (some .int), [(0, .iconst 0, 1, 0), (1, .istore_n 1, 2, 0), (2, .iconst 0, 3, 0), (3, .istore_n 2, 4, 0), (4, .iload_n 2, 5, 0), (5, .bipush 24, 7, 0), (7, .if_icmp .ge 20, 10, 27), (10, .iload_n 1, 11, 0), (11, .aload_n 0, 12, 0), (12, .iload_n 2, 13, 0), (13, .invokevirtual 185, 16, 0), (16, .invokestatic 191, 19, 0), (19, .iadd, 20, 0), (20, .istore_n 1, 21, 0), (21, .iinc 2 1, 24, 0), (24, .goto (-20), 27, 4), (27, .iload_n 1, 28, 0), (28, .ireturn, 29, 0)])
theorem okR_allWaiting : tw_ok mR_allWaiting := ⟨by decide, by decide +kernel⟩
def mR_day : tM := (⟨"TwinToolsModel", "day", "(I)I"⟩, prog_14_method_53_code, 2, (some .int), [(0, .iload_n 1, 1, 0), (1, .tableswitch 51 0 3 #[31, 36, 41, 46], 32, 0), (32, .aload_n 0, 33, 0), (33, .invokevirtual 194, 36, 0), (36, .ireturn, 37, 0), (37, .aload_n 0, 38, 0), (38, .invokevirtual 197, 41, 0), (41, .ireturn, 42, 0), (42, .aload_n 0, 43, 0), (43, .invokevirtual 200, 46, 0), (46, .ireturn, 47, 0), (47, .aload_n 0, 48, 0), (48, .invokevirtual 147, 51, 0), (51, .ireturn, 52, 0), (52, .sipush (-10001), 55, 0), (55, .ireturn, 56, 0)])
theorem okR_day : tw_ok mR_day := ⟨by decide, by decide +kernel⟩
def mR_changes : tM := (⟨"TwinToolsModel", "changes", "(II)V"⟩, prog_14_method_54_code, 4, none, [(0, .aload_n 0, 1, 0), (1, .getfield 9, 4, 0), (4, .bipush 84, 6, 0), (6, .iload_n 1, 7, 0), (7, .iadd, 8, 0), (8, .iaload, 9, 0), (9, .istore_n 3, 10, 0), (10, .aload_n 0, 11, 0), (11, .getfield 9, 14, 0), (14, .bipush 84, 16, 0), (16, .iload_n 1, 17, 0), (17, .iadd, 18, 0), (18, .aload_n 0, 19, 0), (19, .getfield 9, 22, 0), (22, .bipush 84, 24, 0), (24, .iload_n 2, 25, 0), (25, .iadd, 26, 0), (26, .iaload, 27, 0), (27, .iastore, 28, 0), (28, .aload_n 0, 29, 0), (29, .getfield 9, 32, 0), (32, .bipush 84, 34, 0), (34, .iload_n 2, 35, 0), (35, .iadd, 36, 0), (36, .iload_n 3, 37, 0), (37, .iastore, 38, 0), (38, .return_, 39, 0)])
theorem okR_changes : tw_ok mR_changes := ⟨by decide, by decide +kernel⟩
def mR_change : tM := (⟨"TwinToolsModel", "change", "(I)I"⟩, prog_14_method_55_code, 9, (some .int), [(0, .iload_n 1, 1, 0), (1, .iconst 0, 2, 0), (2, .iconst 2, 3, 0), (3, .invokestatic 38, 6, 0), (6, .ifCond .ne 5, 9, 11), (9, .iconst (-1), 10, 0), (10, .ireturn, 11, 0), (11, .aload_n 0, 12, 0), (12, .invokevirtual 200, 15, 0), (15, .istore_n 2, 16, 0), (16, .iload_n 2, 17, 0), (17, .istore_n 3, 18, 0), (18, .bipush (-5), 20, 0), (20, .istore 4, 22, 0), (22, .bipush (-5), 24, 0), (24, .istore 5, 26, 0), (26, .iconst 0, 27, 0), (27, .istore 6, 29, 0), (29, .iload 6, 31, 0), (31, .aload_n 0, 32, 0), (32, .getfield 9, 35, 0), (35, .iconst 1, 36, 0), (36, .iaload, 37, 0), (37, .if_icmp .ge 120, 40, 157), (40, .iload 6, 42, 0), (42, .iconst 1, 43, 0), (43, .iadd, 44, 0), (44, .istore 7, 46, 0), (46, .iload 7, 48, 0), (48, .aload_n 0, 49, 0), (49, .getfield 9, 52, 0), (52, .iconst 1, 53, 0), (53, .iaload, 54, 0), (54, .if_icmp .ge 97, 57, 151), (57, .aload_n 0, 58, 0), (58, .getfield 9, 61, 0), (61, .bipush 84, 63, 0), (63, .iload 6, 65, 0), (65, .iadd, 66, 0), (66, .iaload, 67, 0), (67, .aload_n 0, 68, 0), (68, .getfield 9, 71, 0), (71, .bipush 84, 73, 0), (73, .iload 7, 75, 0), (75, .iadd, 76, 0), (76, .iaload, 77, 0), (77, .if_icmp .eq 68, 80, 145), (80, .aload_n 0, 81, 0), (81, .iload 6, 83, 0), (83, .iload 7, 85, 0), (85, .invokevirtual 203, 88, 0), (88, .aload_n 0, 89, 0), (89, .invokevirtual 200, 92, 0), (92, .istore 8, 94, 0), (94, .aload_n 0, 95, 0), (95, .iload 6, 97, 0), (97, .iload 7, 99, 0), (99, .invokevirtual 203, 102, 0), (102, .iload 8, 104, 0), (104, .iload_n 3, 105, 0), (105, .if_icmp .le 8, 108, 113), (108, .iload 6, 110, 0), (110, .goto 5, 113, 115), (113, .iload 4, 115, 0), (115, .istore 4, 117, 0), (117, .iload 8, 119, 0), (119, .iload_n 3, 120, 0), (120, .if_icmp .le 8, 123, 128), (123, .iload 7, 125, 0), (125, .goto 5, 128, 130), (128, .iload 5, 130, 0), (130, .istore 5, 132, 0), (132, .iload 8, 134, 0), (134, .iload_n 3, 135, 0), (135, .if_icmp .le 8, 138, 143), (138, .iload 8, 140, 0), (140, .goto 4, 143, 144), (143, .iload_n 3, 144, 0), (144, .istore_n 3, 145, 0), (145, .iinc 7 1, 148, 0), (148, .goto (-102), 151, 46), (151, .iinc 6 1, 154, 0), (154, .goto (-125), 157, 29), (157, .iload_n 1, 158, 0), (158, .ifCond .ne 8, 161, 166), (161, .iload 4, 163, 0), (163, .goto 16, 166, 179), (166, .iload_n 1, 167, 0), (167, .iconst 1, 168, 0), (168, .if_icmp .ne 8, 171, 176), (171, .iload 5, 173, 0), (173, .goto 6, 176, 179), (176, .iload_n 3, 177, 0), (177, .iload_n 2, 178, 0), (178, .isub, 179, 0), (179, .ireturn, 180, 0)])
theorem okR_change : tw_ok mR_change := ⟨by decide, by decide +kernel⟩
def mR_awayOf : tM := (⟨"TwinToolsModel", "awayOf", "(I)I"⟩, prog_14_method_56_code, 5, (some .int), [(0, .aload_n 0, 1, 0), (1, .invokevirtual 200, 4, 0), (4, .istore_n 2, 5, 0), (5, .aload_n 0, 6, 0), (6, .getfield 9, 9, 0), (9, .bipush 34, 11, 0), (11, .iload_n 1, 12, 0), (12, .iadd, 13, 0), (13, .iaload, 14, 0), (14, .istore_n 3, 15, 0), (15, .aload_n 0, 16, 0), (16, .getfield 9, 19, 0), (19, .bipush 34, 21, 0), (21, .iload_n 1, 22, 0), (22, .iadd, 23, 0), (23, .iconst 0, 24, 0), (24, .iastore, 25, 0), (25, .aload_n 0, 26, 0), (26, .invokevirtual 200, 29, 0), (29, .istore 4, 31, 0), (31, .aload_n 0, 32, 0), (32, .getfield 9, 35, 0), (35, .bipush 34, 37, 0), (37, .iload_n 1, 38, 0), (38, .iadd, 39, 0), (39, .iload_n 3, 40, 0), (40, .iastore, 41, 0), (41, .iload_n 2, 42, 0), (42, .iload 4, 44, 0), (44, .isub, 45, 0), (45, .ireturn, 46, 0)])
theorem okR_awayOf : tw_ok mR_awayOf := ⟨by decide, by decide +kernel⟩
def mR_away : tM := (⟨"TwinToolsModel", "away", "(I)I"⟩, prog_14_method_57_code, 2, (some .int), [(0, .aload_n 0, 1, 0), (1, .iload_n 1, 2, 0), (2, .invokevirtual 115, 5, 0), (5, .ifCond .eq 11, 8, 16), (8, .aload_n 0, 9, 0), (9, .iload_n 1, 10, 0), (10, .invokevirtual 207, 13, 0), (13, .goto 6, 16, 19), (16, .sipush (-10001), 19, 0), (19, .ireturn, 20, 0)])
theorem okR_away : tw_ok mR_away := ⟨by decide, by decide +kernel⟩
def mR_worst : tM := (⟨"TwinToolsModel", "worst", "()I"⟩, prog_14_method_58_code, 6, (some .int), [(0, .bipush (-5), 2, 0), (2, .istore_n 1, 3, 0), (3, .iconst 0, 4, 0), (4, .istore_n 2, 5, 0), (5, .iconst 0, 6, 0), (6, .istore_n 3, 7, 0), (7, .iload_n 3, 8, 0), (8, .aload_n 0, 9, 0), (9, .getfield 9, 12, 0), (12, .iconst 0, 13, 0), (13, .iaload, 14, 0), (14, .if_icmp .ge 58, 17, 72), (17, .aload_n 0, 18, 0), (18, .iload_n 3, 19, 0), (19, .invokevirtual 207, 22, 0), (22, .istore 4, 24, 0), (24, .iload_n 1, 25, 0), (25, .bipush (-5), 27, 0), (27, .if_icmp .eq 9, 30, 36), (30, .iload 4, 32, 0), (32, .iload_n 2, 33, 0), (33, .if_icmp .le 7, 36, 40), (36, .iconst 1, 37, 0), (37, .goto 4, 40, 41), (40, .iconst 0, 41, 0), (41, .istore 5, 43, 0), (43, .iload 5, 45, 0), (45, .ifCond .eq 7, 48, 52), (48, .iload_n 3, 49, 0), (49, .goto 4, 52, 53), (52, .iload_n 1, 53, 0), (53, .istore_n 1, 54, 0), (54, .iload 5, 56, 0), (56, .ifCond .eq 8, 59, 64), (59, .iload 4, 61, 0), (61, .goto 4, 64, 65), (64, .iload_n 2, 65, 0), (65, .istore_n 2, 66, 0), (66, .iinc 3 1, 69, 0), (69, .goto (-62), 72, 7), (72, .iload_n 1, 73, 0), (73, .ireturn, 74, 0)])
theorem okR_worst : tw_ok mR_worst := ⟨by decide, by decide +kernel⟩
def mR_joins : tM := (⟨"TwinToolsModel", "joins", "()V"⟩, prog_14_method_59_code, 4, none, [(0, .iconst 0, 1, 0), (1, .istore_n 1, 2, 0), (2, .iload_n 1, 3, 0), (3, .aload_n 0, 4, 0), (4, .getfield 9, 7, 0), (7, .iconst 1, 8, 0), (8, .iaload, 9, 0), (9, .if_icmp .ge 22, 12, 31), (12, .aload_n 0, 13, 0), (13, .getfield 9, 16, 0), (16, .bipush 94, 18, 0), (18, .iload_n 1, 19, 0), (19, .iadd, 20, 0), (20, .iaload, 21, 0), (21, .iconst (-1), 22, 0), (22, .if_icmp .eq 9, 25, 31), (25, .iinc 1 1, 28, 0), (28, .goto (-26), 31, 2), (31, .iload_n 1, 32, 0), (32, .aload_n 0, 33, 0), (33, .getfield 9, 36, 0), (36, .iconst 1, 37, 0), (37, .iaload, 38, 0), (38, .if_icmp .ne 67, 41, 105), (41, .aload_n 0, 42, 0), (42, .invokevirtual 200, 45, 0), (45, .istore_n 2, 46, 0), (46, .aload_n 0, 47, 0), (47, .getfield 210, 50, 0), (50, .ifCond .eq 11, 53, 61), (53, .iload_n 2, 54, 0), (54, .aload_n 0, 55, 0), (55, .getfield 213, 58, 0), (58, .if_icmp .le 46, 61, 104), (61, .aload_n 0, 62, 0), (62, .iconst 1, 63, 0), (63, .putfield 210, 66, 0), (66, .aload_n 0, 67, 0), (67, .iload_n 2, 68, 0), (68, .putfield 213, 71, 0), (71, .iconst 0, 72, 0), (72, .istore_n 3, 73, 0), (73, .iload_n 3, 74, 0), (74, .aload_n 0, 75, 0), (75, .getfield 9, 78, 0), (78, .iconst 1, 79, 0), (79, .iaload, 80, 0), (80, .if_icmp .ge 24, 83, 104), (83, .aload_n 0, 84, 0), (84, .getfield 28, 87, 0), (87, .iload_n 3, 88, 0), (88, .aload_n 0, 89, 0), (89, .getfield 9, 92, 0), (92, .bipush 94, 94, 0), (94, .iload_n 3, 95, 0), (95, .iadd, 96, 0), (96, .iaload, 97, 0), (97, .iastore, 98, 0), (98, .iinc 3 1, 101, 0), (101, .goto (-28), 104, 73), (104, .return_, 105, 0), (105, .iload_n 1, 106, 0), (106, .iconst 1, 107, 0), (107, .iadd, 108, 0), (108, .istore_n 2, 109, 0), (109, .iload_n 2, 110, 0), (110, .aload_n 0, 111, 0), (111, .getfield 9, 114, 0), (114, .iconst 1, 115, 0), (115, .iaload, 116, 0), (116, .if_icmp .ge 66, 119, 182), (119, .aload_n 0, 120, 0), (120, .getfield 9, 123, 0), (123, .bipush 94, 125, 0), (125, .iload_n 2, 126, 0), (126, .iadd, 127, 0), (127, .iaload, 128, 0), (128, .iconst (-1), 129, 0), (129, .if_icmp .ne 47, 132, 176), (132, .aload_n 0, 133, 0), (133, .getfield 9, 136, 0), (136, .bipush 94, 138, 0), (138, .iload_n 1, 139, 0), (139, .iadd, 140, 0), (140, .iload_n 2, 141, 0), (141, .iastore, 142, 0), (142, .aload_n 0, 143, 0), (143, .getfield 9, 146, 0), (146, .bipush 94, 148, 0), (148, .iload_n 2, 149, 0), (149, .iadd, 150, 0), (150, .iload_n 1, 151, 0), (151, .iastore, 152, 0), (152, .aload_n 0, 153, 0), (153, .invokevirtual 216, 156, 0), (156, .aload_n 0, 157, 0), (157, .getfield 9, 160, 0), (160, .bipush 94, 162, 0), (162, .iload_n 1, 163, 0), (163, .iadd, 164, 0), (164, .iconst (-1), 165, 0), (165, .iastore, 166, 0), (166, .aload_n 0, 167, 0), (167, .getfield 9, 170, 0), (170, .bipush 94, 172, 0), (172, .iload_n 2, 173, 0), (173, .iadd, 174, 0), (174, .iconst (-1), 175, 0), (175, .iastore, 176, 0), (176, .iinc 2 1, 179, 0), (179, .goto (-70), 182, 109), (182, .return_, 183, 0)])
theorem okR_joins : tw_ok mR_joins := ⟨by decide, by decide +kernel⟩
def mR_join : tM := (⟨"TwinToolsModel", "join", "(I)I"⟩, prog_14_method_60_code, 3, (some .int), [(0, .iload_n 1, 1, 0), (1, .iconst (-1), 2, 0), (2, .aload_n 0, 3, 0), (3, .getfield 9, 6, 0), (6, .iconst 1, 7, 0), (7, .iaload, 8, 0), (8, .iconst 1, 9, 0), (9, .isub, 10, 0), (10, .invokestatic 38, 13, 0), (13, .ifCond .ne 7, 16, 20), (16, .sipush (-10001), 19, 0), (19, .ireturn, 20, 0), (20, .aload_n 0, 21, 0), (21, .getfield 9, 24, 0), (24, .iconst 1, 25, 0), (25, .iaload, 26, 0), (26, .bipush 6, 28, 0), (28, .if_icmp .gt 15, 31, 43), (31, .aload_n 0, 32, 0), (32, .getfield 9, 35, 0), (35, .iconst 1, 36, 0), (36, .iaload, 37, 0), (37, .iconst 2, 38, 0), (38, .irem, 39, 0), (39, .iconst 1, 40, 0), (40, .if_icmp .ne 6, 43, 46), (43, .bipush (-9), 45, 0), (45, .ireturn, 46, 0), (46, .iconst 0, 47, 0), (47, .istore_n 2, 48, 0), (48, .iload_n 2, 49, 0), (49, .aload_n 0, 50, 0), (50, .getfield 9, 53, 0), (53, .iconst 1, 54, 0), (54, .iaload, 55, 0), (55, .if_icmp .ge 34, 58, 89), (58, .aload_n 0, 59, 0), (59, .getfield 25, 62, 0), (62, .iload_n 2, 63, 0), (63, .aload_n 0, 64, 0), (64, .getfield 9, 67, 0), (67, .bipush 94, 69, 0), (69, .iload_n 2, 70, 0), (70, .iadd, 71, 0), (71, .iaload, 72, 0), (72, .iastore, 73, 0), (73, .aload_n 0, 74, 0), (74, .getfield 9, 77, 0), (77, .bipush 94, 79, 0), (79, .iload_n 2, 80, 0), (80, .iadd, 81, 0), (81, .iconst (-1), 82, 0), (82, .iastore, 83, 0), (83, .iinc 2 1, 86, 0), (86, .goto (-38), 89, 48), (89, .aload_n 0, 90, 0), (90, .iconst 0, 91, 0), (91, .putfield 210, 94, 0), (94, .aload_n 0, 95, 0), (95, .invokevirtual 216, 98, 0), (98, .iconst 0, 99, 0), (99, .istore_n 2, 100, 0), (100, .iload_n 2, 101, 0), (101, .aload_n 0, 102, 0), (102, .getfield 9, 105, 0), (105, .iconst 1, 106, 0), (106, .iaload, 107, 0), (107, .if_icmp .ge 24, 110, 131), (110, .aload_n 0, 111, 0), (111, .getfield 9, 114, 0), (114, .bipush 94, 116, 0), (116, .iload_n 2, 117, 0), (117, .iadd, 118, 0), (118, .aload_n 0, 119, 0), (119, .getfield 25, 122, 0), (122, .iload_n 2, 123, 0), (123, .iaload, 124, 0), (124, .iastore, 125, 0), (125, .iinc 2 1, 128, 0), (128, .goto (-28), 131, 100), (131, .iload_n 1, 132, 0), (132, .iconst (-1), 133, 0), (133, .if_icmp .ne 10, 136, 143), (136, .aload_n 0, 137, 0), (137, .getfield 213, 140, 0), (140, .goto 9, 143, 149), (143, .aload_n 0, 144, 0), (144, .getfield 28, 147, 0), (147, .iload_n 1, 148, 0), (148, .iaload, 149, 0), (149, .ireturn, 150, 0)])
theorem okR_join : tw_ok mR_join := ⟨by decide, by decide +kernel⟩
def mR_trial : tM := (⟨"TwinToolsModel", "trial", "(IIZ)I"⟩, prog_14_method_61_code, 5, (some .int), [(0, .aload_n 0, 1, 0), (1, .iload_n 1, 2, 0), (2, .invokevirtual 120, 5, 0), (5, .ifCond .eq 11, 8, 16), (8, .aload_n 0, 9, 0), (9, .iload_n 2, 10, 0), (10, .invokevirtual 120, 13, 0), (13, .ifCond .ne 5, 16, 18), (16, .iconst (-1), 17, 0), (17, .ireturn, 18, 0), (18, .iload_n 1, 19, 0), (19, .iload_n 2, 20, 0), (20, .if_icmp .ne 6, 23, 26), (23, .bipush (-2), 25, 0), (25, .ireturn, 26, 0), (26, .aload_n 0, 27, 0), (27, .getfield 9, 30, 0), (30, .iconst 3, 31, 0), (31, .iaload, 32, 0), (32, .bipush 12, 34, 0), (34, .if_icmp .ne 6, 37, 40), (37, .bipush (-4), 39, 0), (39, .ireturn, 40, 0), (40, .aload_n 0, 41, 0), (41, .getfield 9, 44, 0), (44, .iconst 3, 45, 0), (45, .iaload, 46, 0), (46, .istore 4, 48, 0), (48, .aload_n 0, 49, 0), (49, .getfield 9, 52, 0), (52, .bipush 114, 54, 0), (54, .iload 4, 56, 0), (56, .iadd, 57, 0), (57, .iload_n 1, 58, 0), (58, .iastore, 59, 0), (59, .aload_n 0, 60, 0), (60, .getfield 9, 63, 0), (63, .bipush 126, 65, 0), (65, .iload 4, 67, 0), (67, .iadd, 68, 0), (68, .iload_n 2, 69, 0), (69, .iastore, 70, 0), (70, .aload_n 0, 71, 0), (71, .getfield 9, 74, 0), (74, .sipush 138, 77, 0), (77, .iload 4, 79, 0), (79, .iadd, 80, 0), (80, .iload_n 3, 81, 0), (81, .ifCond .eq 7, 84, 88), (84, .iconst 1, 85, 0), (85, .goto 4, 88, 89), (88, .iconst 0, 89, 0), (89, .iastore, 90, 0), (90, .aload_n 0, 91, 0), (91, .getfield 9, 94, 0), (94, .iconst 3, 95, 0), (95, .dup2, 96, 0), (96, .iaload, 97, 0), (97, .iconst 1, 98, 0), (98, .iadd, 99, 0), (99, .iastore, 100, 0), (100, .aload_n 0, 101, 0), (101, .getfield 9, 104, 0), (104, .iconst 3, 105, 0), (105, .iaload, 106, 0), (106, .ireturn, 107, 0)])
theorem okR_trial : tw_ok mR_trial := ⟨by decide, by decide +kernel⟩
def mR_clear : tM := (⟨"TwinToolsModel", "clear", "()I"⟩, prog_14_method_62_code, 2, (some .int), [(0, .aload_n 0, 1, 0), (1, .getfield 9, 4, 0), (4, .iconst 3, 5, 0), (5, .iaload, 6, 0), (6, .istore_n 1, 7, 0), (7, .aload_n 0, 8, 0), (8, .getfield 9, 11, 0), (11, .iconst 3, 12, 0), (12, .iconst 0, 13, 0), (13, .iastore, 14, 0), (14, .iload_n 1, 15, 0), (15, .ireturn, 16, 0)])
theorem okR_clear : tw_ok mR_clear := ⟨by decide, by decide +kernel⟩
def mR_brokenOnes : tM := (⟨"TwinToolsModel", "brokenOnes", "()I"⟩, prog_14_method_63_code, 6, (some .int), [(0, .iconst 0, 1, 0), (1, .istore_n 1, 2, 0), (2, .iconst 0, 3, 0), (3, .istore_n 2, 4, 0), (4, .iload_n 2, 5, 0), (5, .aload_n 0, 6, 0), (6, .getfield 9, 9, 0), (9, .iconst 1, 10, 0), (10, .iaload, 11, 0), (11, .if_icmp .ge 146, 14, 157), (14, .iconst 1, 15, 0), (15, .istore_n 3, 16, 0), (16, .iconst 0, 17, 0), (17, .istore 4, 19, 0), (19, .iload 4, 21, 0), (21, .aload_n 0, 22, 0), (22, .getfield 9, 25, 0), (25, .iconst 3, 26, 0), (26, .iaload, 27, 0), (27, .if_icmp .ge 110, 30, 137), (30, .aload_n 0, 31, 0), (31, .getfield 9, 34, 0), (34, .bipush 94, 36, 0), (36, .aload_n 0, 37, 0), (37, .getfield 9, 40, 0), (40, .bipush 114, 42, 0), (42, .iload 4, 44, 0), (44, .iadd, 45, 0), (45, .iaload, 46, 0), (46, .iadd, 47, 0), (47, .iaload, 48, 0), (48, .aload_n 0, 49, 0), (49, .getfield 9, 52, 0), (52, .bipush 126, 54, 0), (54, .iload 4, 56, 0), (56, .iadd, 57, 0), (57, .iaload, 58, 0), (58, .if_icmp .ne 35, 61, 93), (61, .aload_n 0, 62, 0), (62, .getfield 9, 65, 0), (65, .bipush 114, 67, 0), (67, .iload 4, 69, 0), (69, .iadd, 70, 0), (70, .iaload, 71, 0), (71, .iload_n 2, 72, 0), (72, .if_icmp .eq 21, 75, 93), (75, .aload_n 0, 76, 0), (76, .getfield 9, 79, 0), (79, .bipush 126, 81, 0), (81, .iload 4, 83, 0), (83, .iadd, 84, 0), (84, .iaload, 85, 0), (85, .iload_n 2, 86, 0), (86, .if_icmp .eq 7, 89, 93), (89, .iconst 1, 90, 0), (90, .goto 4, 93, 94), (93, .iconst 0, 94, 0), (94, .istore 5, 96, 0), (96, .iload_n 3, 97, 0), (97, .ifCond .eq 32, 100, 129), (100, .iload 5, 102, 0), (102, .aload_n 0, 103, 0), (103, .getfield 9, 106, 0), (106, .sipush 138, 109, 0), (109, .iload 4, 111, 0), (111, .iadd, 112, 0), (112, .iaload, 113, 0), (113, .iconst 1, 114, 0), (114, .if_icmp .ne 7, 117, 121), (117, .iconst 1, 118, 0), (118, .goto 4, 121, 122), (121, .iconst 0, 122, 0), (122, .if_icmp .ne 7, 125, 129), (125, .iconst 1, 126, 0), (126, .goto 4, 129, 130), (129, .iconst 0, 130, 0), (130, .istore_n 3, 131, 0), (131, .iinc 4 1, 134, 0), (134, .goto (-115), 137, 19), (137, .iload_n 1, 138, 0), (138, .iload_n 3, 139, 0), (139, .ifCond .eq 9, 142, 148), (142, .iconst 1, 143, 0), (143, .iload_n 2, 144, 0), (144, .ishl, 145, 0), (145, .goto 4, 148, 149), (148, .iconst 0, 149, 0), (149, .ior, 150, 0), (150, .istore_n 1, 151, 0), (151, .iinc 2 1, 154, 0), (154, .goto (-150), 157, 4), (157, .iload_n 1, 158, 0), (158, .ireturn, 159, 0)])
theorem okR_brokenOnes : tw_ok mR_brokenOnes := ⟨by decide, by decide +kernel⟩
def mR_nextTry : tM := (⟨"TwinToolsModel", "nextTry", "()I"⟩, prog_14_method_64_code, 9, (some .int), [(0, .aload_n 0, 1, 0), (1, .invokevirtual 219, 4, 0), (4, .istore_n 1, 5, 0), (5, .bipush (-5), 7, 0), (7, .istore_n 2, 8, 0), (8, .iconst 0, 9, 0), (9, .istore_n 3, 10, 0), (10, .iconst 0, 11, 0), (11, .istore 4, 13, 0), (13, .iload 4, 15, 0), (15, .aload_n 0, 16, 0), (16, .getfield 9, 19, 0), (19, .iconst 1, 20, 0), (20, .iaload, 21, 0), (21, .if_icmp .ge 115, 24, 136), (24, .aload_n 0, 25, 0), (25, .getfield 9, 28, 0), (28, .bipush 94, 30, 0), (30, .iload 4, 32, 0), (32, .iadd, 33, 0), (33, .iaload, 34, 0), (34, .iload 4, 36, 0), (36, .if_icmp .le 94, 39, 130), (39, .iload_n 1, 40, 0), (40, .iload 4, 42, 0), (42, .ishr, 43, 0), (43, .iconst 1, 44, 0), (44, .iand, 45, 0), (45, .iload_n 1, 46, 0), (46, .aload_n 0, 47, 0), (47, .getfield 9, 50, 0), (50, .bipush 94, 52, 0), (52, .iload 4, 54, 0), (54, .iadd, 55, 0), (55, .iaload, 56, 0), (56, .ishr, 57, 0), (57, .iconst 1, 58, 0), (58, .iand, 59, 0), (59, .iadd, 60, 0), (60, .istore 5, 62, 0), (62, .iload_n 1, 63, 0), (63, .invokestatic 191, 66, 0), (66, .iload 5, 68, 0), (68, .isub, 69, 0), (69, .istore 6, 71, 0), (71, .iload 5, 73, 0), (73, .iload 6, 75, 0), (75, .if_icmp .le 8, 78, 83), (78, .iload 5, 80, 0), (80, .goto 5, 83, 85), (83, .iload 6, 85, 0), (85, .istore 7, 87, 0), (87, .iload_n 2, 88, 0), (88, .bipush (-5), 90, 0), (90, .if_icmp .eq 9, 93, 99), (93, .iload 7, 95, 0), (95, .iload_n 3, 96, 0), (96, .if_icmp .ge 7, 99, 103), (99, .iconst 1, 100, 0), (100, .goto 4, 103, 104), (103, .iconst 0, 104, 0), (104, .istore 8, 106, 0), (106, .iload 8, 108, 0), (108, .ifCond .eq 8, 111, 116), (111, .iload 4, 113, 0), (113, .goto 4, 116, 117), (116, .iload_n 2, 117, 0), (117, .istore_n 2, 118, 0), (118, .iload 8, 120, 0), (120, .ifCond .eq 8, 123, 128), (123, .iload 7, 125, 0), (125, .goto 4, 128, 129), (128, .iload_n 3, 129, 0), (129, .istore_n 3, 130, 0), (130, .iinc 4 1, 133, 0), (133, .goto (-120), 136, 13), (136, .iload_n 2, 137, 0), (137, .ireturn, 138, 0)])
theorem okR_nextTry : tw_ok mR_nextTry := ⟨by decide, by decide +kernel⟩
def mR_find : tM := (⟨"TwinToolsModel", "find", "(I)I"⟩, prog_14_method_65_code, 2, (some .int), [(0, .iload_n 1, 1, 0), (1, .ifCond .ne 10, 4, 11), (4, .aload_n 0, 5, 0), (5, .invokevirtual 219, 8, 0), (8, .goto 16, 11, 24), (11, .iload_n 1, 12, 0), (12, .iconst 1, 13, 0), (13, .if_icmp .ne 10, 16, 23), (16, .aload_n 0, 17, 0), (17, .invokevirtual 222, 20, 0), (20, .goto 4, 23, 24), (23, .iconst (-1), 24, 0), (24, .ireturn, 25, 0)])
theorem okR_find : tw_ok mR_find := ⟨by decide, by decide +kernel⟩
def mR_fits : tM := (⟨"TwinToolsModel", "fits", "(I)I"⟩, prog_14_method_66_code, 7, (some .int), [(0, .aload_n 0, 1, 0), (1, .iload_n 1, 2, 0), (2, .invokevirtual 120, 5, 0), (5, .ifCond .ne 5, 8, 10), (8, .iconst (-1), 9, 0), (9, .ireturn, 10, 0), (10, .iconst 0, 11, 0), (11, .istore_n 2, 12, 0), (12, .iconst 0, 13, 0), (13, .istore_n 3, 14, 0), (14, .iload_n 3, 15, 0), (15, .aload_n 0, 16, 0), (16, .getfield 9, 19, 0), (19, .iconst 1, 20, 0), (20, .iaload, 21, 0), (21, .if_icmp .ge 165, 24, 186), (24, .iload_n 3, 25, 0), (25, .iload_n 1, 26, 0), (26, .if_icmp .eq 7, 29, 33), (29, .iconst 1, 30, 0), (30, .goto 4, 33, 34), (33, .iconst 0, 34, 0), (34, .istore 4, 36, 0), (36, .iconst 0, 37, 0), (37, .istore 5, 39, 0), (39, .iload 5, 41, 0), (41, .aload_n 0, 42, 0), (42, .getfield 9, 45, 0), (45, .iconst 3, 46, 0), (46, .iaload, 47, 0), (47, .if_icmp .ge 118, 50, 165), (50, .aload_n 0, 51, 0), (51, .getfield 9, 54, 0), (54, .bipush 114, 56, 0), (56, .iload 5, 58, 0), (58, .iadd, 59, 0), (59, .iaload, 60, 0), (60, .iload_n 1, 61, 0), (61, .if_icmp .ne 16, 64, 77), (64, .aload_n 0, 65, 0), (65, .getfield 9, 68, 0), (68, .bipush 126, 70, 0), (70, .iload 5, 72, 0), (72, .iadd, 73, 0), (73, .iaload, 74, 0), (74, .goto 31, 77, 105), (77, .aload_n 0, 78, 0), (78, .getfield 9, 81, 0), (81, .bipush 126, 83, 0), (83, .iload 5, 85, 0), (85, .iadd, 86, 0), (86, .iaload, 87, 0), (87, .iload_n 1, 88, 0), (88, .if_icmp .ne 16, 91, 104), (91, .aload_n 0, 92, 0), (92, .getfield 9, 95, 0), (95, .bipush 114, 97, 0), (97, .iload 5, 99, 0), (99, .iadd, 100, 0), (100, .iaload, 101, 0), (101, .goto 4, 104, 105), (104, .iconst (-1), 105, 0), (105, .istore 6, 107, 0), (107, .iload 4, 109, 0), (109, .ifCond .eq 47, 112, 156), (112, .iload 6, 114, 0), (114, .iconst (-1), 115, 0), (115, .if_icmp .eq 37, 118, 152), (118, .iload 6, 120, 0), (120, .iload_n 3, 121, 0), (121, .if_icmp .ne 7, 124, 128), (124, .iconst 1, 125, 0), (125, .goto 4, 128, 129), (128, .iconst 0, 129, 0), (129, .aload_n 0, 130, 0), (130, .getfield 9, 133, 0), (133, .sipush 138, 136, 0), (136, .iload 5, 138, 0), (138, .iadd, 139, 0), (139, .iaload, 140, 0), (140, .iconst 1, 141, 0), (141, .if_icmp .ne 7, 144, 148), (144, .iconst 1, 145, 0), (145, .goto 4, 148, 149), (148, .iconst 0, 149, 0), (149, .if_icmp .ne 7, 152, 156), (152, .iconst 1, 153, 0), (153, .goto 4, 156, 157), (156, .iconst 0, 157, 0), (157, .istore 4, 159, 0), (159, .iinc 5 1, 162, 0), (162, .goto (-123), 165, 39), (165, .iload_n 2, 166, 0), (166, .iload 4, 168, 0), (168, .ifCond .eq 9, 171, 177), (171, .iconst 1, 172, 0), (172, .iload_n 3, 173, 0), (173, .ishl, 174, 0), (174, .goto 4, 177, 178), (177, .iconst 0, 178, 0), (178, .ior, 179, 0), (179, .istore_n 2, 180, 0), (180, .iinc 3 1, 183, 0), (183, .goto (-169), 186, 14), (186, .iload_n 2, 187, 0), (187, .ireturn, 188, 0)])
theorem okR_fits : tw_ok mR_fits := ⟨by decide, by decide +kernel⟩
def mR_divisor : tM := (⟨"TwinToolsModel", "divisor", "(JJ)J"⟩, prog_14_method_67_code, 10, (some .long), [(0, .lload_n 0, 1, 0), (1, .lstore 4, 3, 0), (3, .lload_n 2, 4, 0), (4, .lstore 6, 6, 0), (6, .lload 6, 8, 0), (8, .lconst 0, 9, 0), (9, .lcmp, 10, 0), (10, .ifCond .eq 21, 13, 31), (13, .lload 4, 15, 0), (15, .lload 6, 17, 0), (17, .lrem, 18, 0), (18, .lstore 8, 20, 0), (20, .lload 6, 22, 0), (22, .lstore 4, 24, 0), (24, .lload 8, 26, 0), (26, .lstore 6, 28, 0), (28, .goto (-22), 31, 6), (31, .lload 4, 33, 0), (33, .lreturn, 34, 0)])
theorem okR_divisor : tw_ok mR_divisor := ⟨by decide, by decide +kernel⟩
def mR_once : tM := (⟨"TwinToolsModel", "once", "(IIII)J"⟩, prog_14_method_68_code, 11, (some .long), [(0, .iload_n 1, 1, 0), (1, .iconst 0, 2, 0), (2, .bipush 10, 4, 0), (4, .invokestatic 38, 7, 0), (7, .ifCond .eq 32, 10, 39), (10, .iload_n 2, 11, 0), (11, .iconst 0, 12, 0), (12, .bipush 10, 14, 0), (14, .invokestatic 38, 17, 0), (17, .ifCond .eq 22, 20, 39), (20, .iload_n 3, 21, 0), (21, .iconst 1, 22, 0), (22, .iconst 4, 23, 0), (23, .invokestatic 38, 26, 0), (26, .ifCond .eq 13, 29, 39), (29, .iload 4, 31, 0), (31, .iconst 0, 32, 0), (32, .iconst 1, 33, 0), (33, .invokestatic 38, 36, 0), (36, .ifCond .ne 7, 39, 43), (39, .ldc2_w 225, 42, 0), (42, .lreturn, 43, 0), (43, .lconst 1, 44, 0), (44, .lstore 5, 46, 0), (46, .lconst 1, 47, 0), (47, .lstore 7, 49, 0), (49, .iconst 0, 50, 0), (50, .istore 9, 52, 0), (52, .iload 9, 54, 0), (54, .iload_n 3, 55, 0), (55, .if_icmp .ge 29, 58, 84), (58, .lload 5, 60, 0), (60, .ldc2_w 227, 63, 0), (63, .lmul, 64, 0), (64, .lstore 5, 66, 0), (66, .lload 7, 68, 0), (68, .bipush 100, 70, 0), (70, .iload_n 1, 71, 0), (71, .iload_n 2, 72, 0), (72, .imul, 73, 0), (73, .isub, 74, 0), (74, .i2l, 75, 0), (75, .lmul, 76, 0), (76, .lstore 7, 78, 0), (78, .iinc 9 1, 81, 0), (81, .goto (-29), 84, 52), (84, .lload 5, 86, 0), (86, .lload 7, 88, 0), (88, .lsub, 89, 0), (89, .lstore 9, 91, 0), (91, .iload 4, 93, 0), (93, .ifCond .ne 8, 96, 101), (96, .lload 9, 98, 0), (98, .goto 5, 101, 103), (101, .lload 5, 103, 0), (103, .lload 9, 105, 0), (105, .lload 5, 107, 0), (107, .invokestatic 229, 110, 0), (110, .ldiv, 111, 0), (111, .lreturn, 112, 0)])
theorem okR_once : tw_ok mR_once := ⟨by decide, by decide +kernel⟩
def mR_book : tM := (⟨"TwinToolsModel", "book", "(II)I"⟩, prog_14_method_69_code, 3, (some .int), [(0, .iload_n 1, 1, 0), (1, .invokestatic 130, 4, 0), (4, .ifCond .eq 11, 7, 15), (7, .aload_n 0, 8, 0), (8, .iload_n 2, 9, 0), (9, .invokevirtual 120, 12, 0), (12, .ifCond .ne 5, 15, 17), (15, .iconst (-1), 16, 0), (16, .ireturn, 17, 0), (17, .aload_n 0, 18, 0), (18, .getfield 9, 21, 0), (21, .iconst 4, 22, 0), (22, .iaload, 23, 0), (23, .bipush 12, 25, 0), (25, .if_icmp .ne 6, 28, 31), (28, .bipush (-4), 30, 0), (30, .ireturn, 31, 0), (31, .aload_n 0, 32, 0), (32, .getfield 9, 35, 0), (35, .sipush 150, 38, 0), (38, .aload_n 0, 39, 0), (39, .getfield 9, 42, 0), (42, .iconst 4, 43, 0), (43, .iaload, 44, 0), (44, .iadd, 45, 0), (45, .iload_n 1, 46, 0), (46, .iastore, 47, 0), (47, .aload_n 0, 48, 0), (48, .getfield 9, 51, 0), (51, .sipush 162, 54, 0), (54, .aload_n 0, 55, 0), (55, .getfield 9, 58, 0), (58, .iconst 4, 59, 0), (59, .iaload, 60, 0), (60, .iadd, 61, 0), (61, .iload_n 2, 62, 0), (62, .iastore, 63, 0), (63, .aload_n 0, 64, 0), (64, .getfield 9, 67, 0), (67, .iconst 4, 68, 0), (68, .dup2, 69, 0), (69, .iaload, 70, 0), (70, .iconst 1, 71, 0), (71, .iadd, 72, 0), (72, .iastore, 73, 0), (73, .aload_n 0, 74, 0), (74, .getfield 9, 77, 0), (77, .iconst 4, 78, 0), (78, .iaload, 79, 0), (79, .ireturn, 80, 0)])
theorem okR_book : tw_ok mR_book := ⟨by decide, by decide +kernel⟩
def mR_looked : tM := (⟨"TwinToolsModel", "looked", "()I"⟩, prog_14_method_70_code, 2, (some .int), [(0, .iconst 0, 1, 0), (1, .istore_n 1, 2, 0), (2, .iload_n 1, 3, 0), (3, .aload_n 0, 4, 0), (4, .getfield 9, 7, 0), (7, .iconst 4, 8, 0), (8, .iaload, 9, 0), (9, .if_icmp .ge 42, 12, 51), (12, .aload_n 0, 13, 0), (13, .aload_n 0, 14, 0), (14, .getfield 9, 17, 0), (17, .sipush 162, 20, 0), (20, .iload_n 1, 21, 0), (21, .iadd, 22, 0), (22, .iaload, 23, 0), (23, .aload_n 0, 24, 0), (24, .aload_n 0, 25, 0), (25, .getfield 9, 28, 0), (28, .sipush 150, 31, 0), (31, .iload_n 1, 32, 0), (32, .iadd, 33, 0), (33, .iaload, 34, 0), (34, .invokevirtual 160, 37, 0), (37, .invokevirtual 163, 40, 0), (40, .ifCond .ne 5, 43, 45), (43, .iload_n 1, 44, 0), (44, .ireturn, 45, 0), (45, .iinc 1 1, 48, 0), (48, .goto (-46), 51, 2), (51, .bipush (-5), 53, 0), (53, .ireturn, 54, 0)])
theorem okR_looked : tw_ok mR_looked := ⟨by decide, by decide +kernel⟩
def mR_ranBody : tM := (⟨"TwinToolsModel", "ranBody", "(I)V"⟩, prog_14_method_71_code, 2, none, [(0, .aload_n 0, 1, 0), (1, .getfield 233, 4, 0), (4, .bipush 20, 6, 0), (6, .if_icmp .ge 13, 9, 19), (9, .aload_n 0, 10, 0), (10, .getfield 31, 13, 0), (13, .aload_n 0, 14, 0), (14, .getfield 233, 17, 0), (17, .iload_n 1, 18, 0), (18, .iastore, 19, 0), (19, .aload_n 0, 20, 0), (20, .dup, 21, 0), (21, .getfield 233, 24, 0), (24, .iconst 1, 25, 0), (25, .iadd, 26, 0), (26, .putfield 233, 29, 0), (29, .return_, 30, 0)])
theorem okR_ranBody : tw_ok mR_ranBody := ⟨by decide, by decide +kernel⟩
def mR_isUnder : tM := (⟨"TwinToolsModel", "isUnder", "(II)Z"⟩, prog_14_method_72_code, 2, (some .boolean), [(0, .iload_n 1, 1, 0), (1, .ifCond .eq 24, 4, 25), (4, .iload_n 1, 5, 0), (5, .iload_n 0, 6, 0), (6, .if_icmp .eq 19, 9, 25), (9, .iload_n 1, 10, 0), (10, .ifCond .le 19, 13, 29), (13, .iload_n 1, 14, 0), (14, .iconst 4, 15, 0), (15, .if_icmp .ge 14, 18, 29), (18, .iload_n 0, 19, 0), (19, .iload_n 1, 20, 0), (20, .iconst 3, 21, 0), (21, .iadd, 22, 0), (22, .if_icmp .ne 7, 25, 29), (25, .iconst 1, 26, 0), (26, .goto 4, 29, 30), (29, .iconst 0, 30, 0), (30, .ireturn, 31, 0)])
theorem okR_isUnder : tw_ok mR_isUnder := ⟨by decide, by decide +kernel⟩
def mR_plainLifts : tM := (⟨"TwinToolsModel", "plainLifts", "(I)I"⟩, prog_14_method_73_code, 2, (some .int), [(0, .aload_n 0, 1, 0), (1, .iconst 1, 2, 0), (2, .invokevirtual 236, 5, 0), (5, .iload_n 1, 6, 0), (6, .aload_n 0, 7, 0), (7, .getfield 239, 10, 0), (10, .iadd, 11, 0), (11, .ireturn, 12, 0)])
theorem okR_plainLifts : tw_ok mR_plainLifts := ⟨by decide, by decide +kernel⟩
def mR_liftsActs : tM := (⟨"TwinToolsModel", "liftsActs", "(I)I"⟩, prog_14_method_74_code, 2, (some .int), [(0, .aload_n 0, 1, 0), (1, .getfield 242, 4, 0), (4, .iconst 1, 5, 0), (5, .invokestatic 245, 8, 0), (8, .ifCond .eq 17, 11, 25), (11, .aload_n 0, 12, 0), (12, .bipush 11, 14, 0), (14, .invokevirtual 236, 17, 0), (17, .aload_n 0, 18, 0), (18, .iload_n 1, 19, 0), (19, .iconst 3, 20, 0), (20, .imul, 21, 0), (21, .invokevirtual 248, 24, 0), (24, .ireturn, 25, 0), (25, .aload_n 0, 26, 0), (26, .getfield 242, 29, 0), (29, .iconst 5, 30, 0), (30, .if_icmp .ne 20, 33, 50), (33, .aload_n 0, 34, 0), (34, .bipush 51, 36, 0), (36, .invokevirtual 236, 39, 0), (39, .aload_n 0, 40, 0), (40, .iload_n 1, 41, 0), (41, .invokevirtual 248, 44, 0), (44, .aload_n 0, 45, 0), (45, .getfield 239, 48, 0), (48, .ixor, 49, 0), (49, .ireturn, 50, 0), (50, .aload_n 0, 51, 0), (51, .iload_n 1, 52, 0), (52, .invokevirtual 248, 55, 0), (55, .ireturn, 56, 0)])
theorem okR_liftsActs : tw_ok mR_liftsActs := ⟨by decide, by decide +kernel⟩
def mR_plainWaits : tM := (⟨"TwinToolsModel", "plainWaits", "(I)I"⟩, prog_14_method_75_code, 2, (some .int), [(0, .aload_n 0, 1, 0), (1, .iconst 2, 2, 0), (2, .invokevirtual 236, 5, 0), (5, .aload_n 0, 6, 0), (6, .iload_n 1, 7, 0), (7, .invokevirtual 251, 10, 0), (10, .aload_n 0, 11, 0), (11, .getfield 254, 14, 0), (14, .isub, 15, 0), (15, .ireturn, 16, 0)])
theorem okR_plainWaits : tw_ok mR_plainWaits := ⟨by decide, by decide +kernel⟩
def mR_waitsActs : tM := (⟨"TwinToolsModel", "waitsActs", "(I)I"⟩, prog_14_method_76_code, 2, (some .int), [(0, .aload_n 0, 1, 0), (1, .getfield 242, 4, 0), (4, .iconst 2, 5, 0), (5, .invokestatic 245, 8, 0), (8, .ifCond .eq 16, 11, 24), (11, .aload_n 0, 12, 0), (12, .bipush 21, 14, 0), (14, .invokevirtual 236, 17, 0), (17, .aload_n 0, 18, 0), (18, .iload_n 1, 19, 0), (19, .invokevirtual 257, 22, 0), (22, .ineg, 23, 0), (23, .ireturn, 24, 0), (24, .aload_n 0, 25, 0), (25, .getfield 242, 28, 0), (28, .bipush 6, 30, 0), (30, .if_icmp .ne 20, 33, 50), (33, .aload_n 0, 34, 0), (34, .bipush 61, 36, 0), (36, .invokevirtual 236, 39, 0), (39, .aload_n 0, 40, 0), (40, .iload_n 1, 41, 0), (41, .invokevirtual 257, 44, 0), (44, .aload_n 0, 45, 0), (45, .getfield 254, 48, 0), (48, .iadd, 49, 0), (49, .ireturn, 50, 0), (50, .aload_n 0, 51, 0), (51, .iload_n 1, 52, 0), (52, .invokevirtual 257, 55, 0), (55, .ireturn, 56, 0)])
theorem okR_waitsActs : tw_ok mR_waitsActs := ⟨by decide, by decide +kernel⟩
def mR_plainTells : tM := (⟨"TwinToolsModel", "plainTells", "(I)I"⟩, prog_14_method_77_code, 2, (some .int), [(0, .aload_n 0, 1, 0), (1, .iconst 3, 2, 0), (2, .invokevirtual 236, 5, 0), (5, .aload_n 0, 6, 0), (6, .iload_n 1, 7, 0), (7, .invokevirtual 260, 10, 0), (10, .iconst 2, 11, 0), (11, .imul, 12, 0), (12, .ireturn, 13, 0)])
theorem okR_plainTells : tw_ok mR_plainTells := ⟨by decide, by decide +kernel⟩
def mR_tellsActs : tM := (⟨"TwinToolsModel", "tellsActs", "(I)I"⟩, prog_14_method_78_code, 3, (some .int), [(0, .aload_n 0, 1, 0), (1, .getfield 242, 4, 0), (4, .iconst 3, 5, 0), (5, .invokestatic 245, 8, 0), (8, .ifCond .eq 18, 11, 26), (11, .aload_n 0, 12, 0), (12, .bipush 31, 14, 0), (14, .invokevirtual 236, 17, 0), (17, .aload_n 0, 18, 0), (18, .iload_n 1, 19, 0), (19, .invokevirtual 263, 22, 0), (22, .bipush 7, 24, 0), (24, .ixor, 25, 0), (25, .ireturn, 26, 0), (26, .aload_n 0, 27, 0), (27, .getfield 242, 30, 0), (30, .iconst 4, 31, 0), (31, .if_icmp .ne 25, 34, 56), (34, .aload_n 0, 35, 0), (35, .bipush 41, 37, 0), (37, .invokevirtual 236, 40, 0), (40, .aload_n 0, 41, 0), (41, .iload_n 1, 42, 0), (42, .iconst 1, 43, 0), (43, .isub, 44, 0), (44, .invokevirtual 263, 47, 0), (47, .istore_n 2, 48, 0), (48, .iload_n 2, 49, 0), (49, .aload_n 0, 50, 0), (50, .iconst 2, 51, 0), (51, .invokevirtual 251, 54, 0), (54, .iadd, 55, 0), (55, .ireturn, 56, 0), (56, .aload_n 0, 57, 0), (57, .iload_n 1, 58, 0), (58, .invokevirtual 263, 61, 0), (61, .ireturn, 62, 0)])
theorem okR_tellsActs : tw_ok mR_tellsActs := ⟨by decide, by decide +kernel⟩
def mR_act : tM := (⟨"TwinToolsModel", "act", "(III)I"⟩, prog_14_method_79_code, 4, (some .int), [(0, .aload_n 0, 1, 0), (1, .iconst 0, 2, 0), (2, .putfield 233, 5, 0), (5, .aload_n 0, 6, 0), (6, .iload_n 1, 7, 0), (7, .invokevirtual 115, 10, 0), (10, .ifCond .eq 12, 13, 22), (13, .iload_n 2, 14, 0), (14, .iconst 0, 15, 0), (15, .iconst 2, 16, 0), (16, .invokestatic 38, 19, 0), (19, .ifCond .ne 5, 22, 24), (22, .iconst 0, 23, 0), (23, .ireturn, 24, 0), (24, .aload_n 0, 25, 0), (25, .aload_n 0, 26, 0), (26, .getfield 9, 29, 0), (29, .bipush 10, 31, 0), (31, .iload_n 1, 32, 0), (32, .iadd, 33, 0), (33, .iaload, 34, 0), (34, .putfield 242, 37, 0), (37, .aload_n 0, 38, 0), (38, .iload_n 1, 39, 0), (39, .putfield 239, 42, 0), (42, .aload_n 0, 43, 0), (43, .aload_n 0, 44, 0), (44, .getfield 9, 47, 0), (47, .bipush 18, 49, 0), (49, .iload_n 1, 50, 0), (50, .iadd, 51, 0), (51, .iaload, 52, 0), (52, .putfield 254, 55, 0), (55, .iload_n 2, 56, 0), (56, .ifCond .ne 11, 59, 67), (59, .aload_n 0, 60, 0), (60, .iload_n 3, 61, 0), (61, .invokevirtual 251, 64, 0), (64, .goto 21, 67, 85), (67, .iload_n 2, 68, 0), (68, .iconst 1, 69, 0), (69, .if_icmp .ne 11, 72, 80), (72, .aload_n 0, 73, 0), (73, .iload_n 3, 74, 0), (74, .invokevirtual 260, 77, 0), (77, .goto 8, 80, 85), (80, .aload_n 0, 81, 0), (81, .iload_n 3, 82, 0), (82, .invokevirtual 266, 85, 0), (85, .ireturn, 86, 0)])
theorem okR_act : tw_ok mR_act := ⟨by decide, by decide +kernel⟩
def mR_trace : tM := (⟨"TwinToolsModel", "trace", "(I)I"⟩, prog_14_method_80_code, 2, (some .int), [(0, .iload_n 1, 1, 0), (1, .iconst 0, 2, 0), (2, .aload_n 0, 3, 0), (3, .getfield 233, 6, 0), (6, .bipush 20, 8, 0), (8, .if_icmp .ge 10, 11, 18), (11, .aload_n 0, 12, 0), (12, .getfield 233, 15, 0), (15, .goto 5, 18, 20), (18, .bipush 20, 20, 0), (20, .iconst 1, 21, 0), (21, .isub, 22, 0), (22, .invokestatic 38, 25, 0), (25, .ifCond .eq 12, 28, 37), (28, .aload_n 0, 29, 0), (29, .getfield 31, 32, 0), (32, .iload_n 1, 33, 0), (33, .iaload, 34, 0), (34, .goto 4, 37, 38), (37, .iconst (-1), 38, 0), (38, .ireturn, 39, 0)])
theorem okR_trace : tw_ok mR_trace := ⟨by decide, by decide +kernel⟩
def mR_as : tM := (⟨"TwinToolsModel", "as", "(II)I"⟩, prog_14_method_81_code, 3, (some .int), [(0, .aload_n 0, 1, 0), (1, .iload_n 1, 2, 0), (2, .invokevirtual 115, 5, 0), (5, .ifCond .eq 13, 8, 18), (8, .iload_n 2, 9, 0), (9, .iconst 0, 10, 0), (10, .bipush 6, 12, 0), (12, .invokestatic 38, 15, 0), (15, .ifCond .ne 5, 18, 20), (18, .iconst (-1), 19, 0), (19, .ireturn, 20, 0), (20, .aload_n 0, 21, 0), (21, .getfield 9, 24, 0), (24, .bipush 10, 26, 0), (26, .iload_n 1, 27, 0), (27, .iadd, 28, 0), (28, .iaload, 29, 0), (29, .iload_n 2, 30, 0), (30, .invokestatic 245, 33, 0), (33, .ifCond .eq 15, 36, 48), (36, .aload_n 0, 37, 0), (37, .getfield 9, 40, 0), (40, .bipush 18, 42, 0), (42, .iload_n 1, 43, 0), (43, .iadd, 44, 0), (44, .iaload, 45, 0), (45, .goto 5, 48, 50), (48, .bipush (-6), 50, 0), (50, .ireturn, 51, 0)])
theorem okR_as : tw_ok mR_as := ⟨by decide, by decide +kernel⟩
def mR_image : tM := (⟨"TwinToolsModel", "image", "()I"⟩, prog_14_method_82_code, 2, (some .int), [(0, .iconst 0, 1, 0), (1, .istore_n 1, 2, 0), (2, .iload_n 1, 3, 0), (3, .sipush 984, 6, 0), (6, .if_icmp .ge 21, 9, 27), (9, .aload_n 0, 10, 0), (10, .getfield 15, 13, 0), (13, .iload_n 1, 14, 0), (14, .aload_n 0, 15, 0), (15, .getfield 9, 18, 0), (18, .iload_n 1, 19, 0), (19, .iaload, 20, 0), (20, .iastore, 21, 0), (21, .iinc 1 1, 24, 0), (24, .goto (-22), 27, 2), (27, .aload_n 0, 28, 0), (28, .iconst 1, 29, 0), (29, .putfield 269, 32, 0), (32, .aload_n 0, 33, 0), (33, .getfield 9, 36, 0), (36, .iconst 1, 37, 0), (37, .iaload, 38, 0), (38, .ireturn, 39, 0)])
theorem okR_image : tw_ok mR_image := ⟨by decide, by decide +kernel⟩
def mR_undo : tM := (⟨"TwinToolsModel", "undo", "()I"⟩, prog_14_method_83_code, 2, (some .int), [(0, .aload_n 0, 1, 0), (1, .getfield 269, 4, 0), (4, .ifCond .ne 6, 7, 10), (7, .bipush (-3), 9, 0), (9, .ireturn, 10, 0), (10, .iconst 0, 11, 0), (11, .istore_n 1, 12, 0), (12, .iload_n 1, 13, 0), (13, .sipush 984, 16, 0), (16, .if_icmp .ge 21, 19, 37), (19, .aload_n 0, 20, 0), (20, .getfield 9, 23, 0), (23, .iload_n 1, 24, 0), (24, .aload_n 0, 25, 0), (25, .getfield 15, 28, 0), (28, .iload_n 1, 29, 0), (29, .iaload, 30, 0), (30, .iastore, 31, 0), (31, .iinc 1 1, 34, 0), (34, .goto (-22), 37, 12), (37, .aload_n 0, 38, 0), (38, .getfield 9, 41, 0), (41, .iconst 1, 42, 0), (42, .iaload, 43, 0), (43, .ireturn, 44, 0)])
theorem okR_undo : tw_ok mR_undo := ⟨by decide, by decide +kernel⟩
def mR_count : tM := (⟨"TwinToolsModel", "count", "(I)I"⟩, prog_14_method_84_code, 2, (some .int), [(0, .iload_n 1, 1, 0), (1, .tableswitch 90 0 6 #[43, 50, 57, 64, 71, 78, 85], 44, 0), (44, .aload_n 0, 45, 0), (45, .getfield 9, 48, 0), (48, .iconst 0, 49, 0), (49, .iaload, 50, 0), (50, .ireturn, 51, 0), (51, .aload_n 0, 52, 0), (52, .getfield 9, 55, 0), (55, .iconst 1, 56, 0), (56, .iaload, 57, 0), (57, .ireturn, 58, 0), (58, .aload_n 0, 59, 0), (59, .getfield 9, 62, 0), (62, .iconst 2, 63, 0), (63, .iaload, 64, 0), (64, .ireturn, 65, 0), (65, .aload_n 0, 66, 0), (66, .getfield 9, 69, 0), (69, .iconst 3, 70, 0), (70, .iaload, 71, 0), (71, .ireturn, 72, 0), (72, .aload_n 0, 73, 0), (73, .getfield 9, 76, 0), (76, .iconst 4, 77, 0), (77, .iaload, 78, 0), (78, .ireturn, 79, 0), (79, .aload_n 0, 80, 0), (80, .getfield 9, 83, 0), (83, .iconst 5, 84, 0), (84, .iaload, 85, 0), (85, .ireturn, 86, 0), (86, .aload_n 0, 87, 0), (87, .getfield 233, 90, 0), (90, .ireturn, 91, 0), (91, .iconst (-1), 92, 0), (92, .ireturn, 93, 0)])
theorem okR_count : tw_ok mR_count := ⟨by decide, by decide +kernel⟩
end
section
theorem flR_9_12 : tw_FL "TwinToolsModel" 9 12 1 := ⟨"TwinToolsModel", "TwinToolsModel", T_12, 23, rfl, by decide, tw_in 1165 (by decide +kernel) rfl, Or.inl rfl⟩
theorem flR_15_12 : tw_FL "TwinToolsModel" 15 12 2 := ⟨"TwinToolsModel", "TwinToolsModel", T_12, 23, rfl, by decide, tw_in 1166 (by decide +kernel) rfl, Or.inl rfl⟩
theorem flR_18_12 : tw_FL "TwinToolsModel" 18 12 9 := ⟨"TwinToolsModel", "TwinToolsModel", T_12, 23, rfl, by decide, tw_in 1173 (by decide +kernel) rfl, Or.inl rfl⟩
theorem flR_21_12 : tw_FL "TwinToolsModel" 21 12 10 := ⟨"TwinToolsModel", "TwinToolsModel", T_12, 23, rfl, by decide, tw_in 1174 (by decide +kernel) rfl, Or.inl rfl⟩
theorem flR_25_12 : tw_FL "TwinToolsModel" 25 12 14 := ⟨"TwinToolsModel", "TwinToolsModel", T_12, 23, rfl, by decide, tw_in 1178 (by decide +kernel) rfl, Or.inl rfl⟩
theorem flR_28_12 : tw_FL "TwinToolsModel" 28 12 15 := ⟨"TwinToolsModel", "TwinToolsModel", T_12, 23, rfl, by decide, tw_in 1179 (by decide +kernel) rfl, Or.inl rfl⟩
theorem flR_31_12 : tw_FL "TwinToolsModel" 31 12 18 := ⟨"TwinToolsModel", "TwinToolsModel", T_12, 23, rfl, by decide, tw_in 1182 (by decide +kernel) rfl, Or.inl rfl⟩
theorem lsR_38 : tw_LS "TwinToolsModel" 38 mR_in 3 := ⟨⟨tw_in 1239 (by decide +kernel) rfl, tw_in 1240 (by decide +kernel) rfl, tw_in 76 (by decide +kernel) rfl, tw_in 1241 (by decide +kernel) rfl⟩, ⟨by decide, by decide, by decide⟩⟩
theorem flR_42_12 : tw_FL "TwinToolsModel" 42 12 5 := ⟨"TwinToolsModel", "TwinToolsModel", T_12, 23, rfl, by decide, tw_in 1169 (by decide +kernel) rfl, Or.inl rfl⟩
theorem flR_45_12 : tw_FL "TwinToolsModel" 45 12 6 := ⟨"TwinToolsModel", "TwinToolsModel", T_12, 23, rfl, by decide, tw_in 1170 (by decide +kernel) rfl, Or.inl rfl⟩
theorem flR_48_12 : tw_FL "TwinToolsModel" 48 12 7 := ⟨"TwinToolsModel", "TwinToolsModel", T_12, 23, rfl, by decide, tw_in 1171 (by decide +kernel) rfl, Or.inl rfl⟩
theorem lvR_52 : tw_LV "TwinToolsModel" 52 mR_here "TwinToolsModel" 0 := ⟨⟨tw_in 1250 (by decide +kernel) rfl, tw_in 1252 (by decide +kernel) rfl, tw_in 26 (by decide +kernel) rfl, tw_in 76 (by decide +kernel) rfl, tw_in 1253 (by decide +kernel) rfl⟩, rfl, ⟨by decide, by decide, by decide⟩⟩
theorem lvR_65 : tw_LV "TwinToolsModel" 65 mR_must "TwinToolsModel" 1 := ⟨⟨tw_in 1265 (by decide +kernel) rfl, tw_in 1267 (by decide +kernel) rfl, tw_in 29 (by decide +kernel) rfl, tw_in 76 (by decide +kernel) rfl, tw_in 1268 (by decide +kernel) rfl⟩, rfl, ⟨by decide, by decide, by decide⟩⟩
theorem flR_69_12 : tw_FL "TwinToolsModel" 69 12 4 := ⟨"TwinToolsModel", "TwinToolsModel", T_12, 23, rfl, by decide, tw_in 1168 (by decide +kernel) rfl, Or.inl rfl⟩
theorem flR_72_12 : tw_FL "TwinToolsModel" 72 12 8 := ⟨"TwinToolsModel", "TwinToolsModel", T_12, 23, rfl, by decide, tw_in 1172 (by decide +kernel) rfl, Or.inl rfl⟩
theorem lvR_75 : tw_LV "TwinToolsModel" 75 mR_factor "TwinToolsModel" 0 := ⟨⟨tw_in 1281 (by decide +kernel) rfl, tw_in 1283 (by decide +kernel) rfl, tw_in 33 (by decide +kernel) rfl, tw_in 76 (by decide +kernel) rfl, tw_in 1284 (by decide +kernel) rfl⟩, rfl, ⟨by decide, by decide, by decide⟩⟩
theorem lvR_78 : tw_LV "TwinToolsModel" 78 mR_emits "TwinToolsModel" 1 := ⟨⟨tw_in 1285 (by decide +kernel) rfl, tw_in 1287 (by decide +kernel) rfl, tw_in 34 (by decide +kernel) rfl, tw_in 76 (by decide +kernel) rfl, tw_in 1288 (by decide +kernel) rfl⟩, rfl, ⟨by decide, by decide, by decide⟩⟩
theorem lvR_81 : tw_LV "TwinToolsModel" 81 mR_some "TwinToolsModel" 0 := ⟨⟨tw_in 1273 (by decide +kernel) rfl, tw_in 1275 (by decide +kernel) rfl, tw_in 31 (by decide +kernel) rfl, tw_in 76 (by decide +kernel) rfl, tw_in 1276 (by decide +kernel) rfl⟩, rfl, ⟨by decide, by decide, by decide⟩⟩
theorem lvR_86 : tw_LV "TwinToolsModel" 86 mR_among "TwinToolsModel" 1 := ⟨⟨tw_in 1290 (by decide +kernel) rfl, tw_in 1292 (by decide +kernel) rfl, tw_in 35 (by decide +kernel) rfl, tw_in 76 (by decide +kernel) rfl, tw_in 1293 (by decide +kernel) rfl⟩, rfl, ⟨by decide, by decide, by decide⟩⟩
theorem lvR_92 : tw_LV "TwinToolsModel" 92 mR_figures "TwinToolsModel" 0 := ⟨⟨tw_in 1269 (by decide +kernel) rfl, tw_in 1271 (by decide +kernel) rfl, tw_in 30 (by decide +kernel) rfl, tw_in 76 (by decide +kernel) rfl, tw_in 1272 (by decide +kernel) rfl⟩, rfl, ⟨by decide, by decide, by decide⟩⟩
theorem lvR_95 : tw_LV "TwinToolsModel" 95 mR_every "TwinToolsModel" 0 := ⟨⟨tw_in 1277 (by decide +kernel) rfl, tw_in 1279 (by decide +kernel) rfl, tw_in 32 (by decide +kernel) rfl, tw_in 76 (by decide +kernel) rfl, tw_in 1280 (by decide +kernel) rfl⟩, rfl, ⟨by decide, by decide, by decide⟩⟩
theorem lvR_98 : tw_LV "TwinToolsModel" 98 mR_spells "TwinToolsModel" 1 := ⟨⟨tw_in 1259 (by decide +kernel) rfl, tw_in 1261 (by decide +kernel) rfl, tw_in 28 (by decide +kernel) rfl, tw_in 76 (by decide +kernel) rfl, tw_in 1262 (by decide +kernel) rfl⟩, rfl, ⟨by decide, by decide, by decide⟩⟩
theorem lvR_104 : tw_LV "TwinToolsModel" 104 mR_much "TwinToolsModel" 2 := ⟨⟨tw_in 1255 (by decide +kernel) rfl, tw_in 1257 (by decide +kernel) rfl, tw_in 27 (by decide +kernel) rfl, tw_in 76 (by decide +kernel) rfl, tw_in 1258 (by decide +kernel) rfl⟩, rfl, ⟨by decide, by decide, by decide⟩⟩
theorem lvR_112 : tw_LV "TwinToolsModel" 112 mR_clauseHere "TwinToolsModel" 0 := ⟨⟨tw_in 1246 (by decide +kernel) rfl, tw_in 1248 (by decide +kernel) rfl, tw_in 25 (by decide +kernel) rfl, tw_in 76 (by decide +kernel) rfl, tw_in 1249 (by decide +kernel) rfl⟩, rfl, ⟨by decide, by decide, by decide⟩⟩
theorem lvR_115 : tw_LV "TwinToolsModel" 115 mR_isPerson "TwinToolsModel" 1 := ⟨⟨tw_in 1305 (by decide +kernel) rfl, tw_in 1307 (by decide +kernel) rfl, tw_in 36 (by decide +kernel) rfl, tw_in 76 (by decide +kernel) rfl, tw_in 1308 (by decide +kernel) rfl⟩, rfl, ⟨by decide, by decide, by decide⟩⟩
theorem lvR_120 : tw_LV "TwinToolsModel" 120 mR_isTool "TwinToolsModel" 1 := ⟨⟨tw_in 1322 (by decide +kernel) rfl, tw_in 1324 (by decide +kernel) rfl, tw_in 37 (by decide +kernel) rfl, tw_in 76 (by decide +kernel) rfl, tw_in 1325 (by decide +kernel) rfl⟩, rfl, ⟨by decide, by decide, by decide⟩⟩
theorem lvR_123 : tw_LV "TwinToolsModel" 123 mR_parts "TwinToolsModel" 1 := ⟨⟨tw_in 1326 (by decide +kernel) rfl, tw_in 1328 (by decide +kernel) rfl, tw_in 38 (by decide +kernel) rfl, tw_in 76 (by decide +kernel) rfl, tw_in 1329 (by decide +kernel) rfl⟩, rfl, ⟨by decide, by decide, by decide⟩⟩
theorem lvR_126 : tw_LV "TwinToolsModel" 126 mR_lesser "TwinToolsModel" 1 := ⟨⟨tw_in 1353 (by decide +kernel) rfl, tw_in 1355 (by decide +kernel) rfl, tw_in 40 (by decide +kernel) rfl, tw_in 76 (by decide +kernel) rfl, tw_in 1356 (by decide +kernel) rfl⟩, rfl, ⟨by decide, by decide, by decide⟩⟩
theorem lsR_130 : tw_LS "TwinToolsModel" 130 mR_isHour 1 := ⟨⟨tw_in 1346 (by decide +kernel) rfl, tw_in 1347 (by decide +kernel) rfl, tw_in 76 (by decide +kernel) rfl, tw_in 1348 (by decide +kernel) rfl⟩, ⟨by decide, by decide, by decide⟩⟩
theorem lvR_133 : tw_LV "TwinToolsModel" 133 mR_worthOf "TwinToolsModel" 2 := ⟨⟨tw_in 1349 (by decide +kernel) rfl, tw_in 1351 (by decide +kernel) rfl, tw_in 39 (by decide +kernel) rfl, tw_in 76 (by decide +kernel) rfl, tw_in 1352 (by decide +kernel) rfl⟩, rfl, ⟨by decide, by decide, by decide⟩⟩
theorem lvR_137 : tw_LV "TwinToolsModel" 137 mR_isFit "TwinToolsModel" 2 := ⟨⟨tw_in 1377 (by decide +kernel) rfl, tw_in 1379 (by decide +kernel) rfl, tw_in 45 (by decide +kernel) rfl, tw_in 76 (by decide +kernel) rfl, tw_in 1380 (by decide +kernel) rfl⟩, rfl, ⟨by decide, by decide, by decide⟩⟩
theorem lvR_141 : tw_LV "TwinToolsModel" 141 mR_isFree "TwinToolsModel" 2 := ⟨⟨tw_in 1365 (by decide +kernel) rfl, tw_in 1367 (by decide +kernel) rfl, tw_in 42 (by decide +kernel) rfl, tw_in 76 (by decide +kernel) rfl, tw_in 1368 (by decide +kernel) rfl⟩, rfl, ⟨by decide, by decide, by decide⟩⟩
theorem lvR_144 : tw_LV "TwinToolsModel" 144 mR_atLeast "TwinToolsModel" 1 := ⟨⟨tw_in 1385 (by decide +kernel) rfl, tw_in 1387 (by decide +kernel) rfl, tw_in 47 (by decide +kernel) rfl, tw_in 76 (by decide +kernel) rfl, tw_in 1388 (by decide +kernel) rfl⟩, rfl, ⟨by decide, by decide, by decide⟩⟩
theorem lvR_147 : tw_LV "TwinToolsModel" 147 mR_bell "TwinToolsModel" 0 := ⟨⟨tw_in 1369 (by decide +kernel) rfl, tw_in 1371 (by decide +kernel) rfl, tw_in 43 (by decide +kernel) rfl, tw_in 76 (by decide +kernel) rfl, tw_in 1372 (by decide +kernel) rfl⟩, rfl, ⟨by decide, by decide, by decide⟩⟩
theorem lvR_150 : tw_LV "TwinToolsModel" 150 mR_atBest "TwinToolsModel" 3 := ⟨⟨tw_in 1373 (by decide +kernel) rfl, tw_in 1375 (by decide +kernel) rfl, tw_in 44 (by decide +kernel) rfl, tw_in 76 (by decide +kernel) rfl, tw_in 1376 (by decide +kernel) rfl⟩, rfl, ⟨by decide, by decide, by decide⟩⟩
theorem lvR_154 : tw_LV "TwinToolsModel" 154 mR_atHome "TwinToolsModel" 1 := ⟨⟨tw_in 1381 (by decide +kernel) rfl, tw_in 1383 (by decide +kernel) rfl, tw_in 46 (by decide +kernel) rfl, tw_in 76 (by decide +kernel) rfl, tw_in 1384 (by decide +kernel) rfl⟩, rfl, ⟨by decide, by decide, by decide⟩⟩
theorem lvR_157 : tw_LV "TwinToolsModel" 157 mR_atOf "TwinToolsModel" 2 := ⟨⟨tw_in 1361 (by decide +kernel) rfl, tw_in 1363 (by decide +kernel) rfl, tw_in 41 (by decide +kernel) rfl, tw_in 76 (by decide +kernel) rfl, tw_in 1364 (by decide +kernel) rfl⟩, rfl, ⟨by decide, by decide, by decide⟩⟩
theorem lvR_160 : tw_LV "TwinToolsModel" 160 mR_workedAt "TwinToolsModel" 1 := ⟨⟨tw_in 1397 (by decide +kernel) rfl, tw_in 1399 (by decide +kernel) rfl, tw_in 49 (by decide +kernel) rfl, tw_in 76 (by decide +kernel) rfl, tw_in 1400 (by decide +kernel) rfl⟩, rfl, ⟨by decide, by decide, by decide⟩⟩
theorem lvR_163 : tw_LV "TwinToolsModel" 163 mR_doesGo "TwinToolsModel" 2 := ⟨⟨tw_in 1401 (by decide +kernel) rfl, tw_in 1403 (by decide +kernel) rfl, tw_in 50 (by decide +kernel) rfl, tw_in 76 (by decide +kernel) rfl, tw_in 1404 (by decide +kernel) rfl⟩, rfl, ⟨by decide, by decide, by decide⟩⟩
theorem flR_166_12 : tw_FL "TwinToolsModel" 166 12 11 := ⟨"TwinToolsModel", "TwinToolsModel", T_12, 23, rfl, by decide, tw_in 1175 (by decide +kernel) rfl, Or.inl rfl⟩
theorem flR_169_12 : tw_FL "TwinToolsModel" 169 12 12 := ⟨"TwinToolsModel", "TwinToolsModel", T_12, 23, rfl, by decide, tw_in 1176 (by decide +kernel) rfl, Or.inl rfl⟩
theorem flR_172_12 : tw_FL "TwinToolsModel" 172 12 13 := ⟨"TwinToolsModel", "TwinToolsModel", T_12, 23, rfl, by decide, tw_in 1177 (by decide +kernel) rfl, Or.inl rfl⟩
theorem lvR_175 : tw_LV "TwinToolsModel" 175 mR_setsFrom "TwinToolsModel" 6 := ⟨⟨tw_in 1413 (by decide +kernel) rfl, tw_in 1415 (by decide +kernel) rfl, tw_in 53 (by decide +kernel) rfl, tw_in 76 (by decide +kernel) rfl, tw_in 1416 (by decide +kernel) rfl⟩, rfl, ⟨by decide, by decide, by decide⟩⟩
theorem lvR_179 : tw_LV "TwinToolsModel" 179 mR_can "TwinToolsModel" 3 := ⟨⟨tw_in 1417 (by decide +kernel) rfl, tw_in 1419 (by decide +kernel) rfl, tw_in 54 (by decide +kernel) rfl, tw_in 76 (by decide +kernel) rfl, tw_in 1420 (by decide +kernel) rfl⟩, rfl, ⟨by decide, by decide, by decide⟩⟩
theorem lvR_182 : tw_LV "TwinToolsModel" 182 mR_going "TwinToolsModel" 1 := ⟨⟨tw_in 1393 (by decide +kernel) rfl, tw_in 1395 (by decide +kernel) rfl, tw_in 48 (by decide +kernel) rfl, tw_in 76 (by decide +kernel) rfl, tw_in 1396 (by decide +kernel) rfl⟩, rfl, ⟨by decide, by decide, by decide⟩⟩
theorem lvR_185 : tw_LV "TwinToolsModel" 185 mR_waiting "TwinToolsModel" 1 := ⟨⟨tw_in 1405 (by decide +kernel) rfl, tw_in 1407 (by decide +kernel) rfl, tw_in 51 (by decide +kernel) rfl, tw_in 76 (by decide +kernel) rfl, tw_in 1408 (by decide +kernel) rfl⟩, rfl, ⟨by decide, by decide, by decide⟩⟩
theorem lvR_188 : tw_LV "TwinToolsModel" 188 mR_looksForMost "TwinToolsModel" 1 := ⟨⟨tw_in 1409 (by decide +kernel) rfl, tw_in 1411 (by decide +kernel) rfl, tw_in 52 (by decide +kernel) rfl, tw_in 76 (by decide +kernel) rfl, tw_in 1412 (by decide +kernel) rfl⟩, rfl, ⟨by decide, by decide, by decide⟩⟩
theorem lsR_191 : tw_LS "TwinToolsModel" 191 mR_count1 1 := ⟨⟨tw_in 1437 (by decide +kernel) rfl, tw_in 1438 (by decide +kernel) rfl, tw_in 76 (by decide +kernel) rfl, tw_in 1439 (by decide +kernel) rfl⟩, ⟨by decide, by decide, by decide⟩⟩
theorem lvR_194 : tw_LV "TwinToolsModel" 194 mR_allWorth "TwinToolsModel" 0 := ⟨⟨tw_in 1429 (by decide +kernel) rfl, tw_in 1431 (by decide +kernel) rfl, tw_in 55 (by decide +kernel) rfl, tw_in 76 (by decide +kernel) rfl, tw_in 1432 (by decide +kernel) rfl⟩, rfl, ⟨by decide, by decide, by decide⟩⟩
theorem lvR_197 : tw_LV "TwinToolsModel" 197 mR_allWaiting "TwinToolsModel" 0 := ⟨⟨tw_in 1433 (by decide +kernel) rfl, tw_in 1435 (by decide +kernel) rfl, tw_in 56 (by decide +kernel) rfl, tw_in 76 (by decide +kernel) rfl, tw_in 1436 (by decide +kernel) rfl⟩, rfl, ⟨by decide, by decide, by decide⟩⟩
theorem lvR_200 : tw_LV "TwinToolsModel" 200 mR_bestDay "TwinToolsModel" 0 := ⟨⟨tw_in 1440 (by decide +kernel) rfl, tw_in 1442 (by decide +kernel) rfl, tw_in 57 (by decide +kernel) rfl, tw_in 76 (by decide +kernel) rfl, tw_in 1443 (by decide +kernel) rfl⟩, rfl, ⟨by decide, by decide, by decide⟩⟩
theorem lvR_203 : tw_LV "TwinToolsModel" 203 mR_changes "TwinToolsModel" 2 := ⟨⟨tw_in 1448 (by decide +kernel) rfl, tw_in 1450 (by decide +kernel) rfl, tw_in 58 (by decide +kernel) rfl, tw_in 76 (by decide +kernel) rfl, tw_in 1451 (by decide +kernel) rfl⟩, rfl, ⟨by decide, by decide, by decide⟩⟩
theorem lvR_207 : tw_LV "TwinToolsModel" 207 mR_awayOf "TwinToolsModel" 1 := ⟨⟨tw_in 1456 (by decide +kernel) rfl, tw_in 1458 (by decide +kernel) rfl, tw_in 59 (by decide +kernel) rfl, tw_in 76 (by decide +kernel) rfl, tw_in 1459 (by decide +kernel) rfl⟩, rfl, ⟨by decide, by decide, by decide⟩⟩
theorem flR_210_12 : tw_FL "TwinToolsModel" 210 12 17 := ⟨"TwinToolsModel", "TwinToolsModel", T_12, 23, rfl, by decide, tw_in 1181 (by decide +kernel) rfl, Or.inl rfl⟩
theorem flR_213_12 : tw_FL "TwinToolsModel" 213 12 16 := ⟨"TwinToolsModel", "TwinToolsModel", T_12, 23, rfl, by decide, tw_in 1180 (by decide +kernel) rfl, Or.inl rfl⟩
theorem lvR_216 : tw_LV "TwinToolsModel" 216 mR_joins "TwinToolsModel" 0 := ⟨⟨tw_in 1468 (by decide +kernel) rfl, tw_in 1470 (by decide +kernel) rfl, tw_in 60 (by decide +kernel) rfl, tw_in 76 (by decide +kernel) rfl, tw_in 1471 (by decide +kernel) rfl⟩, rfl, ⟨by decide, by decide, by decide⟩⟩
theorem lvR_219 : tw_LV "TwinToolsModel" 219 mR_brokenOnes "TwinToolsModel" 0 := ⟨⟨tw_in 1484 (by decide +kernel) rfl, tw_in 1486 (by decide +kernel) rfl, tw_in 61 (by decide +kernel) rfl, tw_in 76 (by decide +kernel) rfl, tw_in 1487 (by decide +kernel) rfl⟩, rfl, ⟨by decide, by decide, by decide⟩⟩
theorem lvR_222 : tw_LV "TwinToolsModel" 222 mR_nextTry "TwinToolsModel" 0 := ⟨⟨tw_in 1488 (by decide +kernel) rfl, tw_in 1490 (by decide +kernel) rfl, tw_in 62 (by decide +kernel) rfl, tw_in 76 (by decide +kernel) rfl, tw_in 1491 (by decide +kernel) rfl⟩, rfl, ⟨by decide, by decide, by decide⟩⟩
theorem lsR_229 : tw_LS "TwinToolsModel" 229 mR_divisor 2 := ⟨⟨tw_in 1502 (by decide +kernel) rfl, tw_in 1503 (by decide +kernel) rfl, tw_in 76 (by decide +kernel) rfl, tw_in 1504 (by decide +kernel) rfl⟩, ⟨by decide, by decide, by decide⟩⟩
theorem flR_233_12 : tw_FL "TwinToolsModel" 233 12 19 := ⟨"TwinToolsModel", "TwinToolsModel", T_12, 23, rfl, by decide, tw_in 1183 (by decide +kernel) rfl, Or.inl rfl⟩
theorem lvR_236 : tw_LV "TwinToolsModel" 236 mR_ranBody "TwinToolsModel" 1 := ⟨⟨tw_in 1524 (by decide +kernel) rfl, tw_in 1526 (by decide +kernel) rfl, tw_in 64 (by decide +kernel) rfl, tw_in 76 (by decide +kernel) rfl, tw_in 1527 (by decide +kernel) rfl⟩, rfl, ⟨by decide, by decide, by decide⟩⟩
theorem flR_239_12 : tw_FL "TwinToolsModel" 239 12 21 := ⟨"TwinToolsModel", "TwinToolsModel", T_12, 23, rfl, by decide, tw_in 1185 (by decide +kernel) rfl, Or.inl rfl⟩
theorem flR_242_12 : tw_FL "TwinToolsModel" 242 12 20 := ⟨"TwinToolsModel", "TwinToolsModel", T_12, 23, rfl, by decide, tw_in 1184 (by decide +kernel) rfl, Or.inl rfl⟩
theorem lsR_245 : tw_LS "TwinToolsModel" 245 mR_isUnder 2 := ⟨⟨tw_in 1521 (by decide +kernel) rfl, tw_in 1522 (by decide +kernel) rfl, tw_in 76 (by decide +kernel) rfl, tw_in 1523 (by decide +kernel) rfl⟩, ⟨by decide, by decide, by decide⟩⟩
theorem lvR_248 : tw_LV "TwinToolsModel" 248 mR_plainLifts "TwinToolsModel" 1 := ⟨⟨tw_in 1528 (by decide +kernel) rfl, tw_in 1530 (by decide +kernel) rfl, tw_in 65 (by decide +kernel) rfl, tw_in 76 (by decide +kernel) rfl, tw_in 1531 (by decide +kernel) rfl⟩, rfl, ⟨by decide, by decide, by decide⟩⟩
theorem lvR_251 : tw_LV "TwinToolsModel" 251 mR_liftsActs "TwinToolsModel" 1 := ⟨⟨tw_in 1517 (by decide +kernel) rfl, tw_in 1519 (by decide +kernel) rfl, tw_in 63 (by decide +kernel) rfl, tw_in 76 (by decide +kernel) rfl, tw_in 1520 (by decide +kernel) rfl⟩, rfl, ⟨by decide, by decide, by decide⟩⟩
theorem flR_254_12 : tw_FL "TwinToolsModel" 254 12 22 := ⟨"TwinToolsModel", "TwinToolsModel", T_12, 23, rfl, by decide, tw_in 1186 (by decide +kernel) rfl, Or.inl rfl⟩
theorem lvR_257 : tw_LV "TwinToolsModel" 257 mR_plainWaits "TwinToolsModel" 1 := ⟨⟨tw_in 1536 (by decide +kernel) rfl, tw_in 1538 (by decide +kernel) rfl, tw_in 67 (by decide +kernel) rfl, tw_in 76 (by decide +kernel) rfl, tw_in 1539 (by decide +kernel) rfl⟩, rfl, ⟨by decide, by decide, by decide⟩⟩
theorem lvR_260 : tw_LV "TwinToolsModel" 260 mR_waitsActs "TwinToolsModel" 1 := ⟨⟨tw_in 1532 (by decide +kernel) rfl, tw_in 1534 (by decide +kernel) rfl, tw_in 66 (by decide +kernel) rfl, tw_in 76 (by decide +kernel) rfl, tw_in 1535 (by decide +kernel) rfl⟩, rfl, ⟨by decide, by decide, by decide⟩⟩
theorem lvR_263 : tw_LV "TwinToolsModel" 263 mR_plainTells "TwinToolsModel" 1 := ⟨⟨tw_in 1544 (by decide +kernel) rfl, tw_in 1546 (by decide +kernel) rfl, tw_in 69 (by decide +kernel) rfl, tw_in 76 (by decide +kernel) rfl, tw_in 1547 (by decide +kernel) rfl⟩, rfl, ⟨by decide, by decide, by decide⟩⟩
theorem lvR_266 : tw_LV "TwinToolsModel" 266 mR_tellsActs "TwinToolsModel" 1 := ⟨⟨tw_in 1540 (by decide +kernel) rfl, tw_in 1542 (by decide +kernel) rfl, tw_in 68 (by decide +kernel) rfl, tw_in 76 (by decide +kernel) rfl, tw_in 1543 (by decide +kernel) rfl⟩, rfl, ⟨by decide, by decide, by decide⟩⟩
theorem flR_269_12 : tw_FL "TwinToolsModel" 269 12 3 := ⟨"TwinToolsModel", "TwinToolsModel", T_12, 23, rfl, by decide, tw_in 1167 (by decide +kernel) rfl, Or.inl rfl⟩
end
section
theorem tw_s0 {ls : List (Nat × tV)} : ∀ q ∈ ([] : List (Nat × tV)), q ∈ ls := fun _ h => absurd h List.not_mem_nil
theorem tw_s {ls l2 : List (Nat × tV)} {x : Nat × tV} (h : x ∈ ls) (h2 : ∀ q ∈ l2, q ∈ ls) : ∀ q ∈ x :: l2, q ∈ ls := fun q hq => (List.mem_cons.mp hq).elim (fun e => e ▸ h) (h2 q)
theorem tw_g {ls : List (Nat × tV)} {x : Nat × tV} (p : Nat) (h : ls[p]? = some x) : x ∈ ls := List.mem_of_getElem? h
theorem tw_e {ls : List (Nat × tV)} {s : Nat} {a b : Int} (p : Nat) (h : ls[p]? = some (s, vi a)) (e : a = b) : (s, vi b) ∈ ls := by subst e; exact List.mem_of_getElem? h
theorem tw_el {ls : List (Nat × tV)} {s : Nat} {a b : Int} (p : Nat) (h : ls[p]? = some (s, vl a)) (e : a = b) : (s, vl b) ∈ ls := by subst e; exact List.mem_of_getElem? h
theorem tw_er {ls : List (Nat × tV)} {s : Nat} {a b : Option Nat} (p : Nat) (h : ls[p]? = some (s, vr a)) (e : a = b) : (s, vr b) ∈ ls := by subst e; exact List.mem_of_getElem? h
/-- another heap that is the same -/
theorem tw_hp {l : Launch} {G : tG} {M : tM} {d mc ms n0 c2 : Nat} {P : Option tV → tH → Prop} {pc : Nat} {ls : List (Nat × tV)} {st : List tV} {h h' : tH} (e : h = h') (k : tw_AW l G M d mc ms n0 c2 P pc ls st h') : tw_AW l G M d mc ms n0 c2 P pc ls st h := e ▸ k
theorem tw_st {l : Launch} {G : tG} {M : tM} {d mc ms n0 c2 : Nat} {P : Option tV → tH → Prop} {pc : Nat} {ls : List (Nat × tV)} {st st' : List tV} {h : tH} (e : st = st') (k : tw_AW l G M d mc ms n0 c2 P pc ls st' h) : tw_AW l G M d mc ms n0 c2 P pc ls st h := e ▸ k
theorem tw_top {l : Launch} {G : tG} {M : tM} {d mc ms n0 c2 : Nat} {P : Option tV → tH → Prop} {pc : Nat} {ls : List (Nat × tV)} {st : List tV} {h : tH} {x y : Int} (e : x = y) (k : tw_AW l G M d mc ms n0 c2 P pc ls (vi y :: st) h) : tw_AW l G M d mc ms n0 c2 P pc ls (vi x :: st) h := e ▸ k
def setA (I : Nat → Int → Int) (a : Nat) (f : Int → Int) : Nat → Int → Int := fun b => if b = a then f else I b
theorem setA_id (I : Nat → Int → Int) (a : Nat) : setA I a (I a) = I := by
  funext b
  by_cases h : b = a
  · subst h; simp [setA]
  · simp [setA, h]
theorem setA_setA (I : Nat → Int → Int) (a : Nat) (f g : Int → Int) : setA (setA I a f) a g = setA I a g := by
  funext b
  by_cases h : b = a <;> simp [setA, h]
theorem uI_set (I : Nat → Int → Int) (a : Nat) (i x : Int) : uI I a i x = setA I a (up (I a) i x) := rfl
theorem setA_at (I : Nat → Int → Int) (a : Nat) (f : Int → Int) : setA I a f a = f := if_pos rfl
theorem setA_ne (I : Nat → Int → Int) {a b : Nat} (f : Int → Int) (h : b ≠ a) : setA I a f b = I b := if_neg h
theorem uI_setA (I : Nat → Int → Int) (a : Nat) (f : Int → Int) (i x : Int) : uI (setA I a f) a i x = setA I a (up f i x) := by
  rw [uI_set, setA_setA, setA_at]
theorem up_at (f : Int → Int) (i x : Int) : up f i x i = x := if_pos rfl
theorem up_ne (f : Int → Int) {i j : Int} (x : Int) (h : j ≠ i) : up f i x j = f j := if_neg h
theorem up_id (f : Int → Int) (i : Int) : up f i (f i) = f := by
  funext j
  by_cases h : j = i
  · subst h; simp [up]
  · simp [up, h]
theorem up_up (f : Int → Int) (i x y : Int) : up (up f i x) i y = up f i y := by
  funext j
  by_cases h : j = i <;> simp [up, h]
theorem uI_id (I : Nat → Int → Int) (a : Nat) (i : Int) : uI I a i (I a i) = I := by
  rw [uI_set, up_id, setA_id]
theorem uI_at (I : Nat → Int → Int) (a : Nat) (i x j : Int) : uI I a i x a j = if j = i then x else I a j := by simp [uI, up]
theorem uI_off (I : Nat → Int → Int) {a b : Nat} (i x : Int) (h : b ≠ a) : uI I a i x b = I b := if_neg h
/-- what holds of the reference's numbers -/
def RInv (s : Int → Int) : Prop :=
  (0 ≤ s 0 ∧ s 0 ≤ 8) ∧ (0 ≤ s 1 ∧ s 1 ≤ 10) ∧ (0 ≤ s 2 ∧ s 2 ≤ 5) ∧ (0 ≤ s 3 ∧ s 3 ≤ 12) ∧ (0 ≤ s 4 ∧ s 4 ≤ 12) ∧ (0 ≤ s 5 ∧ s 5 ≤ 100) ∧ s 6 = s 2 - 1 ∧
  (∀ p, 0 ≤ p → p < 8 → (0 ≤ s (10 + p) ∧ s (10 + p) ≤ 6) ∧ (0 ≤ s (18 + p) ∧ s (18 + p) ≤ 9) ∧ (0 ≤ s (26 + p) ∧ s (26 + p) ≤ 3) ∧ (0 ≤ s (34 + p) ∧ s (34 + p) ≤ 16777215)) ∧
  (∀ j, 0 ≤ j → j < 32 → -1 ≤ s (42 + j) ∧ s (42 + j) ≤ 9) ∧
  (∀ t, 0 ≤ t → t < s 1 → (0 ≤ s (74 + t) ∧ s (74 + t) ≤ 3) ∧ (0 ≤ s (84 + t) ∧ s (84 + t) < s 0) ∧ (s (94 + t) = -1 ∨ (0 ≤ s (94 + t) ∧ s (94 + t) < s 1 ∧ s (94 + t) ≠ t ∧ s (94 + s (94 + t)) = t)) ∧ (0 ≤ s (104 + t) ∧ s (104 + t) ≤ 1)) ∧
  (∀ r, 0 ≤ r → r < s 3 → (0 ≤ s (114 + r) ∧ s (114 + r) < s 1) ∧ (0 ≤ s (126 + r) ∧ s (126 + r) < s 1) ∧ s (114 + r) ≠ s (126 + r) ∧ (0 ≤ s (138 + r) ∧ s (138 + r) ≤ 1)) ∧
  (∀ r, 0 ≤ r → r < s 4 → (0 ≤ s (150 + r) ∧ s (150 + r) ≤ 23) ∧ (0 ≤ s (162 + r) ∧ s (162 + r) < s 1)) ∧
  (∀ i, 0 ≤ i → i < 100 → 0 ≤ s (174 + i) ∧ s (174 + i) ≤ 127) ∧
  (∀ a, 0 ≤ a → a < 5 → (0 ≤ s (274 + a) ∧ s (274 + a) ≤ 99) ∧ (0 ≤ s (279 + a) ∧ s (279 + a) ≤ 140))
end
section
section RA
variable {l : Launch} {G : tG} {K : Nat → Nat × Nat} {I : Nat → Int → Int} {Q : Nat → Int → Option Nat} {n : Nat}
theorem c_R_in {h : tH} {z lo hi : Int} (hz : tr z) (hlo : tr lo) (hhi : tr hi) : tw_F l G 1 0 0 mR_in [vi z, vi lo, vi hi] h (some (vi (if lo ≤ z ∧ z ≤ hi then 1 else 0))) h := by
  refine tw_intro okR_in (Nat.le_of_ble_eq_true rfl) ?_
  refine ar_iloadn (k := 0) rfl rfl ?_
  refine ar_iloadn (k := 1) rfl rfl ?_
  refine ar_icmp_lt (k := 2) rfl (by omega) (by omega) (fun c2 => ?_) (fun c2 => ?_)
  · refine ar_iconst (k := 8) rfl ?_
    refine ar_zret (k := 9) rfl rfl (by omega) rfl (Nat.le_refl _) ?_
    exact ⟨congrArg (fun z => some (vi z)) (by omega), rfl⟩
  · refine ar_iloadn (k := 3) rfl rfl ?_
    refine ar_iloadn (k := 4) rfl rfl ?_
    refine ar_icmp_gt (k := 5) rfl (by omega) (by omega) (fun c5 => ?_) (fun c5 => ?_)
    · refine ar_iconst (k := 8) rfl ?_
      refine ar_zret (k := 9) rfl rfl (by omega) rfl (Nat.le_refl _) ?_
      exact ⟨congrArg (fun z => some (vi z)) (by omega), rfl⟩
    · refine ar_iconst (k := 6) rfl ?_
      refine ar_goto (k := 7) rfl ?_
      refine ar_zret (k := 9) rfl rfl (by omega) rfl (Nat.le_refl _) ?_
      exact ⟨congrArg (fun z => some (vi z)) (by omega), rfl⟩
theorem c_R_isPerson {p : Int} (hS : tSt (K, I, Q, n)) (hp : tr p) (h0 : 0 ≤ I 70 0 ∧ I 70 0 ≤ 8) : tw_F l G 2 0 0 mR_isPerson [vr (some 69), vi p] (K, I, Q, n) (some (vi (if 0 ≤ p ∧ p ≤ I 70 0 - 1 then 1 else 0))) (K, I, Q, n) := by
  refine tw_intro okR_isPerson (Nat.le_of_ble_eq_true rfl) ?_
  refine ar_iloadn (k := 0) rfl rfl ?_
  refine ar_iconst (k := 1) rfl ?_
  refine ar_aloadn (k := 2) rfl rfl ?_
  refine br_getR (k := 3) rfl (hS.k (by decide)) flR_9_12 (by decide) rfl (hS.r rfl) ?_
  refine ar_iconst (k := 4) rfl ?_
  refine br_iald (k := 5) rfl (hS.k (by decide)) (by omega) (by omega) (by decide) ?_
  refine ar_iconst (k := 6) rfl ?_
  refine ar_isub (k := 7) rfl ?_
  refine br_callS (k := 8) (as := [_, _, _]) rfl lsR_38 (c_R_in (by omega) (by omega) (by omega)) rfl (by decide) (by decide) tw_m0 (Nat.le_of_ble_eq_true rfl) ?_
  refine ar_zret (k := 9) rfl rfl (by omega) rfl (Nat.le_refl _) ?_
  exact ⟨congrArg (fun z => some (vi z)) (by omega), rfl⟩
theorem c_R_isTool {p : Int} (hS : tSt (K, I, Q, n)) (hp : tr p) (h1 : 0 ≤ I 70 1 ∧ I 70 1 ≤ 10) : tw_F l G 2 0 0 mR_isTool [vr (some 69), vi p] (K, I, Q, n) (some (vi (if 0 ≤ p ∧ p ≤ I 70 1 - 1 then 1 else 0))) (K, I, Q, n) := by
  refine tw_intro okR_isTool (Nat.le_of_ble_eq_true rfl) ?_
  refine ar_iloadn (k := 0) rfl rfl ?_
  refine ar_iconst (k := 1) rfl ?_
  refine ar_aloadn (k := 2) rfl rfl ?_
  refine br_getR (k := 3) rfl (hS.k (by decide)) flR_9_12 (by decide) rfl (hS.r rfl) ?_
  refine ar_iconst (k := 4) rfl ?_
  refine br_iald (k := 5) rfl (hS.k (by decide)) (by omega) (by omega) (by decide) ?_
  refine ar_iconst (k := 6) rfl ?_
  refine ar_isub (k := 7) rfl ?_
  refine br_callS (k := 8) (as := [_, _, _]) rfl lsR_38 (c_R_in (by omega) (by omega) (by omega)) rfl (by decide) (by decide) tw_m0 (Nat.le_of_ble_eq_true rfl) ?_
  refine ar_zret (k := 9) rfl rfl (by omega) rfl (Nat.le_refl _) ?_
  exact ⟨congrArg (fun z => some (vi z)) (by omega), rfl⟩
theorem c_R_isHour {h : tH} {p : Int} (hp : tr p) : tw_F l G 2 0 0 mR_isHour [vi p] h (some (vi (if 0 ≤ p ∧ p ≤ 23 then 1 else 0))) h := by
  refine tw_intro okR_isHour (Nat.le_of_ble_eq_true rfl) ?_
  refine ar_iloadn (k := 0) rfl rfl ?_
  refine ar_iconst (k := 1) rfl ?_
  refine ar_bipush (k := 2) rfl (by decide) ?_
  refine br_callS (k := 3) (as := [_, _, _]) rfl lsR_38 (c_R_in (by omega) (by omega) (by omega)) rfl (by decide) (by decide) tw_m0 (Nat.le_of_ble_eq_true rfl) ?_
  refine ar_zret (k := 4) rfl rfl (by omega) rfl (Nat.le_refl _) ?_
  exact ⟨congrArg (fun z => some (vi z)) (by omega), rfl⟩
end RA
end
section
section RB
variable {l : Launch} {G : tG} {K : Nat → Nat × Nat} {I : Nat → Int → Int} {Q : Nat → Int → Option Nat} {n : Nat}
def rs_feed (s : Int → Int) (x : Int) : Int × (Int → Int) := if ¬ (0 ≤ x ∧ x ≤ 127) then (-2, s) else if s 5 = 100 then (-4, s) else (s 5 + 1, up (up s (174 + s 5) x) 5 (s 5 + 1))
theorem c_R_feed {x : Int} (hS : tSt (K, I, Q, n)) (hR : RInv (I 70)) (t_x : tr x) : tw_F l G 2 0 0 mR_feed [vr (some 69), vi x] (K, I, Q, n) (some (vi (rs_feed (I 70) x).1)) (K, setA I 70 (rs_feed (I 70) x).2, Q, n) := by
  obtain ⟨h0, h1, h2, h3, h4, h5, h6, hp, hrw, ht, hr, hb, htp, hv⟩ := hR
  refine tw_intro okR_feed (Nat.le_of_ble_eq_true rfl) ?_
  refine ar_iloadn (k := 0) rfl rfl ?_
  refine ar_iconst (k := 1) rfl ?_
  refine ar_bipush (k := 2) rfl (by decide) ?_
  refine br_callS (k := 3) (as := [_, _, _]) rfl lsR_38 (c_R_in (by omega) (by omega) (by omega)) rfl (by decide) (by decide) tw_m0 (Nat.le_of_ble_eq_true rfl) ?_
  refine ar_if_ne (k := 4) rfl (by omega) (fun c4 => ?_) (fun c4 => ?_)
  · refine ar_aloadn (k := 7) rfl rfl ?_
    refine br_getR (k := 8) rfl (hS.k (by decide)) flR_9_12 (by decide) rfl (hS.r rfl) ?_
    refine ar_iconst (k := 9) rfl ?_
    refine br_iald (k := 10) rfl (hS.k (by decide)) (by omega) (by omega) (by decide) ?_
    refine ar_bipush (k := 11) rfl (by decide) ?_
    refine ar_icmp_ne (k := 12) rfl (by omega) (by omega) (fun c12 => ?_) (fun c12 => ?_)
    · refine ar_aloadn (k := 15) rfl rfl ?_
      refine br_getR (k := 16) rfl (hS.k (by decide)) flR_9_12 (by decide) rfl (hS.r rfl) ?_
      refine ar_sipush (k := 17) rfl (by decide) ?_
      refine ar_aloadn (k := 18) rfl rfl ?_
      refine br_getR (k := 19) rfl (hS.k (by decide)) flR_9_12 (by decide) rfl (hS.r rfl) ?_
      refine ar_iconst (k := 20) rfl ?_
      refine br_iald (k := 21) rfl (hS.k (by decide)) (by omega) (by omega) (by decide) ?_
      refine ar_iadd (k := 22) rfl ?_
      refine ar_iloadn (k := 23) rfl rfl ?_
      refine br_iast (k := 24) rfl (hS.k (by decide)) (by omega) (by omega) (by decide) ?_
      refine ar_aloadn (k := 25) rfl rfl ?_
      refine br_getR (k := 26) rfl (hS.k (by decide)) flR_9_12 (by decide) rfl (hS.r rfl) ?_
      refine ar_iconst (k := 27) rfl ?_
      refine ar_dup2 (k := 28) rfl rfl rfl ?_
      refine br_iald (k := 29) rfl (hS.k (by decide)) (by omega) (by omega) (by decide) ?_
      refine tw_top (y := I 70 5) (by simp only [uI_at]; omega) ?_
      refine ar_iconst (k := 30) rfl ?_
      refine ar_iadd (k := 31) rfl ?_
      refine br_iast (k := 32) rfl (hS.k (by decide)) (by omega) (by omega) (by decide) ?_
      refine ar_aloadn (k := 33) rfl rfl ?_
      refine br_getR (k := 34) rfl (hS.k (by decide)) flR_9_12 (by decide) rfl (hS.r rfl) ?_
      refine ar_iconst (k := 35) rfl ?_
      refine br_iald (k := 36) rfl (hS.k (by decide)) (by omega) (by omega) (by decide) ?_
      refine tw_top (y := I 70 5 + 1) (by rw [uI_at, if_pos rfl]) ?_
      refine ar_iret (k := 37) rfl rfl rfl (Nat.le_refl _) ?_
      unfold rs_feed
      (repeat' split) <;> first
        | (exfalso; omega)
        | exact ⟨rfl, by rw [setA_id]⟩
        | exact ⟨rfl, by simp only [uI_set, setA_setA, setA_at]⟩
    · refine ar_bipush (k := 13) rfl (by decide) ?_
      refine ar_iret (k := 14) rfl rfl rfl (Nat.le_refl _) ?_
      unfold rs_feed
      (repeat' split) <;> first
        | (exfalso; omega)
        | exact ⟨rfl, by rw [setA_id]⟩
        | exact ⟨rfl, by simp only [uI_set, setA_setA, setA_at]⟩
  · refine ar_bipush (k := 5) rfl (by decide) ?_
    refine ar_iret (k := 6) rfl rfl rfl (Nat.le_refl _) ?_
    unfold rs_feed
    (repeat' split) <;> first
      | (exfalso; omega)
      | exact ⟨rfl, by rw [setA_id]⟩
      | exact ⟨rfl, by simp only [uI_set, setA_setA, setA_at]⟩
def rs_row (s : Int → Int) (p : Int) (a : Int) (t : Int) : Int × (Int → Int) := if ¬ (0 ≤ p ∧ p ≤ s 0 - 1 ∧ 0 ≤ a ∧ a ≤ 3) then (-1, s) else if ¬ (-1 ≤ t ∧ t ≤ 9) then (-2, s) else if s (10 + p) ≠ 6 then (-3, s) else (if s (42 + 4 * p + a) = -1 then -5 else s (42 + 4 * p + a), up s (42 + 4 * p + a) t)
theorem c_R_row {p : Int} {a : Int} {t : Int} (hS : tSt (K, I, Q, n)) (hR : RInv (I 70)) (t_p : tr p) (t_a : tr a) (t_t : tr t) : tw_F l G 3 0 0 mR_row [vr (some 69), vi p, vi a, vi t] (K, I, Q, n) (some (vi (rs_row (I 70) p a t).1)) (K, setA I 70 (rs_row (I 70) p a t).2, Q, n) := by
  obtain ⟨h0, h1, h2, h3, h4, h5, h6, hp, hrw, ht, hr, hb, htp, hv⟩ := hR
  refine tw_intro okR_row (Nat.le_of_ble_eq_true rfl) ?_
  refine ar_aloadn (k := 0) rfl rfl ?_
  refine ar_iloadn (k := 1) rfl rfl ?_
  refine br_callV (k := 2) (as := [_]) rfl lvR_115 (hS.k (by decide)) rfl (c_R_isPerson hS (by omega) h0) rfl (by decide) (by decide) tw_m0 (Nat.le_of_ble_eq_true rfl) ?_
  refine ar_if_eq (k := 3) rfl (by omega) (fun c3 => ?_) (fun c3 => ?_)
  · refine ar_iconst (k := 9) rfl ?_
    refine ar_iret (k := 10) rfl rfl rfl (Nat.le_refl _) ?_
    unfold rs_row
    (repeat' split) <;> first
      | (exfalso; omega)
      | exact ⟨rfl, by rw [setA_id]⟩
      | exact ⟨rfl, by simp only [uI_set, setA_setA, setA_at]⟩
  · refine ar_iloadn (k := 4) rfl rfl ?_
    refine ar_iconst (k := 5) rfl ?_
    refine ar_iconst (k := 6) rfl ?_
    refine br_callS (k := 7) (as := [_, _, _]) rfl lsR_38 (c_R_in (by omega) (by omega) (by omega)) rfl (by decide) (by decide) tw_m0 (Nat.le_of_ble_eq_true rfl) ?_
    refine ar_if_ne (k := 8) rfl (by omega) (fun c8 => ?_) (fun c8 => ?_)
    · refine ar_iloadn (k := 11) rfl rfl ?_
      refine ar_iconst (k := 12) rfl ?_
      refine ar_bipush (k := 13) rfl (by decide) ?_
      refine br_callS (k := 14) (as := [_, _, _]) rfl lsR_38 (c_R_in (by omega) (by omega) (by omega)) rfl (by decide) (by decide) tw_m0 (Nat.le_of_ble_eq_true rfl) ?_
      refine ar_if_ne (k := 15) rfl (by omega) (fun c15 => ?_) (fun c15 => ?_)
      · have hk := hp p (by omega) (by omega)
        have hq := hrw (4 * p + a) (by omega) (by omega)
        rw [← Int.add_assoc] at hq
        refine ar_aloadn (k := 18) rfl rfl ?_
        refine br_getR (k := 19) rfl (hS.k (by decide)) flR_9_12 (by decide) rfl (hS.r rfl) ?_
        refine ar_bipush (k := 20) rfl (by decide) ?_
        refine ar_iloadn (k := 21) rfl rfl ?_
        refine ar_iadd (k := 22) rfl ?_
        refine br_iald (k := 23) rfl (hS.k (by decide)) (by omega) (by omega) (by decide) ?_
        refine ar_bipush (k := 24) rfl (by decide) ?_
        refine ar_icmp_eq (k := 25) rfl (by omega) (by omega) (fun c25 => ?_) (fun c25 => ?_)
        · refine ar_aloadn (k := 28) rfl rfl ?_
          refine br_getR (k := 29) rfl (hS.k (by decide)) flR_9_12 (by decide) rfl (hS.r rfl) ?_
          refine ar_bipush (k := 30) rfl (by decide) ?_
          refine ar_iconst (k := 31) rfl ?_
          refine ar_iloadn (k := 32) rfl rfl ?_
          refine ar_imul (k := 33) rfl ?_
          refine ar_iadd (k := 34) rfl ?_
          refine ar_iloadn (k := 35) rfl rfl ?_
          refine ar_iadd (k := 36) rfl ?_
          refine br_iald (k := 37) rfl (hS.k (by decide)) (by omega) (by omega) (by decide) ?_
          refine ar_istore (k := 38) (l2 := [(4, _), (0, _), (1, _), (2, _), (3, _)]) rfl (by decide) rfl ?_
          refine ar_aloadn (k := 39) rfl rfl ?_
          refine br_getR (k := 40) rfl (hS.k (by decide)) flR_9_12 (by decide) rfl (hS.r rfl) ?_
          refine ar_bipush (k := 41) rfl (by decide) ?_
          refine ar_iconst (k := 42) rfl ?_
          refine ar_iloadn (k := 43) rfl rfl ?_
          refine ar_imul (k := 44) rfl ?_
          refine ar_iadd (k := 45) rfl ?_
          refine ar_iloadn (k := 46) rfl rfl ?_
          refine ar_iadd (k := 47) rfl ?_
          refine ar_iloadn (k := 48) rfl rfl ?_
          refine br_iast (k := 49) rfl (hS.k (by decide)) (by omega) (by omega) (by decide) ?_
          refine ar_iload (k := 50) rfl rfl ?_
          refine ar_iconst (k := 51) rfl ?_
          refine ar_icmp_ne (k := 52) rfl (by omega) (by omega) (fun c52 => ?_) (fun c52 => ?_)
          · refine ar_iload (k := 55) rfl rfl ?_
            refine ar_iret (k := 56) rfl rfl rfl (Nat.le_refl _) ?_
            unfold rs_row
            (repeat' split) <;> first
              | (exfalso; omega)
              | exact ⟨rfl, by rw [setA_id]⟩
              | exact ⟨rfl, by simp only [uI_set, setA_setA, setA_at]⟩
          · refine ar_bipush (k := 53) rfl (by decide) ?_
            refine ar_goto (k := 54) rfl ?_
            refine ar_iret (k := 56) rfl rfl rfl (Nat.le_refl _) ?_
            unfold rs_row
            (repeat' split) <;> first
              | (exfalso; omega)
              | exact ⟨rfl, by rw [setA_id]⟩
              | exact ⟨rfl, by simp only [uI_set, setA_setA, setA_at]⟩
        · refine ar_bipush (k := 26) rfl (by decide) ?_
          refine ar_iret (k := 27) rfl rfl rfl (Nat.le_refl _) ?_
          unfold rs_row
          (repeat' split) <;> first
            | (exfalso; omega)
            | exact ⟨rfl, by rw [setA_id]⟩
            | exact ⟨rfl, by simp only [uI_set, setA_setA, setA_at]⟩
      · refine ar_bipush (k := 16) rfl (by decide) ?_
        refine ar_iret (k := 17) rfl rfl rfl (Nat.le_refl _) ?_
        unfold rs_row
        (repeat' split) <;> first
          | (exfalso; omega)
          | exact ⟨rfl, by rw [setA_id]⟩
          | exact ⟨rfl, by simp only [uI_set, setA_setA, setA_at]⟩
    · refine ar_iconst (k := 9) rfl ?_
      refine ar_iret (k := 10) rfl rfl rfl (Nat.le_refl _) ?_
      unfold rs_row
      (repeat' split) <;> first
        | (exfalso; omega)
        | exact ⟨rfl, by rw [setA_id]⟩
        | exact ⟨rfl, by simp only [uI_set, setA_setA, setA_at]⟩
def rs_tool (s : Int → Int) (a : Int) (p : Int) : Int × (Int → Int) := if ¬ (0 ≤ p ∧ p ≤ s 0 - 1) then (-1, s) else if ¬ (0 ≤ a ∧ a ≤ 3) then (-2, s) else if s 1 = 10 then (-4, s) else (s 1, up (up (up (up (up s (74 + s 1) a) (84 + s 1) p) (94 + s 1) (-1)) (104 + s 1) 0) 1 (s 1 + 1))
theorem c_R_tool {a : Int} {p : Int} (hS : tSt (K, I, Q, n)) (hR : RInv (I 70)) (t_a : tr a) (t_p : tr p) : tw_F l G 3 0 0 mR_tool [vr (some 69), vi a, vi p] (K, I, Q, n) (some (vi (rs_tool (I 70) a p).1)) (K, setA I 70 (rs_tool (I 70) a p).2, Q, n) := by
  obtain ⟨h0, h1, h2, h3, h4, h5, h6, hp, hrw, ht, hr, hb, htp, hv⟩ := hR
  refine tw_intro okR_tool (Nat.le_of_ble_eq_true rfl) ?_
  refine ar_aloadn (k := 0) rfl rfl ?_
  refine ar_iloadn (k := 1) rfl rfl ?_
  refine br_callV (k := 2) (as := [_]) rfl lvR_115 (hS.k (by decide)) rfl (c_R_isPerson hS (by omega) h0) rfl (by decide) (by decide) tw_m0 (Nat.le_of_ble_eq_true rfl) ?_
  refine ar_if_ne (k := 3) rfl (by omega) (fun c3 => ?_) (fun c3 => ?_)
  · refine ar_iloadn (k := 6) rfl rfl ?_
    refine ar_iconst (k := 7) rfl ?_
    refine ar_iconst (k := 8) rfl ?_
    refine br_callS (k := 9) (as := [_, _, _]) rfl lsR_38 (c_R_in (by omega) (by omega) (by omega)) rfl (by decide) (by decide) tw_m0 (Nat.le_of_ble_eq_true rfl) ?_
    refine ar_if_ne (k := 10) rfl (by omega) (fun c10 => ?_) (fun c10 => ?_)
    · refine ar_aloadn (k := 13) rfl rfl ?_
      refine br_getR (k := 14) rfl (hS.k (by decide)) flR_9_12 (by decide) rfl (hS.r rfl) ?_
      refine ar_iconst (k := 15) rfl ?_
      refine br_iald (k := 16) rfl (hS.k (by decide)) (by omega) (by omega) (by decide) ?_
      refine ar_bipush (k := 17) rfl (by decide) ?_
      refine ar_icmp_ne (k := 18) rfl (by omega) (by omega) (fun c18 => ?_) (fun c18 => ?_)
      · refine ar_aloadn (k := 21) rfl rfl ?_
        refine br_getR (k := 22) rfl (hS.k (by decide)) flR_9_12 (by decide) rfl (hS.r rfl) ?_
        refine ar_iconst (k := 23) rfl ?_
        refine br_iald (k := 24) rfl (hS.k (by decide)) (by omega) (by omega) (by decide) ?_
        refine ar_istoren (k := 25) (l2 := [(3, _), (0, _), (1, _), (2, _)]) rfl (by decide) rfl ?_
        refine ar_aloadn (k := 26) rfl rfl ?_
        refine br_getR (k := 27) rfl (hS.k (by decide)) flR_9_12 (by decide) rfl (hS.r rfl) ?_
        refine ar_bipush (k := 28) rfl (by decide) ?_
        refine ar_iloadn (k := 29) rfl rfl ?_
        refine ar_iadd (k := 30) rfl ?_
        refine ar_iloadn (k := 31) rfl rfl ?_
        refine br_iast (k := 32) rfl (hS.k (by decide)) (by omega) (by omega) (by decide) ?_
        refine ar_aloadn (k := 33) rfl rfl ?_
        refine br_getR (k := 34) rfl (hS.k (by decide)) flR_9_12 (by decide) rfl (hS.r rfl) ?_
        refine ar_bipush (k := 35) rfl (by decide) ?_
        refine ar_iloadn (k := 36) rfl rfl ?_
        refine ar_iadd (k := 37) rfl ?_
        refine ar_iloadn (k := 38) rfl rfl ?_
        refine br_iast (k := 39) rfl (hS.k (by decide)) (by omega) (by omega) (by decide) ?_
        refine ar_aloadn (k := 40) rfl rfl ?_
        refine br_getR (k := 41) rfl (hS.k (by decide)) flR_9_12 (by decide) rfl (hS.r rfl) ?_
        refine ar_bipush (k := 42) rfl (by decide) ?_
        refine ar_iloadn (k := 43) rfl rfl ?_
        refine ar_iadd (k := 44) rfl ?_
        refine ar_iconst (k := 45) rfl ?_
        refine br_iast (k := 46) rfl (hS.k (by decide)) (by omega) (by omega) (by decide) ?_
        refine ar_aloadn (k := 47) rfl rfl ?_
        refine br_getR (k := 48) rfl (hS.k (by decide)) flR_9_12 (by decide) rfl (hS.r rfl) ?_
        refine ar_bipush (k := 49) rfl (by decide) ?_
        refine ar_iloadn (k := 50) rfl rfl ?_
        refine ar_iadd (k := 51) rfl ?_
        refine ar_iconst (k := 52) rfl ?_
        refine br_iast (k := 53) rfl (hS.k (by decide)) (by omega) (by omega) (by decide) ?_
        refine ar_aloadn (k := 54) rfl rfl ?_
        refine br_getR (k := 55) rfl (hS.k (by decide)) flR_9_12 (by decide) rfl (hS.r rfl) ?_
        refine ar_iconst (k := 56) rfl ?_
        refine ar_dup2 (k := 57) rfl rfl rfl ?_
        refine br_iald (k := 58) rfl (hS.k (by decide)) (by omega) (by omega) (by decide) ?_
        refine tw_top (y := I 70 1) (by simp only [uI_at]; omega) ?_
        refine ar_iconst (k := 59) rfl ?_
        refine ar_iadd (k := 60) rfl ?_
        refine br_iast (k := 61) rfl (hS.k (by decide)) (by omega) (by omega) (by decide) ?_
        refine ar_iloadn (k := 62) rfl rfl ?_
        refine ar_iret (k := 63) rfl rfl rfl (Nat.le_refl _) ?_
        unfold rs_tool
        (repeat' split) <;> first
          | (exfalso; omega)
          | exact ⟨rfl, by rw [setA_id]⟩
          | exact ⟨rfl, by simp only [uI_set, setA_setA, setA_at]⟩
      · refine ar_bipush (k := 19) rfl (by decide) ?_
        refine ar_iret (k := 20) rfl rfl rfl (Nat.le_refl _) ?_
        unfold rs_tool
        (repeat' split) <;> first
          | (exfalso; omega)
          | exact ⟨rfl, by rw [setA_id]⟩
          | exact ⟨rfl, by simp only [uI_set, setA_setA, setA_at]⟩
    · refine ar_bipush (k := 11) rfl (by decide) ?_
      refine ar_iret (k := 12) rfl rfl rfl (Nat.le_refl _) ?_
      unfold rs_tool
      (repeat' split) <;> first
        | (exfalso; omega)
        | exact ⟨rfl, by rw [setA_id]⟩
        | exact ⟨rfl, by simp only [uI_set, setA_setA, setA_at]⟩
  · refine ar_iconst (k := 4) rfl ?_
    refine ar_iret (k := 5) rfl rfl rfl (Nat.le_refl _) ?_
    unfold rs_tool
    (repeat' split) <;> first
      | (exfalso; omega)
      | exact ⟨rfl, by rw [setA_id]⟩
      | exact ⟨rfl, by simp only [uI_set, setA_setA, setA_at]⟩
def rs_broken (s : Int → Int) (t : Int) (b : Int) : Int × (Int → Int) := if ¬ (0 ≤ t ∧ t ≤ s 1 - 1) then (-1, s) else (s (104 + t), up s (104 + t) (if b = 0 then 0 else 1))
theorem c_R_broken {t : Int} {b : Int} (hS : tSt (K, I, Q, n)) (hR : RInv (I 70)) (t_t : tr t) (t_b : tr b) : tw_F l G 3 0 0 mR_broken [vr (some 69), vi t, vi b] (K, I, Q, n) (some (vi (rs_broken (I 70) t b).1)) (K, setA I 70 (rs_broken (I 70) t b).2, Q, n) := by
  obtain ⟨h0, h1, h2, h3, h4, h5, h6, hp, hrw, ht, hr, hb, htp, hv⟩ := hR
  refine tw_intro okR_broken (Nat.le_of_ble_eq_true rfl) ?_
  refine ar_aloadn (k := 0) rfl rfl ?_
  refine ar_iloadn (k := 1) rfl rfl ?_
  refine br_callV (k := 2) (as := [_]) rfl lvR_120 (hS.k (by decide)) rfl (c_R_isTool hS (by omega) h1) rfl (by decide) (by decide) tw_m0 (Nat.le_of_ble_eq_true rfl) ?_
  refine ar_if_ne (k := 3) rfl (by omega) (fun c3 => ?_) (fun c3 => ?_)
  · refine ar_aloadn (k := 6) rfl rfl ?_
    refine br_getR (k := 7) rfl (hS.k (by decide)) flR_9_12 (by decide) rfl (hS.r rfl) ?_
    refine ar_bipush (k := 8) rfl (by decide) ?_
    refine ar_iloadn (k := 9) rfl rfl ?_
    refine ar_iadd (k := 10) rfl ?_
    refine br_iald (k := 11) rfl (hS.k (by decide)) (by omega) (by omega) (by decide) ?_
    refine ar_istoren (k := 12) (l2 := [(3, _), (0, _), (1, _), (2, _)]) rfl (by decide) rfl ?_
    refine ar_aloadn (k := 13) rfl rfl ?_
    refine br_getR (k := 14) rfl (hS.k (by decide)) flR_9_12 (by decide) rfl (hS.r rfl) ?_
    refine ar_bipush (k := 15) rfl (by decide) ?_
    refine ar_iloadn (k := 16) rfl rfl ?_
    refine ar_iadd (k := 17) rfl ?_
    refine ar_iloadn (k := 18) rfl rfl ?_
    refine ar_if_eq (k := 19) rfl (by omega) (fun c19 => ?_) (fun c19 => ?_)
    · refine ar_iconst (k := 22) rfl ?_
      refine br_iast (k := 23) rfl (hS.k (by decide)) (by omega) (by omega) (by decide) ?_
      refine ar_iloadn (k := 24) rfl rfl ?_
      refine ar_iret (k := 25) rfl rfl rfl (Nat.le_refl _) ?_
      unfold rs_broken
      (repeat' split) <;> first
        | (exfalso; omega)
        | exact ⟨rfl, by rw [setA_id]⟩
        | exact ⟨rfl, by simp only [uI_set, setA_setA, setA_at]⟩
    · refine ar_iconst (k := 20) rfl ?_
      refine ar_goto (k := 21) rfl ?_
      refine br_iast (k := 23) rfl (hS.k (by decide)) (by omega) (by omega) (by decide) ?_
      refine ar_iloadn (k := 24) rfl rfl ?_
      refine ar_iret (k := 25) rfl rfl rfl (Nat.le_refl _) ?_
      unfold rs_broken
      (repeat' split) <;> first
        | (exfalso; omega)
        | exact ⟨rfl, by rw [setA_id]⟩
        | exact ⟨rfl, by simp only [uI_set, setA_setA, setA_at]⟩
  · refine ar_iconst (k := 4) rfl ?_
    refine ar_iret (k := 5) rfl rfl rfl (Nat.le_refl _) ?_
    unfold rs_broken
    (repeat' split) <;> first
      | (exfalso; omega)
      | exact ⟨rfl, by rw [setA_id]⟩
      | exact ⟨rfl, by simp only [uI_set, setA_setA, setA_at]⟩
def rs_give (s : Int → Int) (t : Int) (p : Int) : Int × (Int → Int) := if ¬ (0 ≤ t ∧ t ≤ s 1 - 1 ∧ 0 ≤ p ∧ p ≤ s 0 - 1) then (-1, s) else (s (84 + t), up s (84 + t) p)
theorem c_R_give {t : Int} {p : Int} (hS : tSt (K, I, Q, n)) (hR : RInv (I 70)) (t_t : tr t) (t_p : tr p) : tw_F l G 3 0 0 mR_give [vr (some 69), vi t, vi p] (K, I, Q, n) (some (vi (rs_give (I 70) t p).1)) (K, setA I 70 (rs_give (I 70) t p).2, Q, n) := by
  obtain ⟨h0, h1, h2, h3, h4, h5, h6, hp, hrw, ht, hr, hb, htp, hv⟩ := hR
  refine tw_intro okR_give (Nat.le_of_ble_eq_true rfl) ?_
  refine ar_aloadn (k := 0) rfl rfl ?_
  refine ar_iloadn (k := 1) rfl rfl ?_
  refine br_callV (k := 2) (as := [_]) rfl lvR_120 (hS.k (by decide)) rfl (c_R_isTool hS (by omega) h1) rfl (by decide) (by decide) tw_m0 (Nat.le_of_ble_eq_true rfl) ?_
  refine ar_if_eq (k := 3) rfl (by omega) (fun c3 => ?_) (fun c3 => ?_)
  · refine ar_iconst (k := 8) rfl ?_
    refine ar_iret (k := 9) rfl rfl rfl (Nat.le_refl _) ?_
    unfold rs_give
    (repeat' split) <;> first
      | (exfalso; omega)
      | exact ⟨rfl, by rw [setA_id]⟩
      | exact ⟨rfl, by simp only [uI_set, setA_setA, setA_at]⟩
  · refine ar_aloadn (k := 4) rfl rfl ?_
    refine ar_iloadn (k := 5) rfl rfl ?_
    refine br_callV (k := 6) (as := [_]) rfl lvR_115 (hS.k (by decide)) rfl (c_R_isPerson hS (by omega) h0) rfl (by decide) (by decide) tw_m0 (Nat.le_of_ble_eq_true rfl) ?_
    refine ar_if_ne (k := 7) rfl (by omega) (fun c7 => ?_) (fun c7 => ?_)
    · refine ar_aloadn (k := 10) rfl rfl ?_
      refine br_getR (k := 11) rfl (hS.k (by decide)) flR_9_12 (by decide) rfl (hS.r rfl) ?_
      refine ar_bipush (k := 12) rfl (by decide) ?_
      refine ar_iloadn (k := 13) rfl rfl ?_
      refine ar_iadd (k := 14) rfl ?_
      refine br_iald (k := 15) rfl (hS.k (by decide)) (by omega) (by omega) (by decide) ?_
      refine ar_istoren (k := 16) (l2 := [(3, _), (0, _), (1, _), (2, _)]) rfl (by decide) rfl ?_
      refine ar_aloadn (k := 17) rfl rfl ?_
      refine br_getR (k := 18) rfl (hS.k (by decide)) flR_9_12 (by decide) rfl (hS.r rfl) ?_
      refine ar_bipush (k := 19) rfl (by decide) ?_
      refine ar_iloadn (k := 20) rfl rfl ?_
      refine ar_iadd (k := 21) rfl ?_
      refine ar_iloadn (k := 22) rfl rfl ?_
      refine br_iast (k := 23) rfl (hS.k (by decide)) (by omega) (by omega) (by decide) ?_
      refine ar_iloadn (k := 24) rfl rfl ?_
      refine ar_iret (k := 25) rfl rfl rfl (Nat.le_refl _) ?_
      unfold rs_give
      (repeat' split) <;> first
        | (exfalso; omega)
        | exact ⟨rfl, by rw [setA_id]⟩
        | exact ⟨rfl, by simp only [uI_set, setA_setA, setA_at]⟩
    · refine ar_iconst (k := 8) rfl ?_
      refine ar_iret (k := 9) rfl rfl rfl (Nat.le_refl _) ?_
      unfold rs_give
      (repeat' split) <;> first
        | (exfalso; omega)
        | exact ⟨rfl, by rw [setA_id]⟩
        | exact ⟨rfl, by simp only [uI_set, setA_setA, setA_at]⟩
def rs_trial (s : Int → Int) (a : Int) (b : Int) (w : Int) : Int × (Int → Int) := if ¬ (0 ≤ a ∧ a ≤ s 1 - 1 ∧ 0 ≤ b ∧ b ≤ s 1 - 1) then (-1, s) else if a = b then (-2, s) else if s 3 = 12 then (-4, s) else (s 3 + 1, up (up (up (up s (114 + s 3) a) (126 + s 3) b) (138 + s 3) (if w = 0 then 0 else 1)) 3 (s 3 + 1))
theorem c_R_trial {a : Int} {b : Int} {w : Int} (hS : tSt (K, I, Q, n)) (hR : RInv (I 70)) (t_a : tr a) (t_b : tr b) (t_w : tr w) : tw_F l G 3 0 0 mR_trial [vr (some 69), vi a, vi b, vi w] (K, I, Q, n) (some (vi (rs_trial (I 70) a b w).1)) (K, setA I 70 (rs_trial (I 70) a b w).2, Q, n) := by
  obtain ⟨h0, h1, h2, h3, h4, h5, h6, hp, hrw, ht, hr, hb, htp, hv⟩ := hR
  refine tw_intro okR_trial (Nat.le_of_ble_eq_true rfl) ?_
  refine ar_aloadn (k := 0) rfl rfl ?_
  refine ar_iloadn (k := 1) rfl rfl ?_
  refine br_callV (k := 2) (as := [_]) rfl lvR_120 (hS.k (by decide)) rfl (c_R_isTool hS (by omega) h1) rfl (by decide) (by decide) tw_m0 (Nat.le_of_ble_eq_true rfl) ?_
  refine ar_if_eq (k := 3) rfl (by omega) (fun c3 => ?_) (fun c3 => ?_)
  · refine ar_iconst (k := 8) rfl ?_
    refine ar_iret (k := 9) rfl rfl rfl (Nat.le_refl _) ?_
    unfold rs_trial
    (repeat' split) <;> first
      | (exfalso; omega)
      | exact ⟨rfl, by rw [setA_id]⟩
      | exact ⟨rfl, by simp only [uI_set, setA_setA, setA_at]⟩
  · refine ar_aloadn (k := 4) rfl rfl ?_
    refine ar_iloadn (k := 5) rfl rfl ?_
    refine br_callV (k := 6) (as := [_]) rfl lvR_120 (hS.k (by decide)) rfl (c_R_isTool hS (by omega) h1) rfl (by decide) (by decide) tw_m0 (Nat.le_of_ble_eq_true rfl) ?_
    refine ar_if_ne (k := 7) rfl (by omega) (fun c7 => ?_) (fun c7 => ?_)
    · refine ar_iloadn (k := 10) rfl rfl ?_
      refine ar_iloadn (k := 11) rfl rfl ?_
      refine ar_icmp_ne (k := 12) rfl (by omega) (by omega) (fun c12 => ?_) (fun c12 => ?_)
      · refine ar_aloadn (k := 15) rfl rfl ?_
        refine br_getR (k := 16) rfl (hS.k (by decide)) flR_9_12 (by decide) rfl (hS.r rfl) ?_
        refine ar_iconst (k := 17) rfl ?_
        refine br_iald (k := 18) rfl (hS.k (by decide)) (by omega) (by omega) (by decide) ?_
        refine ar_bipush (k := 19) rfl (by decide) ?_
        refine ar_icmp_ne (k := 20) rfl (by omega) (by omega) (fun c20 => ?_) (fun c20 => ?_)
        · refine ar_aloadn (k := 23) rfl rfl ?_
          refine br_getR (k := 24) rfl (hS.k (by decide)) flR_9_12 (by decide) rfl (hS.r rfl) ?_
          refine ar_iconst (k := 25) rfl ?_
          refine br_iald (k := 26) rfl (hS.k (by decide)) (by omega) (by omega) (by decide) ?_
          refine ar_istore (k := 27) (l2 := [(4, _), (0, _), (1, _), (2, _), (3, _)]) rfl (by decide) rfl ?_
          refine ar_aloadn (k := 28) rfl rfl ?_
          refine br_getR (k := 29) rfl (hS.k (by decide)) flR_9_12 (by decide) rfl (hS.r rfl) ?_
          refine ar_bipush (k := 30) rfl (by decide) ?_
          refine ar_iload (k := 31) rfl rfl ?_
          refine ar_iadd (k := 32) rfl ?_
          refine ar_iloadn (k := 33) rfl rfl ?_
          refine br_iast (k := 34) rfl (hS.k (by decide)) (by omega) (by omega) (by decide) ?_
          refine ar_aloadn (k := 35) rfl rfl ?_
          refine br_getR (k := 36) rfl (hS.k (by decide)) flR_9_12 (by decide) rfl (hS.r rfl) ?_
          refine ar_bipush (k := 37) rfl (by decide) ?_
          refine ar_iload (k := 38) rfl rfl ?_
          refine ar_iadd (k := 39) rfl ?_
          refine ar_iloadn (k := 40) rfl rfl ?_
          refine br_iast (k := 41) rfl (hS.k (by decide)) (by omega) (by omega) (by decide) ?_
          refine ar_aloadn (k := 42) rfl rfl ?_
          refine br_getR (k := 43) rfl (hS.k (by decide)) flR_9_12 (by decide) rfl (hS.r rfl) ?_
          refine ar_sipush (k := 44) rfl (by decide) ?_
          refine ar_iload (k := 45) rfl rfl ?_
          refine ar_iadd (k := 46) rfl ?_
          refine ar_iloadn (k := 47) rfl rfl ?_
          refine ar_if_eq (k := 48) rfl (by omega) (fun c48 => ?_) (fun c48 => ?_)
          · refine ar_iconst (k := 51) rfl ?_
            refine br_iast (k := 52) rfl (hS.k (by decide)) (by omega) (by omega) (by decide) ?_
            refine ar_aloadn (k := 53) rfl rfl ?_
            refine br_getR (k := 54) rfl (hS.k (by decide)) flR_9_12 (by decide) rfl (hS.r rfl) ?_
            refine ar_iconst (k := 55) rfl ?_
            refine ar_dup2 (k := 56) rfl rfl rfl ?_
            refine br_iald (k := 57) rfl (hS.k (by decide)) (by omega) (by omega) (by decide) ?_
            refine tw_top (y := I 70 3) (by simp only [uI_at]; omega) ?_
            refine ar_iconst (k := 58) rfl ?_
            refine ar_iadd (k := 59) rfl ?_
            refine br_iast (k := 60) rfl (hS.k (by decide)) (by omega) (by omega) (by decide) ?_
            refine ar_aloadn (k := 61) rfl rfl ?_
            refine br_getR (k := 62) rfl (hS.k (by decide)) flR_9_12 (by decide) rfl (hS.r rfl) ?_
            refine ar_iconst (k := 63) rfl ?_
            refine br_iald (k := 64) rfl (hS.k (by decide)) (by omega) (by omega) (by decide) ?_
            refine tw_top (y := I 70 3 + 1) (by rw [uI_at, if_pos rfl]) ?_
            refine ar_iret (k := 65) rfl rfl rfl (Nat.le_refl _) ?_
            unfold rs_trial
            (repeat' split) <;> first
              | (exfalso; omega)
              | exact ⟨rfl, by rw [setA_id]⟩
              | exact ⟨rfl, by simp only [uI_set, setA_setA, setA_at]⟩
          · refine ar_iconst (k := 49) rfl ?_
            refine ar_goto (k := 50) rfl ?_
            refine br_iast (k := 52) rfl (hS.k (by decide)) (by omega) (by omega) (by decide) ?_
            refine ar_aloadn (k := 53) rfl rfl ?_
            refine br_getR (k := 54) rfl (hS.k (by decide)) flR_9_12 (by decide) rfl (hS.r rfl) ?_
            refine ar_iconst (k := 55) rfl ?_
            refine ar_dup2 (k := 56) rfl rfl rfl ?_
            refine br_iald (k := 57) rfl (hS.k (by decide)) (by omega) (by omega) (by decide) ?_
            refine tw_top (y := I 70 3) (by simp only [uI_at]; omega) ?_
            refine ar_iconst (k := 58) rfl ?_
            refine ar_iadd (k := 59) rfl ?_
            refine br_iast (k := 60) rfl (hS.k (by decide)) (by omega) (by omega) (by decide) ?_
            refine ar_aloadn (k := 61) rfl rfl ?_
            refine br_getR (k := 62) rfl (hS.k (by decide)) flR_9_12 (by decide) rfl (hS.r rfl) ?_
            refine ar_iconst (k := 63) rfl ?_
            refine br_iald (k := 64) rfl (hS.k (by decide)) (by omega) (by omega) (by decide) ?_
            refine tw_top (y := I 70 3 + 1) (by rw [uI_at, if_pos rfl]) ?_
            refine ar_iret (k := 65) rfl rfl rfl (Nat.le_refl _) ?_
            unfold rs_trial
            (repeat' split) <;> first
              | (exfalso; omega)
              | exact ⟨rfl, by rw [setA_id]⟩
              | exact ⟨rfl, by simp only [uI_set, setA_setA, setA_at]⟩
        · refine ar_bipush (k := 21) rfl (by decide) ?_
          refine ar_iret (k := 22) rfl rfl rfl (Nat.le_refl _) ?_
          unfold rs_trial
          (repeat' split) <;> first
            | (exfalso; omega)
            | exact ⟨rfl, by rw [setA_id]⟩
            | exact ⟨rfl, by simp only [uI_set, setA_setA, setA_at]⟩
      · refine ar_bipush (k := 13) rfl (by decide) ?_
        refine ar_iret (k := 14) rfl rfl rfl (Nat.le_refl _) ?_
        unfold rs_trial
        (repeat' split) <;> first
          | (exfalso; omega)
          | exact ⟨rfl, by rw [setA_id]⟩
          | exact ⟨rfl, by simp only [uI_set, setA_setA, setA_at]⟩
    · refine ar_iconst (k := 8) rfl ?_
      refine ar_iret (k := 9) rfl rfl rfl (Nat.le_refl _) ?_
      unfold rs_trial
      (repeat' split) <;> first
        | (exfalso; omega)
        | exact ⟨rfl, by rw [setA_id]⟩
        | exact ⟨rfl, by simp only [uI_set, setA_setA, setA_at]⟩
def rs_clear (s : Int → Int)  : Int × (Int → Int) := (s 3, up s 3 0)
theorem c_R_clear  (hS : tSt (K, I, Q, n)) (hR : RInv (I 70))  : tw_F l G 1 0 0 mR_clear [vr (some 69)] (K, I, Q, n) (some (vi (rs_clear (I 70)).1)) (K, setA I 70 (rs_clear (I 70)).2, Q, n) := by
  obtain ⟨h0, h1, h2, h3, h4, h5, h6, hp, hrw, ht, hr, hb, htp, hv⟩ := hR
  refine tw_intro okR_clear (Nat.le_of_ble_eq_true rfl) ?_
  refine ar_aloadn (k := 0) rfl rfl ?_
  refine br_getR (k := 1) rfl (hS.k (by decide)) flR_9_12 (by decide) rfl (hS.r rfl) ?_
  refine ar_iconst (k := 2) rfl ?_
  refine br_iald (k := 3) rfl (hS.k (by decide)) (by omega) (by omega) (by decide) ?_
  refine ar_istoren (k := 4) (l2 := [(1, _), (0, _)]) rfl (by decide) rfl ?_
  refine ar_aloadn (k := 5) rfl rfl ?_
  refine br_getR (k := 6) rfl (hS.k (by decide)) flR_9_12 (by decide) rfl (hS.r rfl) ?_
  refine ar_iconst (k := 7) rfl ?_
  refine ar_iconst (k := 8) rfl ?_
  refine br_iast (k := 9) rfl (hS.k (by decide)) (by omega) (by omega) (by decide) ?_
  refine ar_iloadn (k := 10) rfl rfl ?_
  refine ar_iret (k := 11) rfl rfl rfl (Nat.le_refl _) ?_
  unfold rs_clear
  (repeat' split) <;> first
    | (exfalso; omega)
    | exact ⟨rfl, by rw [setA_id]⟩
    | exact ⟨rfl, by simp only [uI_set, setA_setA, setA_at]⟩
def rs_book (s : Int → Int) (u : Int) (t : Int) : Int × (Int → Int) := if ¬ (0 ≤ u ∧ u ≤ 23 ∧ 0 ≤ t ∧ t ≤ s 1 - 1) then (-1, s) else if s 4 = 12 then (-4, s) else (s 4 + 1, up (up (up s (150 + s 4) u) (162 + s 4) t) 4 (s 4 + 1))
theorem c_R_book {u : Int} {t : Int} (hS : tSt (K, I, Q, n)) (hR : RInv (I 70)) (t_u : tr u) (t_t : tr t) : tw_F l G 3 0 0 mR_book [vr (some 69), vi u, vi t] (K, I, Q, n) (some (vi (rs_book (I 70) u t).1)) (K, setA I 70 (rs_book (I 70) u t).2, Q, n) := by
  obtain ⟨h0, h1, h2, h3, h4, h5, h6, hp, hrw, ht, hr, hb, htp, hv⟩ := hR
  refine tw_intro okR_book (Nat.le_of_ble_eq_true rfl) ?_
  refine ar_iloadn (k := 0) rfl rfl ?_
  refine br_callS (k := 1) (as := [_]) rfl lsR_130 (c_R_isHour (by omega)) rfl (by decide) (by decide) tw_m0 (Nat.le_of_ble_eq_true rfl) ?_
  refine ar_if_eq (k := 2) rfl (by omega) (fun c2 => ?_) (fun c2 => ?_)
  · refine ar_iconst (k := 7) rfl ?_
    refine ar_iret (k := 8) rfl rfl rfl (Nat.le_refl _) ?_
    unfold rs_book
    (repeat' split) <;> first
      | (exfalso; omega)
      | exact ⟨rfl, by rw [setA_id]⟩
      | exact ⟨rfl, by simp only [uI_set, setA_setA, setA_at]⟩
  · refine ar_aloadn (k := 3) rfl rfl ?_
    refine ar_iloadn (k := 4) rfl rfl ?_
    refine br_callV (k := 5) (as := [_]) rfl lvR_120 (hS.k (by decide)) rfl (c_R_isTool hS (by omega) h1) rfl (by decide) (by decide) tw_m0 (Nat.le_of_ble_eq_true rfl) ?_
    refine ar_if_ne (k := 6) rfl (by omega) (fun c6 => ?_) (fun c6 => ?_)
    · refine ar_aloadn (k := 9) rfl rfl ?_
      refine br_getR (k := 10) rfl (hS.k (by decide)) flR_9_12 (by decide) rfl (hS.r rfl) ?_
      refine ar_iconst (k := 11) rfl ?_
      refine br_iald (k := 12) rfl (hS.k (by decide)) (by omega) (by omega) (by decide) ?_
      refine ar_bipush (k := 13) rfl (by decide) ?_
      refine ar_icmp_ne (k := 14) rfl (by omega) (by omega) (fun c14 => ?_) (fun c14 => ?_)
      · refine ar_aloadn (k := 17) rfl rfl ?_
        refine br_getR (k := 18) rfl (hS.k (by decide)) flR_9_12 (by decide) rfl (hS.r rfl) ?_
        refine ar_sipush (k := 19) rfl (by decide) ?_
        refine ar_aloadn (k := 20) rfl rfl ?_
        refine br_getR (k := 21) rfl (hS.k (by decide)) flR_9_12 (by decide) rfl (hS.r rfl) ?_
        refine ar_iconst (k := 22) rfl ?_
        refine br_iald (k := 23) rfl (hS.k (by decide)) (by omega) (by omega) (by decide) ?_
        refine ar_iadd (k := 24) rfl ?_
        refine ar_iloadn (k := 25) rfl rfl ?_
        refine br_iast (k := 26) rfl (hS.k (by decide)) (by omega) (by omega) (by decide) ?_
        refine ar_aloadn (k := 27) rfl rfl ?_
        refine br_getR (k := 28) rfl (hS.k (by decide)) flR_9_12 (by decide) rfl (hS.r rfl) ?_
        refine ar_sipush (k := 29) rfl (by decide) ?_
        refine ar_aloadn (k := 30) rfl rfl ?_
        refine br_getR (k := 31) rfl (hS.k (by decide)) flR_9_12 (by decide) rfl (hS.r rfl) ?_
        refine ar_iconst (k := 32) rfl ?_
        refine br_iald (k := 33) rfl (hS.k (by decide)) (by omega) (by omega) (by decide) ?_
        refine tw_top (y := I 70 4) (by simp only [uI_at]; omega) ?_
        refine ar_iadd (k := 34) rfl ?_
        refine ar_iloadn (k := 35) rfl rfl ?_
        refine br_iast (k := 36) rfl (hS.k (by decide)) (by omega) (by omega) (by decide) ?_
        refine ar_aloadn (k := 37) rfl rfl ?_
        refine br_getR (k := 38) rfl (hS.k (by decide)) flR_9_12 (by decide) rfl (hS.r rfl) ?_
        refine ar_iconst (k := 39) rfl ?_
        refine ar_dup2 (k := 40) rfl rfl rfl ?_
        refine br_iald (k := 41) rfl (hS.k (by decide)) (by omega) (by omega) (by decide) ?_
        refine tw_top (y := I 70 4) (by simp only [uI_at]; omega) ?_
        refine ar_iconst (k := 42) rfl ?_
        refine ar_iadd (k := 43) rfl ?_
        refine br_iast (k := 44) rfl (hS.k (by decide)) (by omega) (by omega) (by decide) ?_
        refine ar_aloadn (k := 45) rfl rfl ?_
        refine br_getR (k := 46) rfl (hS.k (by decide)) flR_9_12 (by decide) rfl (hS.r rfl) ?_
        refine ar_iconst (k := 47) rfl ?_
        refine br_iald (k := 48) rfl (hS.k (by decide)) (by omega) (by omega) (by decide) ?_
        refine tw_top (y := I 70 4 + 1) (by rw [uI_at, if_pos rfl]) ?_
        refine ar_iret (k := 49) rfl rfl rfl (Nat.le_refl _) ?_
        unfold rs_book
        (repeat' split) <;> first
          | (exfalso; omega)
          | exact ⟨rfl, by rw [setA_id]⟩
          | exact ⟨rfl, by simp only [uI_set, setA_setA, setA_at]⟩
      · refine ar_bipush (k := 15) rfl (by decide) ?_
        refine ar_iret (k := 16) rfl rfl rfl (Nat.le_refl _) ?_
        unfold rs_book
        (repeat' split) <;> first
          | (exfalso; omega)
          | exact ⟨rfl, by rw [setA_id]⟩
          | exact ⟨rfl, by simp only [uI_set, setA_setA, setA_at]⟩
    · refine ar_iconst (k := 7) rfl ?_
      refine ar_iret (k := 8) rfl rfl rfl (Nat.le_refl _) ?_
      unfold rs_book
      (repeat' split) <;> first
        | (exfalso; omega)
        | exact ⟨rfl, by rw [setA_id]⟩
        | exact ⟨rfl, by simp only [uI_set, setA_setA, setA_at]⟩
theorem c_R_isUnder {h : tH} {a b : Int} (ta : tr a) (tb : -100 ≤ b ∧ b ≤ 100) : tw_F l G 1 0 0 mR_isUnder [vi a, vi b] h (some (vi (if b = 0 ∨ b = a ∨ (0 < b ∧ b < 4 ∧ a = b + 3) then 1 else 0))) h := by
  refine tw_intro okR_isUnder (Nat.le_of_ble_eq_true rfl) ?_
  refine ar_iloadn (k := 0) rfl rfl ?_
  refine ar_if_eq (k := 1) rfl (by omega) (fun c1 => ?_) (fun c1 => ?_)
  · refine ar_iconst (k := 15) rfl ?_
    refine ar_goto (k := 16) rfl ?_
    refine ar_zret (k := 18) rfl rfl (by omega) rfl (Nat.le_refl _) ?_
    exact ⟨congrArg (fun z => some (vi z)) (by omega), rfl⟩
  · refine ar_iloadn (k := 2) rfl rfl ?_
    refine ar_iloadn (k := 3) rfl rfl ?_
    refine ar_icmp_eq (k := 4) rfl (by omega) (by omega) (fun c4 => ?_) (fun c4 => ?_)
    · refine ar_iconst (k := 15) rfl ?_
      refine ar_goto (k := 16) rfl ?_
      refine ar_zret (k := 18) rfl rfl (by omega) rfl (Nat.le_refl _) ?_
      exact ⟨congrArg (fun z => some (vi z)) (by omega), rfl⟩
    · refine ar_iloadn (k := 5) rfl rfl ?_
      refine ar_if_le (k := 6) rfl (by omega) (fun c6 => ?_) (fun c6 => ?_)
      · refine ar_iconst (k := 17) rfl ?_
        refine ar_zret (k := 18) rfl rfl (by omega) rfl (Nat.le_refl _) ?_
        exact ⟨congrArg (fun z => some (vi z)) (by omega), rfl⟩
      · refine ar_iloadn (k := 7) rfl rfl ?_
        refine ar_iconst (k := 8) rfl ?_
        refine ar_icmp_ge (k := 9) rfl (by omega) (by omega) (fun c9 => ?_) (fun c9 => ?_)
        · refine ar_iconst (k := 17) rfl ?_
          refine ar_zret (k := 18) rfl rfl (by omega) rfl (Nat.le_refl _) ?_
          exact ⟨congrArg (fun z => some (vi z)) (by omega), rfl⟩
        · refine ar_iloadn (k := 10) rfl rfl ?_
          refine ar_iloadn (k := 11) rfl rfl ?_
          refine ar_iconst (k := 12) rfl ?_
          refine ar_iadd (k := 13) rfl ?_
          refine ar_icmp_ne (k := 14) rfl (by omega) (by omega) (fun c14 => ?_) (fun c14 => ?_)
          · refine ar_iconst (k := 17) rfl ?_
            refine ar_zret (k := 18) rfl rfl (by omega) rfl (Nat.le_refl _) ?_
            exact ⟨congrArg (fun z => some (vi z)) (by omega), rfl⟩
          · refine ar_iconst (k := 15) rfl ?_
            refine ar_goto (k := 16) rfl ?_
            refine ar_zret (k := 18) rfl rfl (by omega) rfl (Nat.le_refl _) ?_
            exact ⟨congrArg (fun z => some (vi z)) (by omega), rfl⟩
def rs_as (s : Int → Int) (p : Int) (b : Int) : Int × (Int → Int) := if ¬ (0 ≤ p ∧ p ≤ s 0 - 1 ∧ 0 ≤ b ∧ b ≤ 6) then (-1, s) else (if b = 0 ∨ b = s (10 + p) ∨ (0 < b ∧ b < 4 ∧ s (10 + p) = b + 3) then s (18 + p) else -6, s)
theorem c_R_as {p : Int} {b : Int} (hS : tSt (K, I, Q, n)) (hR : RInv (I 70)) (t_p : tr p) (t_b : tr b) : tw_F l G 3 0 0 mR_as [vr (some 69), vi p, vi b] (K, I, Q, n) (some (vi (rs_as (I 70) p b).1)) (K, setA I 70 (rs_as (I 70) p b).2, Q, n) := by
  obtain ⟨h0, h1, h2, h3, h4, h5, h6, hp, hrw, ht, hr, hb, htp, hv⟩ := hR
  refine tw_intro okR_as (Nat.le_of_ble_eq_true rfl) ?_
  refine ar_aloadn (k := 0) rfl rfl ?_
  refine ar_iloadn (k := 1) rfl rfl ?_
  refine br_callV (k := 2) (as := [_]) rfl lvR_115 (hS.k (by decide)) rfl (c_R_isPerson hS (by omega) h0) rfl (by decide) (by decide) tw_m0 (Nat.le_of_ble_eq_true rfl) ?_
  refine ar_if_eq (k := 3) rfl (by omega) (fun c3 => ?_) (fun c3 => ?_)
  · refine ar_iconst (k := 9) rfl ?_
    refine ar_iret (k := 10) rfl rfl rfl (Nat.le_refl _) ?_
    unfold rs_as
    (repeat' split) <;> first
      | (exfalso; omega)
      | exact ⟨rfl, by rw [setA_id]⟩
      | exact ⟨rfl, by simp only [uI_set, setA_setA, setA_at]⟩
  · refine ar_iloadn (k := 4) rfl rfl ?_
    refine ar_iconst (k := 5) rfl ?_
    refine ar_bipush (k := 6) rfl (by decide) ?_
    refine br_callS (k := 7) (as := [_, _, _]) rfl lsR_38 (c_R_in (by omega) (by omega) (by omega)) rfl (by decide) (by decide) tw_m0 (Nat.le_of_ble_eq_true rfl) ?_
    refine ar_if_ne (k := 8) rfl (by omega) (fun c8 => ?_) (fun c8 => ?_)
    · have hk := hp p (by omega) (by omega)
      refine ar_aloadn (k := 11) rfl rfl ?_
      refine br_getR (k := 12) rfl (hS.k (by decide)) flR_9_12 (by decide) rfl (hS.r rfl) ?_
      refine ar_bipush (k := 13) rfl (by decide) ?_
      refine ar_iloadn (k := 14) rfl rfl ?_
      refine ar_iadd (k := 15) rfl ?_
      refine br_iald (k := 16) rfl (hS.k (by decide)) (by omega) (by omega) (by decide) ?_
      refine ar_iloadn (k := 17) rfl rfl ?_
      refine br_callS (k := 18) (as := [_, _]) rfl lsR_245 (c_R_isUnder (by omega) (by omega)) rfl (by decide) (by decide) tw_m0 (Nat.le_of_ble_eq_true rfl) ?_
      refine ar_if_eq (k := 19) rfl (by omega) (fun c19 => ?_) (fun c19 => ?_)
      · refine ar_bipush (k := 27) rfl (by decide) ?_
        refine ar_iret (k := 28) rfl rfl rfl (Nat.le_refl _) ?_
        unfold rs_as
        (repeat' split) <;> first
          | (exfalso; omega)
          | exact ⟨rfl, by rw [setA_id]⟩
          | exact ⟨rfl, by simp only [uI_set, setA_setA, setA_at]⟩
      · refine ar_aloadn (k := 20) rfl rfl ?_
        refine br_getR (k := 21) rfl (hS.k (by decide)) flR_9_12 (by decide) rfl (hS.r rfl) ?_
        refine ar_bipush (k := 22) rfl (by decide) ?_
        refine ar_iloadn (k := 23) rfl rfl ?_
        refine ar_iadd (k := 24) rfl ?_
        refine br_iald (k := 25) rfl (hS.k (by decide)) (by omega) (by omega) (by decide) ?_
        refine ar_goto (k := 26) rfl ?_
        refine ar_iret (k := 28) rfl rfl rfl (Nat.le_refl _) ?_
        unfold rs_as
        (repeat' split) <;> first
          | (exfalso; omega)
          | exact ⟨rfl, by rw [setA_id]⟩
          | exact ⟨rfl, by simp only [uI_set, setA_setA, setA_at]⟩
    · refine ar_iconst (k := 9) rfl ?_
      refine ar_iret (k := 10) rfl rfl rfl (Nat.le_refl _) ?_
      unfold rs_as
      (repeat' split) <;> first
        | (exfalso; omega)
        | exact ⟨rfl, by rw [setA_id]⟩
        | exact ⟨rfl, by simp only [uI_set, setA_setA, setA_at]⟩
def rs_count (s : Int → Int) (w : Int) : Int × (Int → Int) := (if w = 0 then s 0 else if w = 1 then s 1 else if w = 2 then s 2 else if w = 3 then s 3 else if w = 4 then s 4 else if w = 5 then s 5 else -1, s)
theorem c_R_count {w : Int} (hS : tSt (K, I, Q, n)) (hR : RInv (I 70)) (t_w : tr w) (hw : w ≠ 6) : tw_F l G 1 0 0 mR_count [vr (some 69), vi w] (K, I, Q, n) (some (vi (rs_count (I 70) w).1)) (K, setA I 70 (rs_count (I 70) w).2, Q, n) := by
  obtain ⟨h0, h1, h2, h3, h4, h5, h6, hp, hrw, ht, hr, hb, htp, hv⟩ := hR
  refine tw_intro okR_count (Nat.le_of_ble_eq_true rfl) ?_
  refine ar_iloadn (k := 0) rfl rfl ?_
  rcases (show w = 0 ∨ w = 1 ∨ w = 2 ∨ w = 3 ∨ w = 4 ∨ w = 5 ∨ w = 6 ∨ (w < 0 ∨ 6 < w) by omega) with q1 | q1 | q1 | q1 | q1 | q1 | q1 | q1
  · refine ar_tswIn (k := 1) (t := 44) rfl (by omega) (by omega) (by omega) (by rw [q1]; rfl) (by decide) ?_
    refine ar_aloadn (k := 2) rfl rfl ?_
    refine br_getR (k := 3) rfl (hS.k (by decide)) flR_9_12 (by decide) rfl (hS.r rfl) ?_
    refine ar_iconst (k := 4) rfl ?_
    refine br_iald (k := 5) rfl (hS.k (by decide)) (by omega) (by omega) (by decide) ?_
    refine ar_iret (k := 6) rfl rfl rfl (Nat.le_refl _) ?_
    unfold rs_count
    refine ⟨congrArg (fun z => some (vi z)) (by omega), by rw [setA_id]⟩
  · refine ar_tswIn (k := 1) (t := 51) rfl (by omega) (by omega) (by omega) (by rw [q1]; rfl) (by decide) ?_
    refine ar_aloadn (k := 7) rfl rfl ?_
    refine br_getR (k := 8) rfl (hS.k (by decide)) flR_9_12 (by decide) rfl (hS.r rfl) ?_
    refine ar_iconst (k := 9) rfl ?_
    refine br_iald (k := 10) rfl (hS.k (by decide)) (by omega) (by omega) (by decide) ?_
    refine ar_iret (k := 11) rfl rfl rfl (Nat.le_refl _) ?_
    unfold rs_count
    refine ⟨congrArg (fun z => some (vi z)) (by omega), by rw [setA_id]⟩
  · refine ar_tswIn (k := 1) (t := 58) rfl (by omega) (by omega) (by omega) (by rw [q1]; rfl) (by decide) ?_
    refine ar_aloadn (k := 12) rfl rfl ?_
    refine br_getR (k := 13) rfl (hS.k (by decide)) flR_9_12 (by decide) rfl (hS.r rfl) ?_
    refine ar_iconst (k := 14) rfl ?_
    refine br_iald (k := 15) rfl (hS.k (by decide)) (by omega) (by omega) (by decide) ?_
    refine ar_iret (k := 16) rfl rfl rfl (Nat.le_refl _) ?_
    unfold rs_count
    refine ⟨congrArg (fun z => some (vi z)) (by omega), by rw [setA_id]⟩
  · refine ar_tswIn (k := 1) (t := 65) rfl (by omega) (by omega) (by omega) (by rw [q1]; rfl) (by decide) ?_
    refine ar_aloadn (k := 17) rfl rfl ?_
    refine br_getR (k := 18) rfl (hS.k (by decide)) flR_9_12 (by decide) rfl (hS.r rfl) ?_
    refine ar_iconst (k := 19) rfl ?_
    refine br_iald (k := 20) rfl (hS.k (by decide)) (by omega) (by omega) (by decide) ?_
    refine ar_iret (k := 21) rfl rfl rfl (Nat.le_refl _) ?_
    unfold rs_count
    refine ⟨congrArg (fun z => some (vi z)) (by omega), by rw [setA_id]⟩
  · refine ar_tswIn (k := 1) (t := 72) rfl (by omega) (by omega) (by omega) (by rw [q1]; rfl) (by decide) ?_
    refine ar_aloadn (k := 22) rfl rfl ?_
    refine br_getR (k := 23) rfl (hS.k (by decide)) flR_9_12 (by decide) rfl (hS.r rfl) ?_
    refine ar_iconst (k := 24) rfl ?_
    refine br_iald (k := 25) rfl (hS.k (by decide)) (by omega) (by omega) (by decide) ?_
    refine ar_iret (k := 26) rfl rfl rfl (Nat.le_refl _) ?_
    unfold rs_count
    refine ⟨congrArg (fun z => some (vi z)) (by omega), by rw [setA_id]⟩
  · refine ar_tswIn (k := 1) (t := 79) rfl (by omega) (by omega) (by omega) (by rw [q1]; rfl) (by decide) ?_
    refine ar_aloadn (k := 27) rfl rfl ?_
    refine br_getR (k := 28) rfl (hS.k (by decide)) flR_9_12 (by decide) rfl (hS.r rfl) ?_
    refine ar_iconst (k := 29) rfl ?_
    refine br_iald (k := 30) rfl (hS.k (by decide)) (by omega) (by omega) (by decide) ?_
    refine ar_iret (k := 31) rfl rfl rfl (Nat.le_refl _) ?_
    unfold rs_count
    refine ⟨congrArg (fun z => some (vi z)) (by omega), by rw [setA_id]⟩
  · refine ar_tswIn (k := 1) (t := 86) rfl (by omega) (by omega) (by omega) (by rw [q1]; rfl) (by decide) ?_
    refine ar_aloadn (k := 32) rfl rfl ?_
    refine br_getI (k := 33) rfl (hS.k (by decide)) flR_233_12 (by decide) rfl ?_
    refine ar_iret (k := 34) rfl rfl rfl (Nat.le_refl _) ?_
    unfold rs_count
    refine ⟨congrArg (fun z => some (vi z)) (by omega), by rw [setA_id]⟩
  · refine ar_tswOut (k := 1) (t := 91) rfl (by omega) (by omega) (by decide) ?_
    refine ar_iconst (k := 35) rfl ?_
    refine ar_iret (k := 36) rfl rfl rfl (Nat.le_refl _) ?_
    unfold rs_count
    refine ⟨congrArg (fun z => some (vi z)) (by omega), by rw [setA_id]⟩
end RB
end
section
theorem tw_post {l : Launch} {G : tG} {d mc ms : Nat} {M : tM} {av : List tV} {h : tH} {P P' : Option tV → tH → Prop} (hM : tw_M l G d mc ms M av h P) (hp : ∀ r h', P r h' → P' r h') : tw_M l G d mc ms M av h P' := by
  unfold tw_M Met at *
  refine MetFree.mono hM (fun _ _ q => q) (fun _ _ _ _ _ q => q) (fun a st o t _ q => ?_)
  obtain ⟨⟨r, h', q1, q2, q3⟩, q4⟩ := q
  exact ⟨⟨r, h', q1, hp r h' q2, q3⟩, q4⟩
/-- the reference's scratch for the worth of a pair: all else stays -/
def rk (I J : Nat → Int → Int) : Prop := ∀ b, b ≠ 72 → b ≠ 73 → J b = I b
theorem rk.rf {I : Nat → Int → Int} : rk I I := fun _ _ _ => rfl
theorem rk.trans {I J L : Nat → Int → Int} (h : rk I J) (g : rk J L) : rk I L := fun b a1 a2 => (g b a1 a2).trans (h b a1 a2)
theorem rk.s {I J : Nat → Int → Int} (h : rk I J) : J 70 = I 70 := h 70 (by decide) (by decide)
theorem rk.w {I J L : Nat → Int → Int} {a : Nat} {i x : Int} (h : rk I J) (ha : a = 72 ∨ a = 73) (e : L = uI J a i x) : rk I L := by
  subst e
  exact h.trans (fun b a1 a2 => uI_off _ _ _ (by omega))
/-- its scratch for the most of an hour -/
def rq (I J : Nat → Int → Int) : Prop := (∀ b, b ≠ 69 → b ≠ 72 → b ≠ 73 → J b = I b) ∧ ∀ k, k ≠ 11 → k ≠ 12 → k ≠ 13 → J 69 k = I 69 k
theorem rq.rf {I : Nat → Int → Int} : rq I I := ⟨fun _ _ _ _ => rfl, fun _ _ _ _ => rfl⟩
theorem rq.trans {I J L : Nat → Int → Int} (h : rq I J) (g : rq J L) : rq I L := ⟨fun b a1 a2 a3 => (g.1 b a1 a2 a3).trans (h.1 b a1 a2 a3), fun k a1 a2 a3 => (g.2 k a1 a2 a3).trans (h.2 k a1 a2 a3)⟩
theorem rq.s {I J : Nat → Int → Int} (h : rq I J) : J 70 = I 70 := h.1 70 (by decide) (by decide) (by decide)
theorem rk.q {I J : Nat → Int → Int} (h : rk I J) : rq I J := ⟨fun b _ a2 a3 => h b a2 a3, fun k _ _ _ => by rw [h 69 (by decide) (by decide)]⟩
theorem rq.w {I J L : Nat → Int → Int} {a : Nat} {i x : Int} (h : rq I J) (ha : a = 72 ∨ a = 73) (e : L = uI J a i x) : rq I L := by
  subst e
  exact h.trans ⟨fun b a1 a2 a3 => uI_off _ _ _ (by omega), fun k _ _ _ => by rw [uI_off _ _ _ (by omega)]⟩
theorem rq.f {I J L : Nat → Int → Int} {i x : Int} (h : rq I J) (hi : i = 11 ∨ i = 12 ∨ i = 13) (e : L = uI J 69 i x) : rq I L := by
  subst e
  exact h.trans ⟨fun b a1 a2 a3 => uI_off _ _ _ (by omega), fun k _ _ _ => by rw [uI_at, if_neg (by omega)]⟩
abbrev tw_R (l : Launch) (G : tG) (d : Nat) (M : tM) (av : List tV) (K : Nat → Nat × Nat) (I : Nat → Int → Int) (Q : Nat → Int → Option Nat) (n : Nat) (r0 : Option tV) : Prop := tw_M l G d 0 0 M av (K, I, Q, n) (fun r h' => r = r0 ∧ ∃ J, h' = (K, J, Q, n) ∧ rk I J)
abbrev tw_K (l : Launch) (G : tG) (d : Nat) (M : tM) (av : List tV) (K : Nat → Nat × Nat) (I : Nat → Int → Int) (Q : Nat → Int → Option Nat) (n : Nat) (r0 : Option tV) : Prop := tw_M l G d 0 0 M av (K, I, Q, n) (fun r h' => r = r0 ∧ ∃ J, h' = (K, J, Q, n) ∧ rq I J)
theorem tw_R.q {l : Launch} {G : tG} {d : Nat} {M : tM} {av : List tV} {K : Nat → Nat × Nat} {I : Nat → Int → Int} {Q : Nat → Int → Option Nat} {n : Nat} {r0 : Option tV} (h : tw_R l G d M av K I Q n r0) : tw_K l G d M av K I Q n r0 := tw_post h (fun r h' q => ⟨q.1, q.2.choose, q.2.choose_spec.1, q.2.choose_spec.2.q⟩)
section CR
variable {l : Launch} {G : tG} {M : tM} {d mc ms n0 c2 : Nat} {P : Option tV → tH → Prop} {ls : List (Nat × tV)} {st : List tV} {k pc nx tg : Nat} {K : Nat → Nat × Nat} {I : Nat → Int → Int} {Q : Nat → Int → Option Nat} {n : Nat}
theorem br_iads {a N : Nat} {i : Int} {s : Int → Int} (hd : M.2.2.2.2[k]? = some (pc, .iaload, nx, tg)) (hk : tK (K, I, Q, n) a (14, N)) (h1 : 0 ≤ i) (h2 : i < N) (hN : N < 2147483648) (hs : I a = s) (kk : tw_AW l G M d mc ms n0 c2 P nx ls (vi (s i) :: st) (K, I, Q, n)) : tw_AW l G M d mc ms n0 c2 P pc ls (vi i :: vr (some a) :: st) (K, I, Q, n) := br_iald hd hk h1 h2 hN (by subst hs; exact kk)
theorem br_iastJ {a N : Nat} {i x : Int} (hd : M.2.2.2.2[k]? = some (pc, .iastore, nx, tg)) (hk : tK (K, I, Q, n) a (14, N)) (h1 : 0 ≤ i) (h2 : i < N) (hN : N < 2147483648) (kk : ∀ J, J = uI I a i x → tw_AW l G M d mc ms n0 c2 P nx ls st (K, J, Q, n)) : tw_AW l G M d mc ms n0 c2 P pc ls (vi x :: vi i :: vr (some a) :: st) (K, I, Q, n) := br_iast hd hk h1 h2 hN (kk _ rfl)
theorem br_zastJ {a N : Nat} {i x : Int} (hd : M.2.2.2.2[k]? = some (pc, .bastore, nx, tg)) (hk : tK (K, I, Q, n) a (15, N)) (h1 : 0 ≤ i) (h2 : i < N) (hN : N < 2147483648) (hx : 0 ≤ x ∧ x ≤ 1) (kk : ∀ J, J = uI I a i x → tw_AW l G M d mc ms n0 c2 P nx ls st (K, J, Q, n)) : tw_AW l G M d mc ms n0 c2 P pc ls (vi x :: vi i :: vr (some a) :: st) (K, I, Q, n) := br_zast hd hk h1 h2 hN hx (kk _ rfl)
theorem br_putIJ {i ci N a kf : Nat} {x : Int} (hd : M.2.2.2.2[k]? = some (pc, .putfield i, nx, tg)) (hk : tK (K, I, Q, n) a (ci, N)) (hF : tw_FL M.1.cls i ci kf) (hN : kf < N) (hr : tRef ci kf = false) (hf : ∀ C T N, tCl[ci]? = some (C, T, N) → (T kf).2.2.2 = false ∧ parseFieldDescriptor (T kf).2.2.1 = some .int) (kk : ∀ J, J = uI I a kf x → tw_AW l G M d mc ms n0 c2 P nx ls st (K, J, Q, n)) : tw_AW l G M d mc ms n0 c2 P pc ls (vi x :: vr (some a) :: st) (K, I, Q, n) := br_putI hd hk hF hN hr hf (kk _ rfl)
theorem br_putZJ {i ci N a kf : Nat} {x : Int} (hd : M.2.2.2.2[k]? = some (pc, .putfield i, nx, tg)) (hk : tK (K, I, Q, n) a (ci, N)) (hF : tw_FL M.1.cls i ci kf) (hN : kf < N) (hr : tRef ci kf = false) (hx : 0 ≤ x ∧ x ≤ 1) (hf : ∀ C T N, tCl[ci]? = some (C, T, N) → (T kf).2.2.2 = false ∧ parseFieldDescriptor (T kf).2.2.1 = some .boolean) (kk : ∀ J, J = uI I a kf x → tw_AW l G M d mc ms n0 c2 P nx ls st (K, J, Q, n)) : tw_AW l G M d mc ms n0 c2 P pc ls (vi x :: vr (some a) :: st) (K, I, Q, n) := br_putZ hd hk hF hN hr hx hf (kk _ rfl)
theorem br_callVR {i d' n' : Nat} {M' : tM} {as : List tV} {r0 : Option tV} {a ci N : Nat} {C : String} {T : u_T} (hd : M.2.2.2.2[k]? = some (pc, .invokevirtual i, nx, tg)) (hw : tw_LV M.1.cls i M' C n') (hk : tK (K, I, Q, n) a (ci, N)) (hc : tCl[ci]? = some (C, T, N)) (hM : tw_R l G d' M' (vr (some a) :: as) K I Q n r0) (hn' : as.length = n') (hdd : d' + 1 ≤ d) (hL : M'.2.2.1 ≤ 45) (hm : n - n0 + 0 ≤ mc ∧ c2 + 0 ≤ ms) (hst : (st.map tw_w).sum ≤ 8) (kk : ∀ J, rk I J → tw_AW l G M d mc ms n0 c2 P nx ls (r0.toList ++ st) (K, J, Q, n)) : tw_AW l G M d mc ms n0 c2 P pc ls (as.reverse ++ vr (some a) :: st) (K, I, Q, n) := ar_callV hd hw hk hc hM hn' hdd hL hm hst (fun r h' hp => by obtain ⟨rfl, J, rfl, hJ⟩ := hp; exact kk J hJ)
theorem br_callVK {i d' n' : Nat} {M' : tM} {as : List tV} {r0 : Option tV} {a ci N : Nat} {C : String} {T : u_T} (hd : M.2.2.2.2[k]? = some (pc, .invokevirtual i, nx, tg)) (hw : tw_LV M.1.cls i M' C n') (hk : tK (K, I, Q, n) a (ci, N)) (hc : tCl[ci]? = some (C, T, N)) (hM : tw_K l G d' M' (vr (some a) :: as) K I Q n r0) (hn' : as.length = n') (hdd : d' + 1 ≤ d) (hL : M'.2.2.1 ≤ 45) (hm : n - n0 + 0 ≤ mc ∧ c2 + 0 ≤ ms) (hst : (st.map tw_w).sum ≤ 8) (kk : ∀ J, rq I J → tw_AW l G M d mc ms n0 c2 P nx ls (r0.toList ++ st) (K, J, Q, n)) : tw_AW l G M d mc ms n0 c2 P pc ls (as.reverse ++ vr (some a) :: st) (K, I, Q, n) := ar_callV hd hw hk hc hM hn' hdd hL hm hst (fun r h' hp => by obtain ⟨rfl, J, rfl, hJ⟩ := hp; exact kk J hJ)
theorem c_S_isPerson {s : Int → Int} {p : Int} (hS : tSt (K, I, Q, n)) (hs : I 70 = s) (hp : tr p) (h0 : 0 ≤ s 0 ∧ s 0 ≤ 8) : tw_F l G 2 0 0 mR_isPerson [vr (some 69), vi p] (K, I, Q, n) (some (vi (if 0 ≤ p ∧ p ≤ s 0 - 1 then 1 else 0))) (K, I, Q, n) := by subst hs; exact c_R_isPerson hS hp h0
theorem c_S_isTool {s : Int → Int} {p : Int} (hS : tSt (K, I, Q, n)) (hs : I 70 = s) (hp : tr p) (h1 : 0 ≤ s 1 ∧ s 1 ≤ 10) : tw_F l G 2 0 0 mR_isTool [vr (some 69), vi p] (K, I, Q, n) (some (vi (if 0 ≤ p ∧ p ≤ s 1 - 1 then 1 else 0))) (K, I, Q, n) := by subst hs; exact c_R_isTool hS hp h1
end CR
/-! the words of the questions, over the reference's numbers -/
def rBell (s : Int → Int) : Int := if (if s 6 = -1 then 6 else s (274 + s 6)) < 1 then 1 else (if s 6 = -1 then 6 else s (274 + s 6))
def rLess (s : Int → Int) (t : Int) : Int := if s (94 + t) < t then s (94 + t) else t
def rFree (s : Int → Int) (p u : Int) : Prop := bAnd (bShr (s (34 + p)) u) 1 = 1
def rFit (s : Int → Int) (p t : Int) : Prop := s (84 + t) = p ∧ s (104 + t) = 0 ∧ s (94 + t) ≠ -1
/-- what is tested -/
def rTst (b : Int → Int) (x : Int) : Bool := if x / 8 % 4 = 0 then decide (b (x % 8) < x / 32) else if x / 8 % 4 = 1 then decide (b (x % 8) = x / 32) else decide (b (x % 8) > x / 32)
/-- a step of a valley: a row of truths, a sum -/
def rStep (b : Int → Int) (x : Int) (q : List Bool × Int) : List Bool × Int :=
  if 0 ≤ x then (rTst b x :: q.1, q.2)
  else if x = -1 then (match q.1 with | y :: r => (!y) :: r | [] => [], q.2)
  else if -10 < x then (match q.1 with | z :: y :: r => (if x = -2 then y && z else y || z) :: r | r => r, q.2)
  else ([], q.2 + (if q.1.headD false = true then (if -200 < x then -10 - x else x + 200) else 0))
def rRun (b s : Int → Int) (f : Int) : Nat → List Bool × Int
  | 0 => ([], 0)
  | k + 1 => rStep b (s (f + (k : Int))) (rRun b s f k)
/-- how deep the row is behind a step; none: no step that can stand there -/
def rDeep (d : Nat) (x : Int) : Option Nat :=
  if 0 ≤ x then (if x % 8 ≤ 4 ∧ x / 8 % 4 ≤ 2 ∧ x ≤ 3188 ∧ d < 13 then some (d + 1) else none)
  else if x = -1 then (if 1 ≤ d then some d else none)
  else if x = -2 ∨ x = -3 then (if 2 ≤ d then some (d - 1) else none)
  else if (-109 ≤ x ∧ x ≤ -10) ∨ (-299 ≤ x ∧ x ≤ -200) then (if d = 1 then some 0 else none) else none
def rDeeps (s : Int → Int) (f : Int) : Nat → Option Nat
  | 0 => some 0
  | k + 1 => (rDeeps s f k).bind fun d => rDeep d (s (f + (k : Int)))
/-- the valleys are such that they can be gone through -/
def RVal (s : Int → Int) : Prop := ∀ a, 0 ≤ a → a < s 2 → rDeeps s (284 + 140 * a) (s (279 + a)).toNat = some 0
/-- the facts of a pair in an hour -/
def rBy (s : Int → Int) (t u : Int) : Int → Int := fun j => if j = 0 then u else if j = 1 then s (74 + rLess s t) else if j = 2 then rLess s t else if j = 3 then s (10 + s (84 + rLess s t)) else (if s (26 + s (84 + rLess s t)) = s (26 + s (84 + s (94 + rLess s t))) then 1 else 0)
def rWorth (s : Int → Int) (t u : Int) : Int := if s 6 = -1 then 0 else (rRun (rBy s t u) s (284 + 140 * s 6) (s (279 + s 6)).toNat).2
end
section
abbrev rFreeP (s : Int → Int) (p u : Int) : Prop := bAnd (bShr (s (34 + p)) u) 1 = 1
abbrev rFitP (s : Int → Int) (p t : Int) : Prop := s (84 + t) = p ∧ s (104 + t) = 0 ∧ s (94 + t) ≠ -1
/-- the first place from j on, of k places, where it holds; else d -/
def fstD (d : Int) (p : Nat → Bool) : Nat → Nat → Int
  | 0, _ => d
  | k + 1, j => if p j = true then (j : Int) else fstD d p k (j + 1)
def rLeast (s : Int → Int) (p : Int) : Int := fstD (-1) (fun t => decide (rFitP s p t)) (s 1).toNat 0
def rHome (s : Int → Int) (p : Int) : Int := fstD (rLeast s p) (fun t => decide (rFitP s p t ∧ s (26 + s (84 + s (94 + (t : Int)))) = s (26 + p))) (s 1).toNat 0
theorem bAnd1 (x : Int) : 0 ≤ bAnd x 1 ∧ bAnd x 1 ≤ 1 := by
  unfold bAnd
  have h : ∀ y : BitVec 32, 0 ≤ (y &&& 1#32).toInt ∧ (y &&& 1#32).toInt ≤ 1 := by
    intro y
    have e : (y &&& 1#32).toNat = y.toNat % 2 := by
      rw [BitVec.toNat_and]
      exact Nat.and_one_is_mod _
    have h2 : (y &&& 1#32).toNat < 2 := by rw [e]; omega
    rw [BitVec.toInt_eq_toNat_of_lt (by omega)]
    omega
  exact h _
section RC
variable {l : Launch} {G : tG} {K : Nat → Nat × Nat} {I : Nat → Int → Int} {Q : Nat → Int → Option Nat} {n : Nat} {s : Int → Int}
theorem c_R_bell (hS : tSt (K, I, Q, n)) (hs : I 70 = s) (hR : RInv s) : tw_F l G 1 0 0 mR_bell [vr (some 69)] (K, I, Q, n) (some (vi (rBell s))) (K, I, Q, n) := by
  obtain ⟨h0, h1, h2, h3, h4, h5, h6, hp, hrw, ht, hr, hb, htp, hv⟩ := id hR
  refine tw_intro okR_bell (Nat.le_of_ble_eq_true rfl) ?_
  refine ar_aloadn (k := 0) rfl rfl ?_
  refine br_getR (k := 1) rfl (hS.k (by decide)) flR_9_12 (by decide) rfl (hS.r rfl) ?_
  refine ar_bipush (k := 2) rfl (by decide) ?_
  refine br_iads (k := 3) rfl (hS.k (by decide)) (by omega) (by omega) (by decide) hs ?_
  refine ar_iconst (k := 4) rfl ?_
  refine ar_icmp_ne (k := 5) rfl (by omega) (by omega) (fun c5 => ?_) (fun c5 => ?_)
  · have hw := hv (s 6) (by omega) (by omega)
    refine ar_aloadn (k := 8) rfl rfl ?_
    refine br_getR (k := 9) rfl (hS.k (by decide)) flR_9_12 (by decide) rfl (hS.r rfl) ?_
    refine ar_sipush (k := 10) rfl (by decide) ?_
    refine ar_aloadn (k := 11) rfl rfl ?_
    refine br_getR (k := 12) rfl (hS.k (by decide)) flR_9_12 (by decide) rfl (hS.r rfl) ?_
    refine ar_bipush (k := 13) rfl (by decide) ?_
    refine br_iads (k := 14) rfl (hS.k (by decide)) (by omega) (by omega) (by decide) hs ?_
    refine ar_iadd (k := 15) rfl ?_
    refine br_iads (k := 16) rfl (hS.k (by decide)) (by omega) (by omega) (by decide) hs ?_
    refine ar_istoren (k := 17) (l2 := [(1, _), (0, _)]) rfl (by decide) rfl ?_
    refine ar_iloadn (k := 18) rfl rfl ?_
    refine ar_iconst (k := 19) rfl ?_
    refine ar_icmp_ge (k := 20) rfl (by omega) (by omega) (fun c20 => ?_) (fun c20 => ?_)
    · refine ar_iloadn (k := 23) rfl rfl ?_
      refine ar_iret (k := 24) rfl rfl rfl (Nat.le_refl _) ?_
      exact ⟨congrArg (fun z => some (vi z)) (by unfold rBell; omega), rfl⟩
    · refine ar_iconst (k := 21) rfl ?_
      refine ar_goto (k := 22) rfl ?_
      refine ar_iret (k := 24) rfl rfl rfl (Nat.le_refl _) ?_
      exact ⟨congrArg (fun z => some (vi z)) (by unfold rBell; omega), rfl⟩
  · refine ar_bipush (k := 6) rfl (by decide) ?_
    refine ar_goto (k := 7) rfl ?_
    refine ar_istoren (k := 17) (l2 := [(1, _), (0, _)]) rfl (by decide) rfl ?_
    refine ar_iloadn (k := 18) rfl rfl ?_
    refine ar_iconst (k := 19) rfl ?_
    refine ar_icmp_ge (k := 20) rfl (by omega) (by omega) (fun c20 => ?_) (fun c20 => ?_)
    · refine ar_iloadn (k := 23) rfl rfl ?_
      refine ar_iret (k := 24) rfl rfl rfl (Nat.le_refl _) ?_
      exact ⟨congrArg (fun z => some (vi z)) (by unfold rBell; omega), rfl⟩
    · refine ar_iconst (k := 21) rfl ?_
      refine ar_goto (k := 22) rfl ?_
      refine ar_iret (k := 24) rfl rfl rfl (Nat.le_refl _) ?_
      exact ⟨congrArg (fun z => some (vi z)) (by unfold rBell; omega), rfl⟩
theorem c_R_lesser {t : Int} (hS : tSt (K, I, Q, n)) (hs : I 70 = s) (hR : RInv s) (t1 : 0 ≤ t ∧ t < s 1) : tw_F l G 1 0 0 mR_lesser [vr (some 69), vi t] (K, I, Q, n) (some (vi (rLess s t))) (K, I, Q, n) := by
  obtain ⟨h0, h1, h2, h3, h4, h5, h6, hp, hrw, ht, hr, hb, htp, hv⟩ := id hR
  have hw := ht t (by omega) (by omega)
  refine tw_intro okR_lesser (Nat.le_of_ble_eq_true rfl) ?_
  refine ar_aloadn (k := 0) rfl rfl ?_
  refine br_getR (k := 1) rfl (hS.k (by decide)) flR_9_12 (by decide) rfl (hS.r rfl) ?_
  refine ar_bipush (k := 2) rfl (by decide) ?_
  refine ar_iloadn (k := 3) rfl rfl ?_
  refine ar_iadd (k := 4) rfl ?_
  refine br_iads (k := 5) rfl (hS.k (by decide)) (by omega) (by omega) (by decide) hs ?_
  refine ar_iloadn (k := 6) rfl rfl ?_
  refine ar_icmp_ge (k := 7) rfl (by omega) (by omega) (fun c7 => ?_) (fun c7 => ?_)
  · refine ar_iloadn (k := 15) rfl rfl ?_
    refine ar_iret (k := 16) rfl rfl rfl (Nat.le_refl _) ?_
    exact ⟨congrArg (fun z => some (vi z)) (by unfold rLess; omega), rfl⟩
  · refine ar_aloadn (k := 8) rfl rfl ?_
    refine br_getR (k := 9) rfl (hS.k (by decide)) flR_9_12 (by decide) rfl (hS.r rfl) ?_
    refine ar_bipush (k := 10) rfl (by decide) ?_
    refine ar_iloadn (k := 11) rfl rfl ?_
    refine ar_iadd (k := 12) rfl ?_
    refine br_iads (k := 13) rfl (hS.k (by decide)) (by omega) (by omega) (by decide) hs ?_
    refine ar_goto (k := 14) rfl ?_
    refine ar_iret (k := 16) rfl rfl rfl (Nat.le_refl _) ?_
    exact ⟨congrArg (fun z => some (vi z)) (by unfold rLess; omega), rfl⟩
theorem c_R_isFree {p u : Int} (hS : tSt (K, I, Q, n)) (hs : I 70 = s) (hR : RInv s) (p1 : 0 ≤ p ∧ p < 8) : tw_F l G 1 0 0 mR_isFree [vr (some 69), vi p, vi u] (K, I, Q, n) (some (vi (if rFreeP s p u then 1 else 0))) (K, I, Q, n) := by
  obtain ⟨h0, h1, h2, h3, h4, h5, h6, hp, hrw, ht, hr, hb, htp, hv⟩ := id hR
  have hw := bAnd1 (bShr (s (34 + p)) u)
  refine tw_intro okR_isFree (Nat.le_of_ble_eq_true rfl) ?_
  refine ar_aloadn (k := 0) rfl rfl ?_
  refine br_getR (k := 1) rfl (hS.k (by decide)) flR_9_12 (by decide) rfl (hS.r rfl) ?_
  refine ar_bipush (k := 2) rfl (by decide) ?_
  refine ar_iloadn (k := 3) rfl rfl ?_
  refine ar_iadd (k := 4) rfl ?_
  refine br_iads (k := 5) rfl (hS.k (by decide)) (by omega) (by omega) (by decide) hs ?_
  refine ar_iloadn (k := 6) rfl rfl ?_
  refine ar_ishr (k := 7) rfl ?_
  refine ar_iconst (k := 8) rfl ?_
  refine ar_iand (k := 9) rfl ?_
  refine ar_iconst (k := 10) rfl ?_
  refine ar_icmp_ne (k := 11) rfl (by omega) (by omega) (fun c11 => ?_) (fun c11 => ?_)
  · refine ar_iconst (k := 14) rfl ?_
    refine ar_zret (k := 15) rfl rfl (by omega) rfl (Nat.le_refl _) ?_
    exact ⟨congrArg (fun z => some (vi z)) (by omega), rfl⟩
  · refine ar_iconst (k := 12) rfl ?_
    refine ar_goto (k := 13) rfl ?_
    refine ar_zret (k := 15) rfl rfl (by omega) rfl (Nat.le_refl _) ?_
    exact ⟨congrArg (fun z => some (vi z)) (by omega), rfl⟩
theorem c_R_isFit {p t : Int} (hS : tSt (K, I, Q, n)) (hs : I 70 = s) (hR : RInv s) (p1 : tr p) (t1 : 0 ≤ t ∧ t < s 1) : tw_F l G 1 0 0 mR_isFit [vr (some 69), vi p, vi t] (K, I, Q, n) (some (vi (if rFitP s p t then 1 else 0))) (K, I, Q, n) := by
  obtain ⟨h0, h1, h2, h3, h4, h5, h6, hp, hrw, ht, hr, hb, htp, hv⟩ := id hR
  have hw := ht t (by omega) (by omega)
  refine tw_intro okR_isFit (Nat.le_of_ble_eq_true rfl) ?_
  refine ar_aloadn (k := 0) rfl rfl ?_
  refine br_getR (k := 1) rfl (hS.k (by decide)) flR_9_12 (by decide) rfl (hS.r rfl) ?_
  refine ar_bipush (k := 2) rfl (by decide) ?_
  refine ar_iloadn (k := 3) rfl rfl ?_
  refine ar_iadd (k := 4) rfl ?_
  refine br_iads (k := 5) rfl (hS.k (by decide)) (by omega) (by omega) (by decide) hs ?_
  refine ar_iloadn (k := 6) rfl rfl ?_
  refine ar_icmp_ne (k := 7) rfl (by omega) (by omega) (fun c7 => ?_) (fun c7 => ?_)
  · refine ar_iconst (k := 25) rfl ?_
    refine ar_zret (k := 26) rfl rfl (by omega) rfl (Nat.le_refl _) ?_
    exact ⟨congrArg (fun z => some (vi z)) (by omega), rfl⟩
  · refine ar_aloadn (k := 8) rfl rfl ?_
    refine br_getR (k := 9) rfl (hS.k (by decide)) flR_9_12 (by decide) rfl (hS.r rfl) ?_
    refine ar_bipush (k := 10) rfl (by decide) ?_
    refine ar_iloadn (k := 11) rfl rfl ?_
    refine ar_iadd (k := 12) rfl ?_
    refine br_iads (k := 13) rfl (hS.k (by decide)) (by omega) (by omega) (by decide) hs ?_
    refine ar_if_ne (k := 14) rfl (by omega) (fun c14 => ?_) (fun c14 => ?_)
    · refine ar_iconst (k := 25) rfl ?_
      refine ar_zret (k := 26) rfl rfl (by omega) rfl (Nat.le_refl _) ?_
      exact ⟨congrArg (fun z => some (vi z)) (by omega), rfl⟩
    · refine ar_aloadn (k := 15) rfl rfl ?_
      refine br_getR (k := 16) rfl (hS.k (by decide)) flR_9_12 (by decide) rfl (hS.r rfl) ?_
      refine ar_bipush (k := 17) rfl (by decide) ?_
      refine ar_iloadn (k := 18) rfl rfl ?_
      refine ar_iadd (k := 19) rfl ?_
      refine br_iads (k := 20) rfl (hS.k (by decide)) (by omega) (by omega) (by decide) hs ?_
      refine ar_iconst (k := 21) rfl ?_
      refine ar_icmp_eq (k := 22) rfl (by omega) (by omega) (fun c22 => ?_) (fun c22 => ?_)
      · refine ar_iconst (k := 25) rfl ?_
        refine ar_zret (k := 26) rfl rfl (by omega) rfl (Nat.le_refl _) ?_
        exact ⟨congrArg (fun z => some (vi z)) (by omega), rfl⟩
      · refine ar_iconst (k := 23) rfl ?_
        refine ar_goto (k := 24) rfl ?_
        refine ar_zret (k := 26) rfl rfl (by omega) rfl (Nat.le_refl _) ?_
        exact ⟨congrArg (fun z => some (vi z)) (by omega), rfl⟩
theorem l_R_atLeast {p : Int} (hS : tSt (K, I, Q, n)) (hs : I 70 = s) (hR : RInv s) (p1 : 0 ≤ p ∧ p < 8) : ∀ (k : Nat) (j : Nat), j + k = (s 1).toNat → tw_AW l G mR_atLeast 2 0 0 n 0 (tw_fn (some (vi (fstD (-1) (fun t => decide (rFitP s p t)) k j))) (K, I, Q, n)) 2 [(2, vi (j : Int)), (0, vr (some 69)), (1, vi p)] [] (K, I, Q, n) := by
  obtain ⟨h0, h1, h2, h3, h4, h5, h6, hp, hrw, ht, hr, hb, htp, hv⟩ := id hR
  intro k
  induction k with
  | zero =>
    intro j hj
    refine ar_iloadn (k := 2) rfl rfl ?_
    refine ar_aloadn (k := 3) rfl rfl ?_
    refine br_getR (k := 4) rfl (hS.k (by decide)) flR_9_12 (by decide) rfl (hS.r rfl) ?_
    refine ar_iconst (k := 5) rfl ?_
    refine br_iads (k := 6) rfl (hS.k (by decide)) (by omega) (by omega) (by decide) hs ?_
    refine ar_icmp_ge (k := 7) rfl (by omega) (by omega) (fun c7 => ?_) (fun c7 => ?_)
    · refine ar_iconst (k := 17) rfl ?_
      refine ar_iret (k := 18) rfl rfl rfl (Nat.le_refl _) ?_
      exact ⟨rfl, rfl⟩
    · exfalso; omega
  | succ k ih =>
    intro j hj
    refine ar_iloadn (k := 2) rfl rfl ?_
    refine ar_aloadn (k := 3) rfl rfl ?_
    refine br_getR (k := 4) rfl (hS.k (by decide)) flR_9_12 (by decide) rfl (hS.r rfl) ?_
    refine ar_iconst (k := 5) rfl ?_
    refine br_iads (k := 6) rfl (hS.k (by decide)) (by omega) (by omega) (by decide) hs ?_
    refine ar_icmp_ge (k := 7) rfl (by omega) (by omega) (fun c7 => ?_) (fun c7 => ?_)
    · exfalso; omega
    · refine ar_aloadn (k := 8) rfl rfl ?_
      refine ar_iloadn (k := 9) rfl rfl ?_
      refine ar_iloadn (k := 10) rfl rfl ?_
      refine br_callV (k := 11) (as := [_, _]) rfl lvR_137 (hS.k (by decide)) rfl (c_R_isFit hS hs hR (by omega) (by omega)) rfl (by decide) (by decide) tw_m0 (Nat.le_of_ble_eq_true rfl) ?_
      refine ar_if_eq (k := 12) rfl (by omega) (fun c12 => ?_) (fun c12 => ?_)
      · refine ar_iinc (k := 15) (l2 := [(2, _), (0, _), (1, _)]) rfl (by decide) rfl rfl ?_
        refine ar_goto (k := 16) rfl ?_
        refine ar_sub (l2 := [(2, vi ((j + 1 : Nat) : Int)), (0, vr (some 69)), (1, vi p)]) (tw_s (tw_e 0 rfl (by omega)) (tw_s (tw_g 1 rfl) (tw_s (tw_g 2 rfl) tw_s0))) ?_
        have e : fstD (-1) (fun t => decide (rFitP s p t)) (k + 1) j = fstD (-1) (fun t => decide (rFitP s p t)) k (j + 1) := by
          rw [fstD, if_neg (by simp only [decide_eq_true_eq]; omega)]
        rw [e]
        exact ih (j + 1) (by omega)
      · refine ar_iloadn (k := 13) rfl rfl ?_
        refine ar_iret (k := 14) rfl rfl rfl (Nat.le_refl _) ?_
        refine ⟨congrArg (fun z => some (vi z)) ?_, rfl⟩
        rw [fstD, if_pos (by simp only [decide_eq_true_eq]; omega)]
theorem c_R_atLeast {p : Int} (hS : tSt (K, I, Q, n)) (hs : I 70 = s) (hR : RInv s) (p1 : 0 ≤ p ∧ p < 8) : tw_F l G 2 0 0 mR_atLeast [vr (some 69), vi p] (K, I, Q, n) (some (vi (rLeast s p))) (K, I, Q, n) := by
  refine tw_intro okR_atLeast (Nat.le_of_ble_eq_true rfl) ?_
  refine ar_iconst (k := 0) rfl ?_
  refine ar_istoren (k := 1) (l2 := [(2, _), (0, _), (1, _)]) rfl (by decide) rfl ?_
  refine ar_sub (l2 := [(2, vi ((0 : Nat) : Int)), (0, vr (some 69)), (1, vi p)]) (tw_s (tw_e 0 rfl (by rfl)) (tw_s (tw_g 1 rfl) (tw_s (tw_g 2 rfl) tw_s0))) ?_
  exact l_R_atLeast hS hs hR p1 _ 0 (by omega)
theorem l_R_atHome {p : Int} (hS : tSt (K, I, Q, n)) (hs : I 70 = s) (hR : RInv s) (p1 : 0 ≤ p ∧ p < 8) : ∀ (k : Nat) (j : Nat), j + k = (s 1).toNat → tw_AW l G mR_atHome 3 0 0 n 0 (tw_fn (some (vi (fstD (rLeast s p) (fun t => decide (rFitP s p t ∧ s (26 + s (84 + s (94 + (t : Int)))) = s (26 + p))) k j))) (K, I, Q, n)) 2 [(2, vi (j : Int)), (0, vr (some 69)), (1, vi p)] [] (K, I, Q, n) := by
  obtain ⟨h0, h1, h2, h3, h4, h5, h6, hp, hrw, ht, hr, hb, htp, hv⟩ := id hR
  intro k
  induction k with
  | zero =>
    intro j hj
    refine ar_iloadn (k := 2) rfl rfl ?_
    refine ar_aloadn (k := 3) rfl rfl ?_
    refine br_getR (k := 4) rfl (hS.k (by decide)) flR_9_12 (by decide) rfl (hS.r rfl) ?_
    refine ar_iconst (k := 5) rfl ?_
    refine br_iads (k := 6) rfl (hS.k (by decide)) (by omega) (by omega) (by decide) hs ?_
    refine ar_icmp_ge (k := 7) rfl (by omega) (by omega) (fun c7 => ?_) (fun c7 => ?_)
    · refine ar_aloadn (k := 40) rfl rfl ?_
      refine ar_iloadn (k := 41) rfl rfl ?_
      refine br_callV (k := 42) (as := [_]) rfl lvR_144 (hS.k (by decide)) rfl (c_R_atLeast hS hs hR p1) rfl (by decide) (by decide) tw_m0 (Nat.le_of_ble_eq_true rfl) ?_
      refine ar_iret (k := 43) rfl rfl rfl (Nat.le_refl _) ?_
      exact ⟨rfl, rfl⟩
    · exfalso; omega
  | succ k ih =>
    intro j hj
    refine ar_iloadn (k := 2) rfl rfl ?_
    refine ar_aloadn (k := 3) rfl rfl ?_
    refine br_getR (k := 4) rfl (hS.k (by decide)) flR_9_12 (by decide) rfl (hS.r rfl) ?_
    refine ar_iconst (k := 5) rfl ?_
    refine br_iads (k := 6) rfl (hS.k (by decide)) (by omega) (by omega) (by decide) hs ?_
    refine ar_icmp_ge (k := 7) rfl (by omega) (by omega) (fun c7 => ?_) (fun c7 => ?_)
    · exfalso; omega
    · refine ar_aloadn (k := 8) rfl rfl ?_
      refine ar_iloadn (k := 9) rfl rfl ?_
      refine ar_iloadn (k := 10) rfl rfl ?_
      refine br_callV (k := 11) (as := [_, _]) rfl lvR_137 (hS.k (by decide)) rfl (c_R_isFit hS hs hR (by omega) (by omega)) rfl (by decide) (by decide) tw_m0 (Nat.le_of_ble_eq_true rfl) ?_
      refine ar_if_eq (k := 12) rfl (by omega) (fun c12 => ?_) (fun c12 => ?_)
      · refine ar_iinc (k := 38) (l2 := [(2, _), (0, _), (1, _)]) rfl (by decide) rfl rfl ?_
        refine ar_goto (k := 39) rfl ?_
        refine ar_sub (l2 := [(2, vi ((j + 1 : Nat) : Int)), (0, vr (some 69)), (1, vi p)]) (tw_s (tw_e 0 rfl (by omega)) (tw_s (tw_g 1 rfl) (tw_s (tw_g 2 rfl) tw_s0))) ?_
        have e : fstD (rLeast s p) (fun t => decide (rFitP s p t ∧ s (26 + s (84 + s (94 + (t : Int)))) = s (26 + p))) (k + 1) j = fstD (rLeast s p) (fun t => decide (rFitP s p t ∧ s (26 + s (84 + s (94 + (t : Int)))) = s (26 + p))) k (j + 1) := by
          rw [fstD, if_neg (by simp only [decide_eq_true_eq]; omega)]
        rw [e]
        exact ih (j + 1) (by omega)
      · have hw := ht j (by omega) (by omega)
        have hw2 := ht (s (94 + (j : Int))) (by omega) (by omega)
        have hw3 := hp (s (84 + s (94 + (j : Int)))) (by omega) (by omega)
        have hw4 := hp p (by omega) (by omega)
        refine ar_aloadn (k := 13) rfl rfl ?_
        refine br_getR (k := 14) rfl (hS.k (by decide)) flR_9_12 (by decide) rfl (hS.r rfl) ?_
        refine ar_bipush (k := 15) rfl (by decide) ?_
        refine ar_aloadn (k := 16) rfl rfl ?_
        refine br_getR (k := 17) rfl (hS.k (by decide)) flR_9_12 (by decide) rfl (hS.r rfl) ?_
        refine ar_bipush (k := 18) rfl (by decide) ?_
        refine ar_aloadn (k := 19) rfl rfl ?_
        refine br_getR (k := 20) rfl (hS.k (by decide)) flR_9_12 (by decide) rfl (hS.r rfl) ?_
        refine ar_bipush (k := 21) rfl (by decide) ?_
        refine ar_iloadn (k := 22) rfl rfl ?_
        refine ar_iadd (k := 23) rfl ?_
        refine br_iads (k := 24) rfl (hS.k (by decide)) (by omega) (by omega) (by decide) hs ?_
        refine ar_iadd (k := 25) rfl ?_
        refine br_iads (k := 26) rfl (hS.k (by decide)) (by omega) (by omega) (by decide) hs ?_
        refine ar_iadd (k := 27) rfl ?_
        refine br_iads (k := 28) rfl (hS.k (by decide)) (by omega) (by omega) (by decide) hs ?_
        refine ar_aloadn (k := 29) rfl rfl ?_
        refine br_getR (k := 30) rfl (hS.k (by decide)) flR_9_12 (by decide) rfl (hS.r rfl) ?_
        refine ar_bipush (k := 31) rfl (by decide) ?_
        refine ar_iloadn (k := 32) rfl rfl ?_
        refine ar_iadd (k := 33) rfl ?_
        refine br_iads (k := 34) rfl (hS.k (by decide)) (by omega) (by omega) (by decide) hs ?_
        refine ar_icmp_ne (k := 35) rfl (by omega) (by omega) (fun c35 => ?_) (fun c35 => ?_)
        · refine ar_iinc (k := 38) (l2 := [(2, _), (0, _), (1, _)]) rfl (by decide) rfl rfl ?_
          refine ar_goto (k := 39) rfl ?_
          refine ar_sub (l2 := [(2, vi ((j + 1 : Nat) : Int)), (0, vr (some 69)), (1, vi p)]) (tw_s (tw_e 0 rfl (by omega)) (tw_s (tw_g 1 rfl) (tw_s (tw_g 2 rfl) tw_s0))) ?_
          have e : fstD (rLeast s p) (fun t => decide (rFitP s p t ∧ s (26 + s (84 + s (94 + (t : Int)))) = s (26 + p))) (k + 1) j = fstD (rLeast s p) (fun t => decide (rFitP s p t ∧ s (26 + s (84 + s (94 + (t : Int)))) = s (26 + p))) k (j + 1) := by
            rw [fstD, if_neg (by simp only [decide_eq_true_eq]; omega)]
          rw [e]
          exact ih (j + 1) (by omega)
        · refine ar_iloadn (k := 36) rfl rfl ?_
          refine ar_iret (k := 37) rfl rfl rfl (Nat.le_refl _) ?_
          refine ⟨congrArg (fun z => some (vi z)) ?_, rfl⟩
          rw [fstD, if_pos (by simp only [decide_eq_true_eq]; omega)]
theorem c_R_atHome {p : Int} (hS : tSt (K, I, Q, n)) (hs : I 70 = s) (hR : RInv s) (p1 : 0 ≤ p ∧ p < 8) : tw_F l G 3 0 0 mR_atHome [vr (some 69), vi p] (K, I, Q, n) (some (vi (rHome s p))) (K, I, Q, n) := by
  refine tw_intro okR_atHome (Nat.le_of_ble_eq_true rfl) ?_
  refine ar_iconst (k := 0) rfl ?_
  refine ar_istoren (k := 1) (l2 := [(2, _), (0, _), (1, _)]) rfl (by decide) rfl ?_
  refine ar_sub (l2 := [(2, vi ((0 : Nat) : Int)), (0, vr (some 69)), (1, vi p)]) (tw_s (tw_e 0 rfl (by rfl)) (tw_s (tw_g 1 rfl) (tw_s (tw_g 2 rfl) tw_s0))) ?_
  exact l_R_atHome hS hs hR p1 _ 0 (by omega)
end RC
end
section
/-- the row of truths, as the array holds it -/
def trs (g : Int → Int) : List Bool → Prop
  | [] => True
  | y :: r => g (r.length : Int) = (if y = true then 1 else 0) ∧ trs g r
theorem trs_up {g : Int → Int} {i v : Int} : ∀ {r : List Bool}, trs g r → (r.length : Int) ≤ i → trs (up g i v) r
  | [], _, _ => trivial
  | y :: r, h, hi => ⟨by rw [up_ne _ _ (by simp only [List.length_cons] at hi; omega)]; exact h.1, trs_up h.2 (by simp only [List.length_cons] at hi; omega)⟩
theorem rDeep_t {d d' : Nat} {x : Int} (h : rDeep d x = some d') (hx : 0 ≤ x) : x % 8 ≤ 4 ∧ x / 8 % 4 ≤ 2 ∧ x ≤ 3188 ∧ d < 13 ∧ d' = d + 1 := by
  rw [rDeep, if_pos hx] at h
  split at h
  · cases h; omega
  · cases h
theorem rDeep_n {d d' : Nat} {x : Int} (h : rDeep d x = some d') (hx : x = -1) : 1 ≤ d ∧ d' = d := by
  rw [rDeep, if_neg (by omega), if_pos hx] at h
  split at h
  · cases h; omega
  · cases h
theorem rDeep_b {d d' : Nat} {x : Int} (h : rDeep d x = some d') (hx : x < 0) (h1 : x ≠ -1) (h2 : -10 < x) : (x = -2 ∨ x = -3) ∧ 2 ≤ d ∧ d' = d - 1 := by
  rw [rDeep, if_neg (by omega), if_neg h1] at h
  split at h
  · split at h
    · cases h; omega
    · cases h
  · split at h
    · omega
    · cases h
theorem rDeep_c {d d' : Nat} {x : Int} (h : rDeep d x = some d') (h2 : x ≤ -10) : d = 1 ∧ d' = 0 ∧ -299 ≤ x ∧ (-109 ≤ x ∨ x ≤ -200) := by
  rw [rDeep, if_neg (by omega), if_neg (by omega), if_neg (by omega)] at h
  split at h
  · split at h
    · cases h; omega
    · cases h
  · cases h
theorem rDeeps_lt {s : Int → Int} {f : Int} {j : Nat} : ∀ (m : Nat) {d : Nat}, rDeeps s f (j + 1 + m) = some d → ∃ d0 d1, rDeeps s f j = some d0 ∧ rDeep d0 (s (f + (j : Int))) = some d1
  | 0, d, h => by
    rw [Nat.add_zero, rDeeps] at h
    cases h0 : rDeeps s f j with
    | none => rw [h0] at h; cases h
    | some d0 => rw [h0] at h; exact ⟨d0, d, rfl, h⟩
  | m + 1, d, h => by
    rw [show j + 1 + (m + 1) = (j + 1 + m) + 1 by omega, rDeeps] at h
    cases h0 : rDeeps s f (j + 1 + m) with
    | none => rw [h0] at h; cases h
    | some d0 => exact rDeeps_lt m h0
theorem trs_1 {J L : Nat → Int → Int} {stk : List Bool} {i v : Int} (h : trs (J 73) stk) (e : L = uI J 73 i v) (hi : (stk.length : Int) ≤ i) : trs (L 73) stk := by
  subst e
  rw [uI_set, setA_at]
  exact trs_up h hi
theorem ot_1 {J L : Nat → Int → Int} {i v : Int} {a : Nat} (e : L = uI J a i v) {b : Nat} (hb : b ≠ a) : L b = J b := by rw [e, uI_off _ _ _ hb]
section RD
variable {l : Launch} {G : tG} {K : Nat → Nat × Nat} {I : Nat → Int → Int} {Q : Nat → Int → Option Nat} {n : Nat} {s : Int → Int}
theorem l_R_worthOf {b : Int → Int} {f t u a2 b2 : Int} {many : Nat} (hS : tSt (K, I, Q, n)) (hR : RInv s) (hf : (many ≠ 0 → 284 ≤ f) ∧ -1000 ≤ f ∧ f ≤ 1000 ∧ f + many ≤ 984) (hW : rDeeps s f many = some 0) (hb5 : ∀ i, 0 ≤ i → i ≤ 4 → -1000 ≤ b i ∧ b i ≤ 1000) : ∀ (k : Nat) (j : Nat) (J : Nat → Int → Int) (stk : List Bool) (sm : Int), j + k = many → J 70 = s → rk I J → (∀ i, 0 ≤ i → i ≤ 4 → J 72 i = b i) → rRun b s f j = (stk, sm) → rDeeps s f j = some stk.length → trs (J 73) stk → (-300 * (j : Int) ≤ sm ∧ sm ≤ 300 * (j : Int)) → stk.length ≤ 13 → tw_AW l G mR_worthOf 2 0 0 n 0 (fun r h' => r = some (vi (rRun b s f many).2) ∧ ∃ L, h' = (K, L, Q, n) ∧ rk I L) 178 [(9, vi (f + (j : Int))), (8, vi (stk.length : Int)), (7, vi f), (6, vi (many : Int)), (5, vi sm), (4, vi b2), (3, vi a2), (0, vr (some 69)), (1, vi t), (2, vi u)] [] (K, J, Q, n) := by
  obtain ⟨h0, h1, h2, h3, h4, h5, h6, hp, hrw, ht, hr, hb, htp, hv⟩ := id hR
  intro k
  induction k with
  | zero =>
    intro j J stk sm hj hs hk hby hrun hdep htr hsm hln
    refine ar_iload (k := 109) rfl rfl ?_
    refine ar_iload (k := 110) rfl rfl ?_
    refine ar_iload (k := 111) rfl rfl ?_
    refine ar_iadd (k := 112) rfl ?_
    refine ar_icmp_ge (k := 113) rfl (by omega) (by omega) (fun c113 => ?_) (fun c113 => ?_)
    · refine ar_iload (k := 258) rfl rfl ?_
      refine ar_iret (k := 259) rfl rfl rfl (Nat.le_refl _) ?_
      rw [show many = j by omega, hrun]
      exact ⟨rfl, J, rfl, hk⟩
    · exfalso; omega
  | succ k ih =>
    intro j J stk sm hj hs hk hby hrun hdep htr hsm hln
    refine ar_iload (k := 109) rfl rfl ?_
    refine ar_iload (k := 110) rfl rfl ?_
    refine ar_iload (k := 111) rfl rfl ?_
    refine ar_iadd (k := 112) rfl ?_
    refine ar_icmp_ge (k := 113) rfl (by omega) (by omega) (fun c113 => ?_) (fun c113 => ?_)
    · exfalso; omega
    · obtain ⟨d0, d1, hd0, hD⟩ := rDeeps_lt (s := s) (f := f) (j := j) k (d := 0) (by rw [show j + 1 + k = many by omega]; exact hW)
      obtain ⟨x, hx⟩ : ∃ x, s (f + (j : Int)) = x := ⟨_, rfl⟩
      rw [hdep] at hd0
      obtain rfl := Option.some.inj hd0
      rw [hx] at hD
      have hxr : -299 ≤ x ∧ x ≤ 3188 := by
        by_cases g1 : 0 ≤ x
        · have := rDeep_t hD g1; omega
        · by_cases g2 : x ≤ -10
          · have := rDeep_c hD g2; omega
          · omega
      refine ar_aloadn (k := 114) rfl rfl ?_
      refine br_getR (k := 115) rfl (hS.k (by decide)) flR_9_12 (by decide) rfl (hS.r rfl) ?_
      refine ar_iload (k := 116) rfl rfl ?_
      refine br_iads (k := 117) rfl (hS.k (by decide)) (by omega) (by omega) (by decide) hs ?_
      refine tw_top (y := x) (by exact hx) ?_
      refine ar_istore (k := 118) (l2 := [(10, _), (9, _), (8, _), (7, _), (6, _), (5, _), (4, _), (3, _), (0, _), (1, _), (2, _)]) rfl (by decide) rfl ?_
      refine ar_iload (k := 119) rfl rfl ?_
      refine ar_if_lt (k := 120) rfl (by omega) (fun c120 => ?_) (fun c120 => ?_)
      · refine ar_iload (k := 169) rfl rfl ?_
        refine ar_iconst (k := 170) rfl ?_
        refine ar_icmp_ne (k := 171) rfl (by omega) (by omega) (fun c171 => ?_) (fun c171 => ?_)
        · refine ar_iload (k := 189) rfl rfl ?_
          refine ar_bipush (k := 190) rfl (by decide) ?_
          refine ar_icmp_le (k := 191) rfl (by omega) (by omega) (fun c191 => ?_) (fun c191 => ?_)
          · have hT := rDeep_c hD (by omega)
            obtain ⟨y, rfl⟩ : ∃ y, stk = [y] := by
              rcases stk with _ | ⟨y, _ | ⟨z, r⟩⟩
              · simp only [List.length_nil] at hT; omega
              · exact ⟨y, rfl⟩
              · simp only [List.length_cons] at hT; omega
            refine ar_iconst (k := 234) rfl ?_
            refine ar_istore (k := 235) (l2 := [(8, _), (10, _), (9, _), (7, _), (6, _), (5, _), (4, _), (3, _), (0, _), (1, _), (2, _)]) rfl (by decide) rfl ?_
            refine ar_iload (k := 236) rfl rfl ?_
            refine ar_aloadn (k := 237) rfl rfl ?_
            refine br_getR (k := 238) rfl (hS.k (by decide)) flR_21_12 (by decide) rfl (hS.r rfl) ?_
            refine ar_iconst (k := 239) rfl ?_
            refine br_zald (k := 240) rfl (hS.k (by decide)) (by omega) (by omega) (by decide) ?_
            refine tw_top (y := if y = true then 1 else 0) (by exact htr.1) ?_
            refine ar_if_ne (k := 241) rfl (by omega) (fun c241 => ?_) (fun c241 => ?_)
            · refine ar_iload (k := 244) rfl rfl ?_
              refine ar_sipush (k := 245) rfl (by decide) ?_
              refine ar_icmp_le (k := 246) rfl (by omega) (by omega) (fun c246 => ?_) (fun c246 => ?_)
              · refine ar_iload (k := 251) rfl rfl ?_
                refine ar_sipush (k := 252) rfl (by decide) ?_
                refine ar_isub (k := 253) rfl ?_
                refine tw_top (y := if y = true then (if -200 < x then -10 - x else x + 200) else 0) (by cases y <;> simp_all <;> omega) ?_
                refine ar_iadd (k := 254) rfl ?_
                refine ar_istore (k := 255) (l2 := [(5, _), (8, _), (10, _), (9, _), (7, _), (6, _), (4, _), (3, _), (0, _), (1, _), (2, _)]) rfl (by decide) rfl ?_
                refine ar_iinc (k := 256) (l2 := [(9, _), (5, _), (8, _), (10, _), (7, _), (6, _), (4, _), (3, _), (0, _), (1, _), (2, _)]) rfl (by decide) rfl rfl ?_
                refine ar_goto (k := 257) rfl ?_
                refine ar_sub (l2 := [(9, vi (f + ((j + 1 : Nat) : Int))), (8, vi ((([] : List Bool)).length : Int)), (7, vi f), (6, vi (many : Int)), (5, vi (sm + (if y = true then (if -200 < x then -10 - x else x + 200) else 0))), (4, vi b2), (3, vi a2), (0, vr (some 69)), (1, vi t), (2, vi u)]) (tw_s (tw_e 0 rfl (by omega)) (tw_s (tw_e 2 rfl (by simp only [List.length_cons, List.length_nil] <;> omega)) (tw_s (tw_g 4 rfl) (tw_s (tw_g 5 rfl) (tw_s (tw_e 1 rfl (by rfl)) (tw_s (tw_g 6 rfl) (tw_s (tw_g 7 rfl) (tw_s (tw_g 8 rfl) (tw_s (tw_g 9 rfl) (tw_s (tw_g 10 rfl) tw_s0)))))))))) ?_
                exact ih (j + 1) J (([] : List Bool)) (sm + (if y = true then (if -200 < x then -10 - x else x + 200) else 0)) (by omega) hs hk hby (by rw [rRun, hrun, hx]; rw [rStep, if_neg (by omega), if_neg (by omega), if_neg (by omega)]; rfl) (by rw [rDeeps, hdep]; show rDeep _ (s (f + (j : Int))) = _; rw [hx, hD]; rw [hT.2.1]; rfl) trivial (by omega) (by simp only [List.length_cons, List.length_nil]; omega)
              · refine ar_bipush (k := 247) rfl (by decide) ?_
                refine ar_iload (k := 248) rfl rfl ?_
                refine ar_isub (k := 249) rfl ?_
                refine ar_goto (k := 250) rfl ?_
                refine tw_top (y := if y = true then (if -200 < x then -10 - x else x + 200) else 0) (by cases y <;> simp_all <;> omega) ?_
                refine ar_iadd (k := 254) rfl ?_
                refine ar_istore (k := 255) (l2 := [(5, _), (8, _), (10, _), (9, _), (7, _), (6, _), (4, _), (3, _), (0, _), (1, _), (2, _)]) rfl (by decide) rfl ?_
                refine ar_iinc (k := 256) (l2 := [(9, _), (5, _), (8, _), (10, _), (7, _), (6, _), (4, _), (3, _), (0, _), (1, _), (2, _)]) rfl (by decide) rfl rfl ?_
                refine ar_goto (k := 257) rfl ?_
                refine ar_sub (l2 := [(9, vi (f + ((j + 1 : Nat) : Int))), (8, vi ((([] : List Bool)).length : Int)), (7, vi f), (6, vi (many : Int)), (5, vi (sm + (if y = true then (if -200 < x then -10 - x else x + 200) else 0))), (4, vi b2), (3, vi a2), (0, vr (some 69)), (1, vi t), (2, vi u)]) (tw_s (tw_e 0 rfl (by omega)) (tw_s (tw_e 2 rfl (by simp only [List.length_cons, List.length_nil] <;> omega)) (tw_s (tw_g 4 rfl) (tw_s (tw_g 5 rfl) (tw_s (tw_e 1 rfl (by rfl)) (tw_s (tw_g 6 rfl) (tw_s (tw_g 7 rfl) (tw_s (tw_g 8 rfl) (tw_s (tw_g 9 rfl) (tw_s (tw_g 10 rfl) tw_s0)))))))))) ?_
                exact ih (j + 1) J (([] : List Bool)) (sm + (if y = true then (if -200 < x then -10 - x else x + 200) else 0)) (by omega) hs hk hby (by rw [rRun, hrun, hx]; rw [rStep, if_neg (by omega), if_neg (by omega), if_neg (by omega)]; rfl) (by rw [rDeeps, hdep]; show rDeep _ (s (f + (j : Int))) = _; rw [hx, hD]; rw [hT.2.1]; rfl) trivial (by omega) (by simp only [List.length_cons, List.length_nil]; omega)
            · refine ar_iconst (k := 242) rfl ?_
              refine ar_goto (k := 243) rfl ?_
              refine tw_top (y := if y = true then (if -200 < x then -10 - x else x + 200) else 0) (by cases y <;> simp_all <;> omega) ?_
              refine ar_iadd (k := 254) rfl ?_
              refine ar_istore (k := 255) (l2 := [(5, _), (8, _), (10, _), (9, _), (7, _), (6, _), (4, _), (3, _), (0, _), (1, _), (2, _)]) rfl (by decide) rfl ?_
              refine ar_iinc (k := 256) (l2 := [(9, _), (5, _), (8, _), (10, _), (7, _), (6, _), (4, _), (3, _), (0, _), (1, _), (2, _)]) rfl (by decide) rfl rfl ?_
              refine ar_goto (k := 257) rfl ?_
              refine ar_sub (l2 := [(9, vi (f + ((j + 1 : Nat) : Int))), (8, vi ((([] : List Bool)).length : Int)), (7, vi f), (6, vi (many : Int)), (5, vi (sm + (if y = true then (if -200 < x then -10 - x else x + 200) else 0))), (4, vi b2), (3, vi a2), (0, vr (some 69)), (1, vi t), (2, vi u)]) (tw_s (tw_e 0 rfl (by omega)) (tw_s (tw_e 2 rfl (by simp only [List.length_cons, List.length_nil] <;> omega)) (tw_s (tw_g 4 rfl) (tw_s (tw_g 5 rfl) (tw_s (tw_e 1 rfl (by rfl)) (tw_s (tw_g 6 rfl) (tw_s (tw_g 7 rfl) (tw_s (tw_g 8 rfl) (tw_s (tw_g 9 rfl) (tw_s (tw_g 10 rfl) tw_s0)))))))))) ?_
              exact ih (j + 1) J (([] : List Bool)) (sm + (if y = true then (if -200 < x then -10 - x else x + 200) else 0)) (by omega) hs hk hby (by rw [rRun, hrun, hx]; rw [rStep, if_neg (by omega), if_neg (by omega), if_neg (by omega)]; rfl) (by rw [rDeeps, hdep]; show rDeep _ (s (f + (j : Int))) = _; rw [hx, hD]; rw [hT.2.1]; rfl) trivial (by omega) (by simp only [List.length_cons, List.length_nil]; omega)
          · have hT := rDeep_b hD (by omega) (by omega) (by omega)
            obtain ⟨z, y, r, rfl⟩ : ∃ z y r, stk = z :: y :: r := by
              rcases stk with _ | ⟨z, _ | ⟨y, r⟩⟩
              · simp only [List.length_nil] at hT; omega
              · simp only [List.length_cons, List.length_nil] at hT; omega
              · exact ⟨z, y, r, rfl⟩
            simp only [List.length_cons] at *
            refine ar_iinc (k := 192) (l2 := [(8, _), (10, _), (9, _), (7, _), (6, _), (5, _), (4, _), (3, _), (0, _), (1, _), (2, _)]) rfl (by decide) rfl rfl ?_
            refine ar_aloadn (k := 193) rfl rfl ?_
            refine br_getR (k := 194) rfl (hS.k (by decide)) flR_21_12 (by decide) rfl (hS.r rfl) ?_
            refine ar_iload (k := 195) rfl rfl ?_
            refine ar_iconst (k := 196) rfl ?_
            refine ar_isub (k := 197) rfl ?_
            refine ar_iload (k := 198) rfl rfl ?_
            refine ar_bipush (k := 199) rfl (by decide) ?_
            refine ar_icmp_ne (k := 200) rfl (by omega) (by omega) (fun c200 => ?_) (fun c200 => ?_)
            · refine ar_aloadn (k := 217) rfl rfl ?_
              refine br_getR (k := 218) rfl (hS.k (by decide)) flR_21_12 (by decide) rfl (hS.r rfl) ?_
              refine ar_iload (k := 219) rfl rfl ?_
              refine ar_iconst (k := 220) rfl ?_
              refine ar_isub (k := 221) rfl ?_
              refine br_zald (k := 222) rfl (hS.k (by decide)) (by omega) (by omega) (by decide) ?_
              refine tw_top (y := if y = true then 1 else 0) (by rw [show ((r.length + 1 + 1 : Nat) : Int) + -1 - 1 = (r.length : Int) by omega]; exact htr.2.1) ?_
              refine ar_if_ne (k := 223) rfl (by omega) (fun c223 => ?_) (fun c223 => ?_)
              · refine ar_iconst (k := 229) rfl ?_
                refine ar_goto (k := 230) rfl ?_
                refine tw_top (y := if (if x = -2 then y && z else y || z) = true then 1 else 0) (by cases y <;> cases z <;> simp_all) ?_
                refine br_zastJ (k := 232) rfl (hS.k (by decide)) (by omega) (by omega) (by decide) (by omega) (fun I232 e232 => ?_)
                have hs232 : I232 70 = s := by rw [e232]; exact hs
                have hk232 := rk.w hk (by decide) e232
                refine ar_goto (k := 233) rfl ?_
                refine ar_iinc (k := 256) (l2 := [(9, _), (8, _), (10, _), (7, _), (6, _), (5, _), (4, _), (3, _), (0, _), (1, _), (2, _)]) rfl (by decide) rfl rfl ?_
                refine ar_goto (k := 257) rfl ?_
                refine ar_sub (l2 := [(9, vi (f + ((j + 1 : Nat) : Int))), (8, vi (((if x = -2 then y && z else y || z) :: r).length : Int)), (7, vi f), (6, vi (many : Int)), (5, vi (sm)), (4, vi b2), (3, vi a2), (0, vr (some 69)), (1, vi t), (2, vi u)]) (tw_s (tw_e 0 rfl (by omega)) (tw_s (tw_e 1 rfl (by simp only [List.length_cons, List.length_nil] <;> omega)) (tw_s (tw_g 3 rfl) (tw_s (tw_g 4 rfl) (tw_s (tw_g 5 rfl) (tw_s (tw_g 6 rfl) (tw_s (tw_g 7 rfl) (tw_s (tw_g 8 rfl) (tw_s (tw_g 9 rfl) (tw_s (tw_g 10 rfl) tw_s0)))))))))) ?_
                exact ih (j + 1) I232 ((if x = -2 then y && z else y || z) :: r) (sm) (by omega) hs232 hk232 (fun i a1 a2 => by rw [ot_1 e232 (by decide)]; exact hby i a1 a2) (by rw [rRun, hrun, hx]; rw [rStep, if_neg (by omega), if_neg (by omega), if_pos (by omega)]) (by rw [rDeeps, hdep]; show rDeep _ (s (f + (j : Int))) = _; rw [hx, hD]; rw [hT.2.2]; rfl) ⟨by rw [e232, uI_at, if_pos (by omega)], trs_1 htr.2.2 e232 (by omega)⟩ (by omega) (by simp only [List.length_cons, List.length_nil]; omega)
              · refine ar_aloadn (k := 224) rfl rfl ?_
                refine br_getR (k := 225) rfl (hS.k (by decide)) flR_21_12 (by decide) rfl (hS.r rfl) ?_
                refine ar_iload (k := 226) rfl rfl ?_
                refine br_zald (k := 227) rfl (hS.k (by decide)) (by omega) (by omega) (by decide) ?_
                refine tw_top (y := if z = true then 1 else 0) (by rw [show ((r.length + 1 + 1 : Nat) : Int) + -1 = ((r.length + 1 : Nat) : Int) by omega]; exact htr.1) ?_
                refine ar_if_eq (k := 228) rfl (by omega) (fun c228 => ?_) (fun c228 => ?_)
                · refine ar_iconst (k := 231) rfl ?_
                  refine tw_top (y := if (if x = -2 then y && z else y || z) = true then 1 else 0) (by cases y <;> cases z <;> simp_all) ?_
                  refine br_zastJ (k := 232) rfl (hS.k (by decide)) (by omega) (by omega) (by decide) (by omega) (fun I232 e232 => ?_)
                  have hs232 : I232 70 = s := by rw [e232]; exact hs
                  have hk232 := rk.w hk (by decide) e232
                  refine ar_goto (k := 233) rfl ?_
                  refine ar_iinc (k := 256) (l2 := [(9, _), (8, _), (10, _), (7, _), (6, _), (5, _), (4, _), (3, _), (0, _), (1, _), (2, _)]) rfl (by decide) rfl rfl ?_
                  refine ar_goto (k := 257) rfl ?_
                  refine ar_sub (l2 := [(9, vi (f + ((j + 1 : Nat) : Int))), (8, vi (((if x = -2 then y && z else y || z) :: r).length : Int)), (7, vi f), (6, vi (many : Int)), (5, vi (sm)), (4, vi b2), (3, vi a2), (0, vr (some 69)), (1, vi t), (2, vi u)]) (tw_s (tw_e 0 rfl (by omega)) (tw_s (tw_e 1 rfl (by simp only [List.length_cons, List.length_nil] <;> omega)) (tw_s (tw_g 3 rfl) (tw_s (tw_g 4 rfl) (tw_s (tw_g 5 rfl) (tw_s (tw_g 6 rfl) (tw_s (tw_g 7 rfl) (tw_s (tw_g 8 rfl) (tw_s (tw_g 9 rfl) (tw_s (tw_g 10 rfl) tw_s0)))))))))) ?_
                  exact ih (j + 1) I232 ((if x = -2 then y && z else y || z) :: r) (sm) (by omega) hs232 hk232 (fun i a1 a2 => by rw [ot_1 e232 (by decide)]; exact hby i a1 a2) (by rw [rRun, hrun, hx]; rw [rStep, if_neg (by omega), if_neg (by omega), if_pos (by omega)]) (by rw [rDeeps, hdep]; show rDeep _ (s (f + (j : Int))) = _; rw [hx, hD]; rw [hT.2.2]; rfl) ⟨by rw [e232, uI_at, if_pos (by omega)], trs_1 htr.2.2 e232 (by omega)⟩ (by omega) (by simp only [List.length_cons, List.length_nil]; omega)
                · refine ar_iconst (k := 229) rfl ?_
                  refine ar_goto (k := 230) rfl ?_
                  refine tw_top (y := if (if x = -2 then y && z else y || z) = true then 1 else 0) (by cases y <;> cases z <;> simp_all) ?_
                  refine br_zastJ (k := 232) rfl (hS.k (by decide)) (by omega) (by omega) (by decide) (by omega) (fun I232 e232 => ?_)
                  have hs232 : I232 70 = s := by rw [e232]; exact hs
                  have hk232 := rk.w hk (by decide) e232
                  refine ar_goto (k := 233) rfl ?_
                  refine ar_iinc (k := 256) (l2 := [(9, _), (8, _), (10, _), (7, _), (6, _), (5, _), (4, _), (3, _), (0, _), (1, _), (2, _)]) rfl (by decide) rfl rfl ?_
                  refine ar_goto (k := 257) rfl ?_
                  refine ar_sub (l2 := [(9, vi (f + ((j + 1 : Nat) : Int))), (8, vi (((if x = -2 then y && z else y || z) :: r).length : Int)), (7, vi f), (6, vi (many : Int)), (5, vi (sm)), (4, vi b2), (3, vi a2), (0, vr (some 69)), (1, vi t), (2, vi u)]) (tw_s (tw_e 0 rfl (by omega)) (tw_s (tw_e 1 rfl (by simp only [List.length_cons, List.length_nil] <;> omega)) (tw_s (tw_g 3 rfl) (tw_s (tw_g 4 rfl) (tw_s (tw_g 5 rfl) (tw_s (tw_g 6 rfl) (tw_s (tw_g 7 rfl) (tw_s (tw_g 8 rfl) (tw_s (tw_g 9 rfl) (tw_s (tw_g 10 rfl) tw_s0)))))))))) ?_
                  exact ih (j + 1) I232 ((if x = -2 then y && z else y || z) :: r) (sm) (by omega) hs232 hk232 (fun i a1 a2 => by rw [ot_1 e232 (by decide)]; exact hby i a1 a2) (by rw [rRun, hrun, hx]; rw [rStep, if_neg (by omega), if_neg (by omega), if_pos (by omega)]) (by rw [rDeeps, hdep]; show rDeep _ (s (f + (j : Int))) = _; rw [hx, hD]; rw [hT.2.2]; rfl) ⟨by rw [e232, uI_at, if_pos (by omega)], trs_1 htr.2.2 e232 (by omega)⟩ (by omega) (by simp only [List.length_cons, List.length_nil]; omega)
            · refine ar_aloadn (k := 201) rfl rfl ?_
              refine br_getR (k := 202) rfl (hS.k (by decide)) flR_21_12 (by decide) rfl (hS.r rfl) ?_
              refine ar_iload (k := 203) rfl rfl ?_
              refine ar_iconst (k := 204) rfl ?_
              refine ar_isub (k := 205) rfl ?_
              refine br_zald (k := 206) rfl (hS.k (by decide)) (by omega) (by omega) (by decide) ?_
              refine tw_top (y := if y = true then 1 else 0) (by rw [show ((r.length + 1 + 1 : Nat) : Int) + -1 - 1 = (r.length : Int) by omega]; exact htr.2.1) ?_
              refine ar_if_eq (k := 207) rfl (by omega) (fun c207 => ?_) (fun c207 => ?_)
              · refine ar_iconst (k := 215) rfl ?_
                refine ar_goto (k := 216) rfl ?_
                refine tw_top (y := if (if x = -2 then y && z else y || z) = true then 1 else 0) (by cases y <;> cases z <;> simp_all) ?_
                refine br_zastJ (k := 232) rfl (hS.k (by decide)) (by omega) (by omega) (by decide) (by omega) (fun I232 e232 => ?_)
                have hs232 : I232 70 = s := by rw [e232]; exact hs
                have hk232 := rk.w hk (by decide) e232
                refine ar_goto (k := 233) rfl ?_
                refine ar_iinc (k := 256) (l2 := [(9, _), (8, _), (10, _), (7, _), (6, _), (5, _), (4, _), (3, _), (0, _), (1, _), (2, _)]) rfl (by decide) rfl rfl ?_
                refine ar_goto (k := 257) rfl ?_
                refine ar_sub (l2 := [(9, vi (f + ((j + 1 : Nat) : Int))), (8, vi (((if x = -2 then y && z else y || z) :: r).length : Int)), (7, vi f), (6, vi (many : Int)), (5, vi (sm)), (4, vi b2), (3, vi a2), (0, vr (some 69)), (1, vi t), (2, vi u)]) (tw_s (tw_e 0 rfl (by omega)) (tw_s (tw_e 1 rfl (by simp only [List.length_cons, List.length_nil] <;> omega)) (tw_s (tw_g 3 rfl) (tw_s (tw_g 4 rfl) (tw_s (tw_g 5 rfl) (tw_s (tw_g 6 rfl) (tw_s (tw_g 7 rfl) (tw_s (tw_g 8 rfl) (tw_s (tw_g 9 rfl) (tw_s (tw_g 10 rfl) tw_s0)))))))))) ?_
                exact ih (j + 1) I232 ((if x = -2 then y && z else y || z) :: r) (sm) (by omega) hs232 hk232 (fun i a1 a2 => by rw [ot_1 e232 (by decide)]; exact hby i a1 a2) (by rw [rRun, hrun, hx]; rw [rStep, if_neg (by omega), if_neg (by omega), if_pos (by omega)]) (by rw [rDeeps, hdep]; show rDeep _ (s (f + (j : Int))) = _; rw [hx, hD]; rw [hT.2.2]; rfl) ⟨by rw [e232, uI_at, if_pos (by omega)], trs_1 htr.2.2 e232 (by omega)⟩ (by omega) (by simp only [List.length_cons, List.length_nil]; omega)
              · refine ar_aloadn (k := 208) rfl rfl ?_
                refine br_getR (k := 209) rfl (hS.k (by decide)) flR_21_12 (by decide) rfl (hS.r rfl) ?_
                refine ar_iload (k := 210) rfl rfl ?_
                refine br_zald (k := 211) rfl (hS.k (by decide)) (by omega) (by omega) (by decide) ?_
                refine tw_top (y := if z = true then 1 else 0) (by rw [show ((r.length + 1 + 1 : Nat) : Int) + -1 = ((r.length + 1 : Nat) : Int) by omega]; exact htr.1) ?_
                refine ar_if_eq (k := 212) rfl (by omega) (fun c212 => ?_) (fun c212 => ?_)
                · refine ar_iconst (k := 215) rfl ?_
                  refine ar_goto (k := 216) rfl ?_
                  refine tw_top (y := if (if x = -2 then y && z else y || z) = true then 1 else 0) (by cases y <;> cases z <;> simp_all) ?_
                  refine br_zastJ (k := 232) rfl (hS.k (by decide)) (by omega) (by omega) (by decide) (by omega) (fun I232 e232 => ?_)
                  have hs232 : I232 70 = s := by rw [e232]; exact hs
                  have hk232 := rk.w hk (by decide) e232
                  refine ar_goto (k := 233) rfl ?_
                  refine ar_iinc (k := 256) (l2 := [(9, _), (8, _), (10, _), (7, _), (6, _), (5, _), (4, _), (3, _), (0, _), (1, _), (2, _)]) rfl (by decide) rfl rfl ?_
                  refine ar_goto (k := 257) rfl ?_
                  refine ar_sub (l2 := [(9, vi (f + ((j + 1 : Nat) : Int))), (8, vi (((if x = -2 then y && z else y || z) :: r).length : Int)), (7, vi f), (6, vi (many : Int)), (5, vi (sm)), (4, vi b2), (3, vi a2), (0, vr (some 69)), (1, vi t), (2, vi u)]) (tw_s (tw_e 0 rfl (by omega)) (tw_s (tw_e 1 rfl (by simp only [List.length_cons, List.length_nil] <;> omega)) (tw_s (tw_g 3 rfl) (tw_s (tw_g 4 rfl) (tw_s (tw_g 5 rfl) (tw_s (tw_g 6 rfl) (tw_s (tw_g 7 rfl) (tw_s (tw_g 8 rfl) (tw_s (tw_g 9 rfl) (tw_s (tw_g 10 rfl) tw_s0)))))))))) ?_
                  exact ih (j + 1) I232 ((if x = -2 then y && z else y || z) :: r) (sm) (by omega) hs232 hk232 (fun i a1 a2 => by rw [ot_1 e232 (by decide)]; exact hby i a1 a2) (by rw [rRun, hrun, hx]; rw [rStep, if_neg (by omega), if_neg (by omega), if_pos (by omega)]) (by rw [rDeeps, hdep]; show rDeep _ (s (f + (j : Int))) = _; rw [hx, hD]; rw [hT.2.2]; rfl) ⟨by rw [e232, uI_at, if_pos (by omega)], trs_1 htr.2.2 e232 (by omega)⟩ (by omega) (by simp only [List.length_cons, List.length_nil]; omega)
                · refine ar_iconst (k := 213) rfl ?_
                  refine ar_goto (k := 214) rfl ?_
                  refine tw_top (y := if (if x = -2 then y && z else y || z) = true then 1 else 0) (by cases y <;> cases z <;> simp_all) ?_
                  refine br_zastJ (k := 232) rfl (hS.k (by decide)) (by omega) (by omega) (by decide) (by omega) (fun I232 e232 => ?_)
                  have hs232 : I232 70 = s := by rw [e232]; exact hs
                  have hk232 := rk.w hk (by decide) e232
                  refine ar_goto (k := 233) rfl ?_
                  refine ar_iinc (k := 256) (l2 := [(9, _), (8, _), (10, _), (7, _), (6, _), (5, _), (4, _), (3, _), (0, _), (1, _), (2, _)]) rfl (by decide) rfl rfl ?_
                  refine ar_goto (k := 257) rfl ?_
                  refine ar_sub (l2 := [(9, vi (f + ((j + 1 : Nat) : Int))), (8, vi (((if x = -2 then y && z else y || z) :: r).length : Int)), (7, vi f), (6, vi (many : Int)), (5, vi (sm)), (4, vi b2), (3, vi a2), (0, vr (some 69)), (1, vi t), (2, vi u)]) (tw_s (tw_e 0 rfl (by omega)) (tw_s (tw_e 1 rfl (by simp only [List.length_cons, List.length_nil] <;> omega)) (tw_s (tw_g 3 rfl) (tw_s (tw_g 4 rfl) (tw_s (tw_g 5 rfl) (tw_s (tw_g 6 rfl) (tw_s (tw_g 7 rfl) (tw_s (tw_g 8 rfl) (tw_s (tw_g 9 rfl) (tw_s (tw_g 10 rfl) tw_s0)))))))))) ?_
                  exact ih (j + 1) I232 ((if x = -2 then y && z else y || z) :: r) (sm) (by omega) hs232 hk232 (fun i a1 a2 => by rw [ot_1 e232 (by decide)]; exact hby i a1 a2) (by rw [rRun, hrun, hx]; rw [rStep, if_neg (by omega), if_neg (by omega), if_pos (by omega)]) (by rw [rDeeps, hdep]; show rDeep _ (s (f + (j : Int))) = _; rw [hx, hD]; rw [hT.2.2]; rfl) ⟨by rw [e232, uI_at, if_pos (by omega)], trs_1 htr.2.2 e232 (by omega)⟩ (by omega) (by simp only [List.length_cons, List.length_nil]; omega)
        · have hT := rDeep_n hD (by omega)
          obtain ⟨y, r, rfl⟩ : ∃ y r, stk = y :: r := by
            cases stk with
            | nil => simp only [List.length_nil] at hT; omega
            | cons y r => exact ⟨y, r, rfl⟩
          simp only [List.length_cons] at *
          refine ar_aloadn (k := 172) rfl rfl ?_
          refine br_getR (k := 173) rfl (hS.k (by decide)) flR_21_12 (by decide) rfl (hS.r rfl) ?_
          refine ar_iload (k := 174) rfl rfl ?_
          refine ar_iconst (k := 175) rfl ?_
          refine ar_isub (k := 176) rfl ?_
          refine ar_aloadn (k := 177) rfl rfl ?_
          refine br_getR (k := 178) rfl (hS.k (by decide)) flR_21_12 (by decide) rfl (hS.r rfl) ?_
          refine ar_iload (k := 179) rfl rfl ?_
          refine ar_iconst (k := 180) rfl ?_
          refine ar_isub (k := 181) rfl ?_
          refine br_zald (k := 182) rfl (hS.k (by decide)) (by omega) (by omega) (by decide) ?_
          refine tw_top (y := if y = true then 1 else 0) (by rw [show ((r.length + 1 : Nat) : Int) - 1 = (r.length : Int) by omega]; exact htr.1) ?_
          refine ar_if_ne (k := 183) rfl (by omega) (fun c183 => ?_) (fun c183 => ?_)
          · refine ar_iconst (k := 186) rfl ?_
            refine tw_top (y := if (!y) = true then 1 else 0) (by cases y <;> simp_all) ?_
            refine br_zastJ (k := 187) rfl (hS.k (by decide)) (by omega) (by omega) (by decide) (by omega) (fun I187 e187 => ?_)
            have hs187 : I187 70 = s := by rw [e187]; exact hs
            have hk187 := rk.w hk (by decide) e187
            refine ar_goto (k := 188) rfl ?_
            refine ar_iinc (k := 256) (l2 := [(9, _), (10, _), (8, _), (7, _), (6, _), (5, _), (4, _), (3, _), (0, _), (1, _), (2, _)]) rfl (by decide) rfl rfl ?_
            refine ar_goto (k := 257) rfl ?_
            refine ar_sub (l2 := [(9, vi (f + ((j + 1 : Nat) : Int))), (8, vi (((!y) :: r).length : Int)), (7, vi f), (6, vi (many : Int)), (5, vi (sm)), (4, vi b2), (3, vi a2), (0, vr (some 69)), (1, vi t), (2, vi u)]) (tw_s (tw_e 0 rfl (by omega)) (tw_s (tw_e 2 rfl (by simp only [List.length_cons, List.length_nil] <;> omega)) (tw_s (tw_g 3 rfl) (tw_s (tw_g 4 rfl) (tw_s (tw_g 5 rfl) (tw_s (tw_g 6 rfl) (tw_s (tw_g 7 rfl) (tw_s (tw_g 8 rfl) (tw_s (tw_g 9 rfl) (tw_s (tw_g 10 rfl) tw_s0)))))))))) ?_
            exact ih (j + 1) I187 ((!y) :: r) (sm) (by omega) hs187 hk187 (fun i a1 a2 => by rw [ot_1 e187 (by decide)]; exact hby i a1 a2) (by rw [rRun, hrun, hx]; rw [rStep, if_neg (by omega), if_pos (by omega)]) (by rw [rDeeps, hdep]; show rDeep _ (s (f + (j : Int))) = _; rw [hx, hD]; rw [hT.2]; rfl) ⟨by rw [e187, uI_at, if_pos (by omega)], trs_1 htr.2 e187 (by omega)⟩ (by omega) (by simp only [List.length_cons, List.length_nil]; omega)
          · refine ar_iconst (k := 184) rfl ?_
            refine ar_goto (k := 185) rfl ?_
            refine tw_top (y := if (!y) = true then 1 else 0) (by cases y <;> simp_all) ?_
            refine br_zastJ (k := 187) rfl (hS.k (by decide)) (by omega) (by omega) (by decide) (by omega) (fun I187 e187 => ?_)
            have hs187 : I187 70 = s := by rw [e187]; exact hs
            have hk187 := rk.w hk (by decide) e187
            refine ar_goto (k := 188) rfl ?_
            refine ar_iinc (k := 256) (l2 := [(9, _), (10, _), (8, _), (7, _), (6, _), (5, _), (4, _), (3, _), (0, _), (1, _), (2, _)]) rfl (by decide) rfl rfl ?_
            refine ar_goto (k := 257) rfl ?_
            refine ar_sub (l2 := [(9, vi (f + ((j + 1 : Nat) : Int))), (8, vi (((!y) :: r).length : Int)), (7, vi f), (6, vi (many : Int)), (5, vi (sm)), (4, vi b2), (3, vi a2), (0, vr (some 69)), (1, vi t), (2, vi u)]) (tw_s (tw_e 0 rfl (by omega)) (tw_s (tw_e 2 rfl (by simp only [List.length_cons, List.length_nil] <;> omega)) (tw_s (tw_g 3 rfl) (tw_s (tw_g 4 rfl) (tw_s (tw_g 5 rfl) (tw_s (tw_g 6 rfl) (tw_s (tw_g 7 rfl) (tw_s (tw_g 8 rfl) (tw_s (tw_g 9 rfl) (tw_s (tw_g 10 rfl) tw_s0)))))))))) ?_
            exact ih (j + 1) I187 ((!y) :: r) (sm) (by omega) hs187 hk187 (fun i a1 a2 => by rw [ot_1 e187 (by decide)]; exact hby i a1 a2) (by rw [rRun, hrun, hx]; rw [rStep, if_neg (by omega), if_pos (by omega)]) (by rw [rDeeps, hdep]; show rDeep _ (s (f + (j : Int))) = _; rw [hx, hD]; rw [hT.2]; rfl) ⟨by rw [e187, uI_at, if_pos (by omega)], trs_1 htr.2 e187 (by omega)⟩ (by omega) (by simp only [List.length_cons, List.length_nil]; omega)
      · have hT := rDeep_t hD (by omega)
        have hbx := hb5 (x % 8) (by omega) (by omega)
        refine ar_aloadn (k := 121) rfl rfl ?_
        refine br_getR (k := 122) rfl (hS.k (by decide)) flR_18_12 (by decide) rfl (hS.r rfl) ?_
        refine ar_iload (k := 123) rfl rfl ?_
        refine ar_bipush (k := 124) rfl (by decide) ?_
        refine ar_irem (k := 125) rfl (by omega) (by omega) (by omega) ?_
        refine tw_top (y := x % 8) (by exact Int.tmod_eq_emod_of_nonneg (by omega)) ?_
        refine br_iald (k := 126) rfl (hS.k (by decide)) (by omega) (by omega) (by decide) ?_
        refine tw_top (y := b (x % 8)) (by exact hby _ (by omega) (by omega)) ?_
        refine ar_istore (k := 127) (l2 := [(11, _), (10, _), (9, _), (8, _), (7, _), (6, _), (5, _), (4, _), (3, _), (0, _), (1, _), (2, _)]) rfl (by decide) rfl ?_
        refine ar_iload (k := 128) rfl rfl ?_
        refine ar_bipush (k := 129) rfl (by decide) ?_
        refine ar_idiv (k := 130) rfl (by omega) (by omega) (by omega) ?_
        refine tw_top (y := x / 8) (by exact Int.tdiv_eq_ediv_of_nonneg (by omega)) ?_
        refine ar_iconst (k := 131) rfl ?_
        refine ar_irem (k := 132) rfl (by omega) (by omega) (by omega) ?_
        refine tw_top (y := x / 8 % 4) (by exact Int.tmod_eq_emod_of_nonneg (by omega)) ?_
        refine ar_istore (k := 133) (l2 := [(12, _), (11, _), (10, _), (9, _), (8, _), (7, _), (6, _), (5, _), (4, _), (3, _), (0, _), (1, _), (2, _)]) rfl (by decide) rfl ?_
        refine ar_iload (k := 134) rfl rfl ?_
        refine ar_bipush (k := 135) rfl (by decide) ?_
        refine ar_idiv (k := 136) rfl (by omega) (by omega) (by omega) ?_
        refine tw_top (y := x / 32) (by exact Int.tdiv_eq_ediv_of_nonneg (by omega)) ?_
        refine ar_istore (k := 137) (l2 := [(13, _), (12, _), (11, _), (10, _), (9, _), (8, _), (7, _), (6, _), (5, _), (4, _), (3, _), (0, _), (1, _), (2, _)]) rfl (by decide) rfl ?_
        refine ar_aloadn (k := 138) rfl rfl ?_
        refine br_getR (k := 139) rfl (hS.k (by decide)) flR_21_12 (by decide) rfl (hS.r rfl) ?_
        refine ar_iload (k := 140) rfl rfl ?_
        refine ar_iload (k := 141) rfl rfl ?_
        refine ar_if_ne (k := 142) rfl (by omega) (fun c142 => ?_) (fun c142 => ?_)
        · refine ar_iload (k := 150) rfl rfl ?_
          refine ar_iconst (k := 151) rfl ?_
          refine ar_icmp_ne (k := 152) rfl (by omega) (by omega) (fun c152 => ?_) (fun c152 => ?_)
          · refine ar_iload (k := 160) rfl rfl ?_
            refine ar_iload (k := 161) rfl rfl ?_
            refine ar_icmp_le (k := 162) rfl (by omega) (by omega) (fun c162 => ?_) (fun c162 => ?_)
            · refine ar_iconst (k := 165) rfl ?_
              refine tw_top (y := if rTst b x = true then 1 else 0) (by simp only [rTst]; (repeat' split) <;> simp_all <;> omega) ?_
              refine br_zastJ (k := 166) rfl (hS.k (by decide)) (by omega) (by omega) (by decide) (by omega) (fun I166 e166 => ?_)
              have hs166 : I166 70 = s := by rw [e166]; exact hs
              have hk166 := rk.w hk (by decide) e166
              refine ar_iinc (k := 167) (l2 := [(8, _), (13, _), (12, _), (11, _), (10, _), (9, _), (7, _), (6, _), (5, _), (4, _), (3, _), (0, _), (1, _), (2, _)]) rfl (by decide) rfl rfl ?_
              refine ar_goto (k := 168) rfl ?_
              refine ar_iinc (k := 256) (l2 := [(9, _), (8, _), (13, _), (12, _), (11, _), (10, _), (7, _), (6, _), (5, _), (4, _), (3, _), (0, _), (1, _), (2, _)]) rfl (by decide) rfl rfl ?_
              refine ar_goto (k := 257) rfl ?_
              refine ar_sub (l2 := [(9, vi (f + ((j + 1 : Nat) : Int))), (8, vi ((rTst b x :: stk).length : Int)), (7, vi f), (6, vi (many : Int)), (5, vi (sm)), (4, vi b2), (3, vi a2), (0, vr (some 69)), (1, vi t), (2, vi u)]) (tw_s (tw_e 0 rfl (by omega)) (tw_s (tw_e 1 rfl (by simp only [List.length_cons, List.length_nil] <;> omega)) (tw_s (tw_g 6 rfl) (tw_s (tw_g 7 rfl) (tw_s (tw_g 8 rfl) (tw_s (tw_g 9 rfl) (tw_s (tw_g 10 rfl) (tw_s (tw_g 11 rfl) (tw_s (tw_g 12 rfl) (tw_s (tw_g 13 rfl) tw_s0)))))))))) ?_
              exact ih (j + 1) I166 (rTst b x :: stk) (sm) (by omega) hs166 hk166 (fun i a1 a2 => by rw [ot_1 e166 (by decide)]; exact hby i a1 a2) (by rw [rRun, hrun, hx]; rw [rStep, if_pos (by omega)]) (by rw [rDeeps, hdep]; show rDeep _ (s (f + (j : Int))) = _; rw [hx, hD]; rw [hT.2.2.2.2]; rfl) ⟨by rw [e166, uI_at, if_pos rfl], trs_1 htr e166 (by omega)⟩ (by omega) (by simp only [List.length_cons, List.length_nil]; omega)
            · refine ar_iconst (k := 163) rfl ?_
              refine ar_goto (k := 164) rfl ?_
              refine tw_top (y := if rTst b x = true then 1 else 0) (by simp only [rTst]; (repeat' split) <;> simp_all <;> omega) ?_
              refine br_zastJ (k := 166) rfl (hS.k (by decide)) (by omega) (by omega) (by decide) (by omega) (fun I166 e166 => ?_)
              have hs166 : I166 70 = s := by rw [e166]; exact hs
              have hk166 := rk.w hk (by decide) e166
              refine ar_iinc (k := 167) (l2 := [(8, _), (13, _), (12, _), (11, _), (10, _), (9, _), (7, _), (6, _), (5, _), (4, _), (3, _), (0, _), (1, _), (2, _)]) rfl (by decide) rfl rfl ?_
              refine ar_goto (k := 168) rfl ?_
              refine ar_iinc (k := 256) (l2 := [(9, _), (8, _), (13, _), (12, _), (11, _), (10, _), (7, _), (6, _), (5, _), (4, _), (3, _), (0, _), (1, _), (2, _)]) rfl (by decide) rfl rfl ?_
              refine ar_goto (k := 257) rfl ?_
              refine ar_sub (l2 := [(9, vi (f + ((j + 1 : Nat) : Int))), (8, vi ((rTst b x :: stk).length : Int)), (7, vi f), (6, vi (many : Int)), (5, vi (sm)), (4, vi b2), (3, vi a2), (0, vr (some 69)), (1, vi t), (2, vi u)]) (tw_s (tw_e 0 rfl (by omega)) (tw_s (tw_e 1 rfl (by simp only [List.length_cons, List.length_nil] <;> omega)) (tw_s (tw_g 6 rfl) (tw_s (tw_g 7 rfl) (tw_s (tw_g 8 rfl) (tw_s (tw_g 9 rfl) (tw_s (tw_g 10 rfl) (tw_s (tw_g 11 rfl) (tw_s (tw_g 12 rfl) (tw_s (tw_g 13 rfl) tw_s0)))))))))) ?_
              exact ih (j + 1) I166 (rTst b x :: stk) (sm) (by omega) hs166 hk166 (fun i a1 a2 => by rw [ot_1 e166 (by decide)]; exact hby i a1 a2) (by rw [rRun, hrun, hx]; rw [rStep, if_pos (by omega)]) (by rw [rDeeps, hdep]; show rDeep _ (s (f + (j : Int))) = _; rw [hx, hD]; rw [hT.2.2.2.2]; rfl) ⟨by rw [e166, uI_at, if_pos rfl], trs_1 htr e166 (by omega)⟩ (by omega) (by simp only [List.length_cons, List.length_nil]; omega)
          · refine ar_iload (k := 153) rfl rfl ?_
            refine ar_iload (k := 154) rfl rfl ?_
            refine ar_icmp_ne (k := 155) rfl (by omega) (by omega) (fun c155 => ?_) (fun c155 => ?_)
            · refine ar_iconst (k := 158) rfl ?_
              refine ar_goto (k := 159) rfl ?_
              refine tw_top (y := if rTst b x = true then 1 else 0) (by simp only [rTst]; (repeat' split) <;> simp_all <;> omega) ?_
              refine br_zastJ (k := 166) rfl (hS.k (by decide)) (by omega) (by omega) (by decide) (by omega) (fun I166 e166 => ?_)
              have hs166 : I166 70 = s := by rw [e166]; exact hs
              have hk166 := rk.w hk (by decide) e166
              refine ar_iinc (k := 167) (l2 := [(8, _), (13, _), (12, _), (11, _), (10, _), (9, _), (7, _), (6, _), (5, _), (4, _), (3, _), (0, _), (1, _), (2, _)]) rfl (by decide) rfl rfl ?_
              refine ar_goto (k := 168) rfl ?_
              refine ar_iinc (k := 256) (l2 := [(9, _), (8, _), (13, _), (12, _), (11, _), (10, _), (7, _), (6, _), (5, _), (4, _), (3, _), (0, _), (1, _), (2, _)]) rfl (by decide) rfl rfl ?_
              refine ar_goto (k := 257) rfl ?_
              refine ar_sub (l2 := [(9, vi (f + ((j + 1 : Nat) : Int))), (8, vi ((rTst b x :: stk).length : Int)), (7, vi f), (6, vi (many : Int)), (5, vi (sm)), (4, vi b2), (3, vi a2), (0, vr (some 69)), (1, vi t), (2, vi u)]) (tw_s (tw_e 0 rfl (by omega)) (tw_s (tw_e 1 rfl (by simp only [List.length_cons, List.length_nil] <;> omega)) (tw_s (tw_g 6 rfl) (tw_s (tw_g 7 rfl) (tw_s (tw_g 8 rfl) (tw_s (tw_g 9 rfl) (tw_s (tw_g 10 rfl) (tw_s (tw_g 11 rfl) (tw_s (tw_g 12 rfl) (tw_s (tw_g 13 rfl) tw_s0)))))))))) ?_
              exact ih (j + 1) I166 (rTst b x :: stk) (sm) (by omega) hs166 hk166 (fun i a1 a2 => by rw [ot_1 e166 (by decide)]; exact hby i a1 a2) (by rw [rRun, hrun, hx]; rw [rStep, if_pos (by omega)]) (by rw [rDeeps, hdep]; show rDeep _ (s (f + (j : Int))) = _; rw [hx, hD]; rw [hT.2.2.2.2]; rfl) ⟨by rw [e166, uI_at, if_pos rfl], trs_1 htr e166 (by omega)⟩ (by omega) (by simp only [List.length_cons, List.length_nil]; omega)
            · refine ar_iconst (k := 156) rfl ?_
              refine ar_goto (k := 157) rfl ?_
              refine tw_top (y := if rTst b x = true then 1 else 0) (by simp only [rTst]; (repeat' split) <;> simp_all <;> omega) ?_
              refine br_zastJ (k := 166) rfl (hS.k (by decide)) (by omega) (by omega) (by decide) (by omega) (fun I166 e166 => ?_)
              have hs166 : I166 70 = s := by rw [e166]; exact hs
              have hk166 := rk.w hk (by decide) e166
              refine ar_iinc (k := 167) (l2 := [(8, _), (13, _), (12, _), (11, _), (10, _), (9, _), (7, _), (6, _), (5, _), (4, _), (3, _), (0, _), (1, _), (2, _)]) rfl (by decide) rfl rfl ?_
              refine ar_goto (k := 168) rfl ?_
              refine ar_iinc (k := 256) (l2 := [(9, _), (8, _), (13, _), (12, _), (11, _), (10, _), (7, _), (6, _), (5, _), (4, _), (3, _), (0, _), (1, _), (2, _)]) rfl (by decide) rfl rfl ?_
              refine ar_goto (k := 257) rfl ?_
              refine ar_sub (l2 := [(9, vi (f + ((j + 1 : Nat) : Int))), (8, vi ((rTst b x :: stk).length : Int)), (7, vi f), (6, vi (many : Int)), (5, vi (sm)), (4, vi b2), (3, vi a2), (0, vr (some 69)), (1, vi t), (2, vi u)]) (tw_s (tw_e 0 rfl (by omega)) (tw_s (tw_e 1 rfl (by simp only [List.length_cons, List.length_nil] <;> omega)) (tw_s (tw_g 6 rfl) (tw_s (tw_g 7 rfl) (tw_s (tw_g 8 rfl) (tw_s (tw_g 9 rfl) (tw_s (tw_g 10 rfl) (tw_s (tw_g 11 rfl) (tw_s (tw_g 12 rfl) (tw_s (tw_g 13 rfl) tw_s0)))))))))) ?_
              exact ih (j + 1) I166 (rTst b x :: stk) (sm) (by omega) hs166 hk166 (fun i a1 a2 => by rw [ot_1 e166 (by decide)]; exact hby i a1 a2) (by rw [rRun, hrun, hx]; rw [rStep, if_pos (by omega)]) (by rw [rDeeps, hdep]; show rDeep _ (s (f + (j : Int))) = _; rw [hx, hD]; rw [hT.2.2.2.2]; rfl) ⟨by rw [e166, uI_at, if_pos rfl], trs_1 htr e166 (by omega)⟩ (by omega) (by simp only [List.length_cons, List.length_nil]; omega)
        · refine ar_iload (k := 143) rfl rfl ?_
          refine ar_iload (k := 144) rfl rfl ?_
          refine ar_icmp_ge (k := 145) rfl (by omega) (by omega) (fun c145 => ?_) (fun c145 => ?_)
          · refine ar_iconst (k := 148) rfl ?_
            refine ar_goto (k := 149) rfl ?_
            refine tw_top (y := if rTst b x = true then 1 else 0) (by simp only [rTst]; (repeat' split) <;> simp_all <;> omega) ?_
            refine br_zastJ (k := 166) rfl (hS.k (by decide)) (by omega) (by omega) (by decide) (by omega) (fun I166 e166 => ?_)
            have hs166 : I166 70 = s := by rw [e166]; exact hs
            have hk166 := rk.w hk (by decide) e166
            refine ar_iinc (k := 167) (l2 := [(8, _), (13, _), (12, _), (11, _), (10, _), (9, _), (7, _), (6, _), (5, _), (4, _), (3, _), (0, _), (1, _), (2, _)]) rfl (by decide) rfl rfl ?_
            refine ar_goto (k := 168) rfl ?_
            refine ar_iinc (k := 256) (l2 := [(9, _), (8, _), (13, _), (12, _), (11, _), (10, _), (7, _), (6, _), (5, _), (4, _), (3, _), (0, _), (1, _), (2, _)]) rfl (by decide) rfl rfl ?_
            refine ar_goto (k := 257) rfl ?_
            refine ar_sub (l2 := [(9, vi (f + ((j + 1 : Nat) : Int))), (8, vi ((rTst b x :: stk).length : Int)), (7, vi f), (6, vi (many : Int)), (5, vi (sm)), (4, vi b2), (3, vi a2), (0, vr (some 69)), (1, vi t), (2, vi u)]) (tw_s (tw_e 0 rfl (by omega)) (tw_s (tw_e 1 rfl (by simp only [List.length_cons, List.length_nil] <;> omega)) (tw_s (tw_g 6 rfl) (tw_s (tw_g 7 rfl) (tw_s (tw_g 8 rfl) (tw_s (tw_g 9 rfl) (tw_s (tw_g 10 rfl) (tw_s (tw_g 11 rfl) (tw_s (tw_g 12 rfl) (tw_s (tw_g 13 rfl) tw_s0)))))))))) ?_
            exact ih (j + 1) I166 (rTst b x :: stk) (sm) (by omega) hs166 hk166 (fun i a1 a2 => by rw [ot_1 e166 (by decide)]; exact hby i a1 a2) (by rw [rRun, hrun, hx]; rw [rStep, if_pos (by omega)]) (by rw [rDeeps, hdep]; show rDeep _ (s (f + (j : Int))) = _; rw [hx, hD]; rw [hT.2.2.2.2]; rfl) ⟨by rw [e166, uI_at, if_pos rfl], trs_1 htr e166 (by omega)⟩ (by omega) (by simp only [List.length_cons, List.length_nil]; omega)
          · refine ar_iconst (k := 146) rfl ?_
            refine ar_goto (k := 147) rfl ?_
            refine tw_top (y := if rTst b x = true then 1 else 0) (by simp only [rTst]; (repeat' split) <;> simp_all <;> omega) ?_
            refine br_zastJ (k := 166) rfl (hS.k (by decide)) (by omega) (by omega) (by decide) (by omega) (fun I166 e166 => ?_)
            have hs166 : I166 70 = s := by rw [e166]; exact hs
            have hk166 := rk.w hk (by decide) e166
            refine ar_iinc (k := 167) (l2 := [(8, _), (13, _), (12, _), (11, _), (10, _), (9, _), (7, _), (6, _), (5, _), (4, _), (3, _), (0, _), (1, _), (2, _)]) rfl (by decide) rfl rfl ?_
            refine ar_goto (k := 168) rfl ?_
            refine ar_iinc (k := 256) (l2 := [(9, _), (8, _), (13, _), (12, _), (11, _), (10, _), (7, _), (6, _), (5, _), (4, _), (3, _), (0, _), (1, _), (2, _)]) rfl (by decide) rfl rfl ?_
            refine ar_goto (k := 257) rfl ?_
            refine ar_sub (l2 := [(9, vi (f + ((j + 1 : Nat) : Int))), (8, vi ((rTst b x :: stk).length : Int)), (7, vi f), (6, vi (many : Int)), (5, vi (sm)), (4, vi b2), (3, vi a2), (0, vr (some 69)), (1, vi t), (2, vi u)]) (tw_s (tw_e 0 rfl (by omega)) (tw_s (tw_e 1 rfl (by simp only [List.length_cons, List.length_nil] <;> omega)) (tw_s (tw_g 6 rfl) (tw_s (tw_g 7 rfl) (tw_s (tw_g 8 rfl) (tw_s (tw_g 9 rfl) (tw_s (tw_g 10 rfl) (tw_s (tw_g 11 rfl) (tw_s (tw_g 12 rfl) (tw_s (tw_g 13 rfl) tw_s0)))))))))) ?_
            exact ih (j + 1) I166 (rTst b x :: stk) (sm) (by omega) hs166 hk166 (fun i a1 a2 => by rw [ot_1 e166 (by decide)]; exact hby i a1 a2) (by rw [rRun, hrun, hx]; rw [rStep, if_pos (by omega)]) (by rw [rDeeps, hdep]; show rDeep _ (s (f + (j : Int))) = _; rw [hx, hD]; rw [hT.2.2.2.2]; rfl) ⟨by rw [e166, uI_at, if_pos rfl], trs_1 htr e166 (by omega)⟩ (by omega) (by simp only [List.length_cons, List.length_nil]; omega)
theorem c_R_worthOf {t u : Int} (hS : tSt (K, I, Q, n)) (hs : I 70 = s) (hR : RInv s) (hV : RVal s) (t1 : 0 ≤ t ∧ t < s 1) (t2 : s (94 + t) ≠ -1) (u1 : 0 ≤ u ∧ u ≤ 23) : tw_R l G 2 mR_worthOf [vr (some 69), vi t, vi u] K I Q n (some (vi (rWorth s t u))) := by
  obtain ⟨h0, h1, h2, h3, h4, h5, h6, hp, hrw, ht, hr, hb, htp, hv⟩ := id hR
  have hw := ht t (by omega) (by omega)
  have hk : rk I I := rk.rf
  refine tw_intro okR_worthOf (Nat.le_of_ble_eq_true rfl) ?_
  refine ar_aloadn (k := 0) rfl rfl ?_
  refine ar_iloadn (k := 1) rfl rfl ?_
  refine br_callV (k := 2) (as := [_]) rfl lvR_126 (hS.k (by decide)) rfl (c_R_lesser hS hs hR (by omega)) rfl (by decide) (by decide) tw_m0 (Nat.le_of_ble_eq_true rfl) ?_
  have hL : 0 ≤ rLess s t ∧ rLess s t < s 1 ∧ 0 ≤ s (94 + rLess s t) ∧ s (94 + rLess s t) < s 1 := by
    unfold rLess
    split
    · rcases hw.2.2.1 with g | g
      · omega
      · rw [g.2.2.2]; omega
    · omega
  have w1 := ht (rLess s t) (by omega) (by omega)
  have w2 := ht (s (94 + rLess s t)) (by omega) (by omega)
  have w3 := hp (s (84 + rLess s t)) (by omega) (by omega)
  have w4 := hp (s (84 + s (94 + rLess s t))) (by omega) (by omega)
  have hb5 : ∀ i, 0 ≤ i → i ≤ 4 → -1000 ≤ rBy s t u i ∧ rBy s t u i ≤ 1000 := by
    intro i g1 g2
    unfold rBy
    split
    · omega
    · split
      · omega
      · split
        · omega
        · split <;> omega
  refine ar_istoren (k := 3) (l2 := [(3, _), (0, _), (1, _), (2, _)]) rfl (by decide) rfl ?_
  refine ar_aloadn (k := 4) rfl rfl ?_
  refine br_getR (k := 5) rfl (hS.k (by decide)) flR_9_12 (by decide) rfl (hS.r rfl) ?_
  refine ar_bipush (k := 6) rfl (by decide) ?_
  refine ar_iloadn (k := 7) rfl rfl ?_
  refine ar_iadd (k := 8) rfl ?_
  refine br_iads (k := 9) rfl (hS.k (by decide)) (by omega) (by omega) (by decide) hs ?_
  refine ar_istore (k := 10) (l2 := [(4, _), (3, _), (0, _), (1, _), (2, _)]) rfl (by decide) rfl ?_
  refine ar_aloadn (k := 11) rfl rfl ?_
  refine br_getR (k := 12) rfl (hS.k (by decide)) flR_18_12 (by decide) rfl (hS.r rfl) ?_
  refine ar_iconst (k := 13) rfl ?_
  refine ar_iloadn (k := 14) rfl rfl ?_
  refine br_iastJ (k := 15) rfl (hS.k (by decide)) (by omega) (by omega) (by decide) (fun I15 e15 => ?_)
  have hs15 : I15 70 = s := by rw [e15]; exact hs
  have hk15 := rk.w hk (by decide) e15
  refine ar_aloadn (k := 16) rfl rfl ?_
  refine br_getR (k := 17) rfl (hS.k (by decide)) flR_18_12 (by decide) rfl (hS.r rfl) ?_
  refine ar_iconst (k := 18) rfl ?_
  refine ar_aloadn (k := 19) rfl rfl ?_
  refine br_getR (k := 20) rfl (hS.k (by decide)) flR_9_12 (by decide) rfl (hS.r rfl) ?_
  refine ar_bipush (k := 21) rfl (by decide) ?_
  refine ar_iloadn (k := 22) rfl rfl ?_
  refine ar_iadd (k := 23) rfl ?_
  refine br_iads (k := 24) rfl (hS.k (by decide)) (by omega) (by omega) (by decide) hs15 ?_
  refine br_iastJ (k := 25) rfl (hS.k (by decide)) (by omega) (by omega) (by decide) (fun I25 e25 => ?_)
  have hs25 : I25 70 = s := by rw [e25]; exact hs15
  have hk25 := rk.w hk15 (by decide) e25
  refine ar_aloadn (k := 26) rfl rfl ?_
  refine br_getR (k := 27) rfl (hS.k (by decide)) flR_18_12 (by decide) rfl (hS.r rfl) ?_
  refine ar_iconst (k := 28) rfl ?_
  refine ar_iloadn (k := 29) rfl rfl ?_
  refine br_iastJ (k := 30) rfl (hS.k (by decide)) (by omega) (by omega) (by decide) (fun I30 e30 => ?_)
  have hs30 : I30 70 = s := by rw [e30]; exact hs25
  have hk30 := rk.w hk25 (by decide) e30
  refine ar_aloadn (k := 31) rfl rfl ?_
  refine br_getR (k := 32) rfl (hS.k (by decide)) flR_18_12 (by decide) rfl (hS.r rfl) ?_
  refine ar_iconst (k := 33) rfl ?_
  refine ar_aloadn (k := 34) rfl rfl ?_
  refine br_getR (k := 35) rfl (hS.k (by decide)) flR_9_12 (by decide) rfl (hS.r rfl) ?_
  refine ar_bipush (k := 36) rfl (by decide) ?_
  refine ar_aloadn (k := 37) rfl rfl ?_
  refine br_getR (k := 38) rfl (hS.k (by decide)) flR_9_12 (by decide) rfl (hS.r rfl) ?_
  refine ar_bipush (k := 39) rfl (by decide) ?_
  refine ar_iloadn (k := 40) rfl rfl ?_
  refine ar_iadd (k := 41) rfl ?_
  refine br_iads (k := 42) rfl (hS.k (by decide)) (by omega) (by omega) (by decide) hs30 ?_
  refine ar_iadd (k := 43) rfl ?_
  refine br_iads (k := 44) rfl (hS.k (by decide)) (by omega) (by omega) (by decide) hs30 ?_
  refine br_iastJ (k := 45) rfl (hS.k (by decide)) (by omega) (by omega) (by decide) (fun I45 e45 => ?_)
  have hs45 : I45 70 = s := by rw [e45]; exact hs30
  have hk45 := rk.w hk30 (by decide) e45
  refine ar_aloadn (k := 46) rfl rfl ?_
  refine br_getR (k := 47) rfl (hS.k (by decide)) flR_18_12 (by decide) rfl (hS.r rfl) ?_
  refine ar_iconst (k := 48) rfl ?_
  refine ar_aloadn (k := 49) rfl rfl ?_
  refine br_getR (k := 50) rfl (hS.k (by decide)) flR_9_12 (by decide) rfl (hS.r rfl) ?_
  refine ar_bipush (k := 51) rfl (by decide) ?_
  refine ar_aloadn (k := 52) rfl rfl ?_
  refine br_getR (k := 53) rfl (hS.k (by decide)) flR_9_12 (by decide) rfl (hS.r rfl) ?_
  refine ar_bipush (k := 54) rfl (by decide) ?_
  refine ar_iloadn (k := 55) rfl rfl ?_
  refine ar_iadd (k := 56) rfl ?_
  refine br_iads (k := 57) rfl (hS.k (by decide)) (by omega) (by omega) (by decide) hs45 ?_
  refine ar_iadd (k := 58) rfl ?_
  refine br_iads (k := 59) rfl (hS.k (by decide)) (by omega) (by omega) (by decide) hs45 ?_
  refine ar_aloadn (k := 60) rfl rfl ?_
  refine br_getR (k := 61) rfl (hS.k (by decide)) flR_9_12 (by decide) rfl (hS.r rfl) ?_
  refine ar_bipush (k := 62) rfl (by decide) ?_
  refine ar_aloadn (k := 63) rfl rfl ?_
  refine br_getR (k := 64) rfl (hS.k (by decide)) flR_9_12 (by decide) rfl (hS.r rfl) ?_
  refine ar_bipush (k := 65) rfl (by decide) ?_
  refine ar_iload (k := 66) rfl rfl ?_
  refine ar_iadd (k := 67) rfl ?_
  refine br_iads (k := 68) rfl (hS.k (by decide)) (by omega) (by omega) (by decide) hs45 ?_
  refine ar_iadd (k := 69) rfl ?_
  refine br_iads (k := 70) rfl (hS.k (by decide)) (by omega) (by omega) (by decide) hs45 ?_
  refine ar_icmp_ne (k := 71) rfl (by omega) (by omega) (fun c71 => ?_) (fun c71 => ?_)
  · refine ar_iconst (k := 74) rfl ?_
    refine tw_top (y := if s (26 + s (84 + rLess s t)) = s (26 + s (84 + s (94 + rLess s t))) then 1 else 0) (by omega) ?_
    refine br_iastJ (k := 75) rfl (hS.k (by decide)) (by omega) (by omega) (by decide) (fun I75 e75 => ?_)
    have hs75 : I75 70 = s := by rw [e75]; exact hs45
    have hk75 := rk.w hk45 (by decide) e75
    refine ar_iconst (k := 76) rfl ?_
    refine ar_istore (k := 77) (l2 := [(5, _), (4, _), (3, _), (0, _), (1, _), (2, _)]) rfl (by decide) rfl ?_
    refine ar_aloadn (k := 78) rfl rfl ?_
    refine br_getR (k := 79) rfl (hS.k (by decide)) flR_9_12 (by decide) rfl (hS.r rfl) ?_
    refine ar_bipush (k := 80) rfl (by decide) ?_
    refine br_iads (k := 81) rfl (hS.k (by decide)) (by omega) (by omega) (by decide) hs75 ?_
    refine ar_iconst (k := 82) rfl ?_
    refine ar_icmp_ne (k := 83) rfl (by omega) (by omega) (fun c83 => ?_) (fun c83 => ?_)
    · have hw6 := hv (s 6) (by omega) (by omega)
      refine ar_aloadn (k := 86) rfl rfl ?_
      refine br_getR (k := 87) rfl (hS.k (by decide)) flR_9_12 (by decide) rfl (hS.r rfl) ?_
      refine ar_sipush (k := 88) rfl (by decide) ?_
      refine ar_aloadn (k := 89) rfl rfl ?_
      refine br_getR (k := 90) rfl (hS.k (by decide)) flR_9_12 (by decide) rfl (hS.r rfl) ?_
      refine ar_bipush (k := 91) rfl (by decide) ?_
      refine br_iads (k := 92) rfl (hS.k (by decide)) (by omega) (by omega) (by decide) hs75 ?_
      refine ar_iadd (k := 93) rfl ?_
      refine br_iads (k := 94) rfl (hS.k (by decide)) (by omega) (by omega) (by decide) hs75 ?_
      refine ar_istore (k := 95) (l2 := [(6, _), (5, _), (4, _), (3, _), (0, _), (1, _), (2, _)]) rfl (by decide) rfl ?_
      refine ar_sipush (k := 96) rfl (by decide) ?_
      refine ar_sipush (k := 97) rfl (by decide) ?_
      refine ar_aloadn (k := 98) rfl rfl ?_
      refine br_getR (k := 99) rfl (hS.k (by decide)) flR_9_12 (by decide) rfl (hS.r rfl) ?_
      refine ar_bipush (k := 100) rfl (by decide) ?_
      refine br_iads (k := 101) rfl (hS.k (by decide)) (by omega) (by omega) (by decide) hs75 ?_
      refine ar_imul (k := 102) rfl ?_
      refine ar_iadd (k := 103) rfl ?_
      refine ar_istore (k := 104) (l2 := [(7, _), (6, _), (5, _), (4, _), (3, _), (0, _), (1, _), (2, _)]) rfl (by decide) rfl ?_
      refine ar_iconst (k := 105) rfl ?_
      refine ar_istore (k := 106) (l2 := [(8, _), (7, _), (6, _), (5, _), (4, _), (3, _), (0, _), (1, _), (2, _)]) rfl (by decide) rfl ?_
      refine ar_iload (k := 107) rfl rfl ?_
      refine ar_istore (k := 108) (l2 := [(9, _), (8, _), (7, _), (6, _), (5, _), (4, _), (3, _), (0, _), (1, _), (2, _)]) rfl (by decide) rfl ?_
      refine ar_sub (l2 := [(9, vi (284 + 140 * s 6 + ((0 : Nat) : Int))), (8, vi ((([] : List Bool).length : Nat) : Int)), (7, vi (284 + 140 * s 6)), (6, vi (((s (279 + s 6)).toNat : Nat) : Int)), (5, vi 0), (4, vi (s (94 + rLess s t))), (3, vi (rLess s t)), (0, vr (some 69)), (1, vi t), (2, vi u)]) (tw_s (tw_e 0 rfl (by omega)) (tw_s (tw_e 1 rfl (by rfl)) (tw_s (tw_g 2 rfl) (tw_s (tw_e 3 rfl (by omega)) (tw_s (tw_g 4 rfl) (tw_s (tw_g 5 rfl) (tw_s (tw_g 6 rfl) (tw_s (tw_g 7 rfl) (tw_s (tw_g 8 rfl) (tw_s (tw_g 9 rfl) tw_s0)))))))))) ?_
      rw [rWorth, if_neg (by omega)]
      exact l_R_worthOf (I := I) hS hR (by omega) (hV (s 6) (by omega) (by omega)) hb5 (s (279 + s 6)).toNat 0 I75 [] 0 (by omega) hs75 hk75 (by
        intro i g1 g2
        rcases (show i = 0 ∨ i = 1 ∨ i = 2 ∨ i = 3 ∨ i = 4 by omega) with rfl | rfl | rfl | rfl | rfl <;> simp [e75, e45, e30, e25, e15, uI_at, rBy]) rfl rfl trivial (by omega) (by decide)
    · refine ar_iconst (k := 84) rfl ?_
      refine ar_goto (k := 85) rfl ?_
      refine ar_istore (k := 95) (l2 := [(6, _), (5, _), (4, _), (3, _), (0, _), (1, _), (2, _)]) rfl (by decide) rfl ?_
      refine ar_sipush (k := 96) rfl (by decide) ?_
      refine ar_sipush (k := 97) rfl (by decide) ?_
      refine ar_aloadn (k := 98) rfl rfl ?_
      refine br_getR (k := 99) rfl (hS.k (by decide)) flR_9_12 (by decide) rfl (hS.r rfl) ?_
      refine ar_bipush (k := 100) rfl (by decide) ?_
      refine br_iads (k := 101) rfl (hS.k (by decide)) (by omega) (by omega) (by decide) hs75 ?_
      refine ar_imul (k := 102) rfl ?_
      refine ar_iadd (k := 103) rfl ?_
      refine ar_istore (k := 104) (l2 := [(7, _), (6, _), (5, _), (4, _), (3, _), (0, _), (1, _), (2, _)]) rfl (by decide) rfl ?_
      refine ar_iconst (k := 105) rfl ?_
      refine ar_istore (k := 106) (l2 := [(8, _), (7, _), (6, _), (5, _), (4, _), (3, _), (0, _), (1, _), (2, _)]) rfl (by decide) rfl ?_
      refine ar_iload (k := 107) rfl rfl ?_
      refine ar_istore (k := 108) (l2 := [(9, _), (8, _), (7, _), (6, _), (5, _), (4, _), (3, _), (0, _), (1, _), (2, _)]) rfl (by decide) rfl ?_
      refine ar_sub (l2 := [(9, vi (284 + 140 * s 6 + ((0 : Nat) : Int))), (8, vi ((([] : List Bool).length : Nat) : Int)), (7, vi (284 + 140 * s 6)), (6, vi ((0 : Nat) : Int)), (5, vi 0), (4, vi (s (94 + rLess s t))), (3, vi (rLess s t)), (0, vr (some 69)), (1, vi t), (2, vi u)]) (tw_s (tw_e 0 rfl (by omega)) (tw_s (tw_e 1 rfl (by rfl)) (tw_s (tw_g 2 rfl) (tw_s (tw_e 3 rfl (by rfl)) (tw_s (tw_g 4 rfl) (tw_s (tw_g 5 rfl) (tw_s (tw_g 6 rfl) (tw_s (tw_g 7 rfl) (tw_s (tw_g 8 rfl) (tw_s (tw_g 9 rfl) tw_s0)))))))))) ?_
      rw [rWorth, if_pos (by omega)]
      have e0 : (0 : Int) = (rRun (rBy s t u) s (284 + 140 * s 6) 0).2 := rfl
      rw [e0]
      exact l_R_worthOf (I := I) hS hR (by omega) rfl hb5 0 0 I75 [] 0 (by omega) hs75 hk75 (by
        intro i g1 g2
        rcases (show i = 0 ∨ i = 1 ∨ i = 2 ∨ i = 3 ∨ i = 4 by omega) with rfl | rfl | rfl | rfl | rfl <;> simp [e75, e45, e30, e25, e15, uI_at, rBy]) rfl rfl trivial (by omega) (by decide)
  · refine ar_iconst (k := 72) rfl ?_
    refine ar_goto (k := 73) rfl ?_
    refine tw_top (y := if s (26 + s (84 + rLess s t)) = s (26 + s (84 + s (94 + rLess s t))) then 1 else 0) (by omega) ?_
    refine br_iastJ (k := 75) rfl (hS.k (by decide)) (by omega) (by omega) (by decide) (fun I75 e75 => ?_)
    have hs75 : I75 70 = s := by rw [e75]; exact hs45
    have hk75 := rk.w hk45 (by decide) e75
    refine ar_iconst (k := 76) rfl ?_
    refine ar_istore (k := 77) (l2 := [(5, _), (4, _), (3, _), (0, _), (1, _), (2, _)]) rfl (by decide) rfl ?_
    refine ar_aloadn (k := 78) rfl rfl ?_
    refine br_getR (k := 79) rfl (hS.k (by decide)) flR_9_12 (by decide) rfl (hS.r rfl) ?_
    refine ar_bipush (k := 80) rfl (by decide) ?_
    refine br_iads (k := 81) rfl (hS.k (by decide)) (by omega) (by omega) (by decide) hs75 ?_
    refine ar_iconst (k := 82) rfl ?_
    refine ar_icmp_ne (k := 83) rfl (by omega) (by omega) (fun c83 => ?_) (fun c83 => ?_)
    · have hw6 := hv (s 6) (by omega) (by omega)
      refine ar_aloadn (k := 86) rfl rfl ?_
      refine br_getR (k := 87) rfl (hS.k (by decide)) flR_9_12 (by decide) rfl (hS.r rfl) ?_
      refine ar_sipush (k := 88) rfl (by decide) ?_
      refine ar_aloadn (k := 89) rfl rfl ?_
      refine br_getR (k := 90) rfl (hS.k (by decide)) flR_9_12 (by decide) rfl (hS.r rfl) ?_
      refine ar_bipush (k := 91) rfl (by decide) ?_
      refine br_iads (k := 92) rfl (hS.k (by decide)) (by omega) (by omega) (by decide) hs75 ?_
      refine ar_iadd (k := 93) rfl ?_
      refine br_iads (k := 94) rfl (hS.k (by decide)) (by omega) (by omega) (by decide) hs75 ?_
      refine ar_istore (k := 95) (l2 := [(6, _), (5, _), (4, _), (3, _), (0, _), (1, _), (2, _)]) rfl (by decide) rfl ?_
      refine ar_sipush (k := 96) rfl (by decide) ?_
      refine ar_sipush (k := 97) rfl (by decide) ?_
      refine ar_aloadn (k := 98) rfl rfl ?_
      refine br_getR (k := 99) rfl (hS.k (by decide)) flR_9_12 (by decide) rfl (hS.r rfl) ?_
      refine ar_bipush (k := 100) rfl (by decide) ?_
      refine br_iads (k := 101) rfl (hS.k (by decide)) (by omega) (by omega) (by decide) hs75 ?_
      refine ar_imul (k := 102) rfl ?_
      refine ar_iadd (k := 103) rfl ?_
      refine ar_istore (k := 104) (l2 := [(7, _), (6, _), (5, _), (4, _), (3, _), (0, _), (1, _), (2, _)]) rfl (by decide) rfl ?_
      refine ar_iconst (k := 105) rfl ?_
      refine ar_istore (k := 106) (l2 := [(8, _), (7, _), (6, _), (5, _), (4, _), (3, _), (0, _), (1, _), (2, _)]) rfl (by decide) rfl ?_
      refine ar_iload (k := 107) rfl rfl ?_
      refine ar_istore (k := 108) (l2 := [(9, _), (8, _), (7, _), (6, _), (5, _), (4, _), (3, _), (0, _), (1, _), (2, _)]) rfl (by decide) rfl ?_
      refine ar_sub (l2 := [(9, vi (284 + 140 * s 6 + ((0 : Nat) : Int))), (8, vi ((([] : List Bool).length : Nat) : Int)), (7, vi (284 + 140 * s 6)), (6, vi (((s (279 + s 6)).toNat : Nat) : Int)), (5, vi 0), (4, vi (s (94 + rLess s t))), (3, vi (rLess s t)), (0, vr (some 69)), (1, vi t), (2, vi u)]) (tw_s (tw_e 0 rfl (by omega)) (tw_s (tw_e 1 rfl (by rfl)) (tw_s (tw_g 2 rfl) (tw_s (tw_e 3 rfl (by omega)) (tw_s (tw_g 4 rfl) (tw_s (tw_g 5 rfl) (tw_s (tw_g 6 rfl) (tw_s (tw_g 7 rfl) (tw_s (tw_g 8 rfl) (tw_s (tw_g 9 rfl) tw_s0)))))))))) ?_
      rw [rWorth, if_neg (by omega)]
      exact l_R_worthOf (I := I) hS hR (by omega) (hV (s 6) (by omega) (by omega)) hb5 (s (279 + s 6)).toNat 0 I75 [] 0 (by omega) hs75 hk75 (by
        intro i g1 g2
        rcases (show i = 0 ∨ i = 1 ∨ i = 2 ∨ i = 3 ∨ i = 4 by omega) with rfl | rfl | rfl | rfl | rfl <;> simp [e75, e45, e30, e25, e15, uI_at, rBy]) rfl rfl trivial (by omega) (by decide)
    · refine ar_iconst (k := 84) rfl ?_
      refine ar_goto (k := 85) rfl ?_
      refine ar_istore (k := 95) (l2 := [(6, _), (5, _), (4, _), (3, _), (0, _), (1, _), (2, _)]) rfl (by decide) rfl ?_
      refine ar_sipush (k := 96) rfl (by decide) ?_
      refine ar_sipush (k := 97) rfl (by decide) ?_
      refine ar_aloadn (k := 98) rfl rfl ?_
      refine br_getR (k := 99) rfl (hS.k (by decide)) flR_9_12 (by decide) rfl (hS.r rfl) ?_
      refine ar_bipush (k := 100) rfl (by decide) ?_
      refine br_iads (k := 101) rfl (hS.k (by decide)) (by omega) (by omega) (by decide) hs75 ?_
      refine ar_imul (k := 102) rfl ?_
      refine ar_iadd (k := 103) rfl ?_
      refine ar_istore (k := 104) (l2 := [(7, _), (6, _), (5, _), (4, _), (3, _), (0, _), (1, _), (2, _)]) rfl (by decide) rfl ?_
      refine ar_iconst (k := 105) rfl ?_
      refine ar_istore (k := 106) (l2 := [(8, _), (7, _), (6, _), (5, _), (4, _), (3, _), (0, _), (1, _), (2, _)]) rfl (by decide) rfl ?_
      refine ar_iload (k := 107) rfl rfl ?_
      refine ar_istore (k := 108) (l2 := [(9, _), (8, _), (7, _), (6, _), (5, _), (4, _), (3, _), (0, _), (1, _), (2, _)]) rfl (by decide) rfl ?_
      refine ar_sub (l2 := [(9, vi (284 + 140 * s 6 + ((0 : Nat) : Int))), (8, vi ((([] : List Bool).length : Nat) : Int)), (7, vi (284 + 140 * s 6)), (6, vi ((0 : Nat) : Int)), (5, vi 0), (4, vi (s (94 + rLess s t))), (3, vi (rLess s t)), (0, vr (some 69)), (1, vi t), (2, vi u)]) (tw_s (tw_e 0 rfl (by omega)) (tw_s (tw_e 1 rfl (by rfl)) (tw_s (tw_g 2 rfl) (tw_s (tw_e 3 rfl (by rfl)) (tw_s (tw_g 4 rfl) (tw_s (tw_g 5 rfl) (tw_s (tw_g 6 rfl) (tw_s (tw_g 7 rfl) (tw_s (tw_g 8 rfl) (tw_s (tw_g 9 rfl) tw_s0)))))))))) ?_
      rw [rWorth, if_pos (by omega)]
      have e0 : (0 : Int) = (rRun (rBy s t u) s (284 + 140 * s 6) 0).2 := rfl
      rw [e0]
      exact l_R_worthOf (I := I) hS hR (by omega) rfl hb5 0 0 I75 [] 0 (by omega) hs75 hk75 (by
        intro i g1 g2
        rcases (show i = 0 ∨ i = 1 ∨ i = 2 ∨ i = 3 ∨ i = 4 by omega) with rfl | rfl | rfl | rfl | rfl <;> simp [e75, e45, e30, e25, e15, uI_at, rBy]) rfl rfl trivial (by omega) (by decide)
end RD
end
section
theorem rRun_bd {b s : Int → Int} {f : Int} : ∀ (j : Nat) {d : Nat}, rDeeps s f j = some d → -300 * (j : Int) ≤ (rRun b s f j).2 ∧ (rRun b s f j).2 ≤ 300 * (j : Int)
  | 0, d, _ => by simp [rRun]
  | j + 1, d, h => by
    rw [rDeeps] at h
    cases h0 : rDeeps s f j with
    | none => rw [h0] at h; cases h
    | some d0 =>
      rw [h0] at h
      have hD : rDeep d0 (s (f + (j : Int))) = some d := h
      have ih := rRun_bd (b := b) j h0
      rw [rRun, rStep]
      split
      · show _ ≤ (rRun b s f j).2 ∧ (rRun b s f j).2 ≤ _
        omega
      · split
        · show _ ≤ (rRun b s f j).2 ∧ (rRun b s f j).2 ≤ _
          omega
        · split
          · show _ ≤ (rRun b s f j).2 ∧ (rRun b s f j).2 ≤ _
            omega
          · have hc := rDeep_c hD (by omega)
            show _ ≤ (rRun b s f j).2 + _ ∧ (rRun b s f j).2 + _ ≤ _
            split
            · split <;> omega
            · omega
theorem rWorth_bd {s : Int → Int} {t u : Int} (hR : RInv s) (hV : RVal s) : -42000 ≤ rWorth s t u ∧ rWorth s t u ≤ 42000 := by
  obtain ⟨h0, h1, h2, h3, h4, h5, h6, hp, hrw, ht, hr, hb, htp, hv⟩ := hR
  unfold rWorth
  split
  · omega
  · have hw := hv (s 6) (by omega) (by omega)
    have := rRun_bd (b := rBy s t u) _ (hV (s 6) (by omega) (by omega))
    omega
theorem fstD_bd {d : Int} {p : Nat → Bool} {N : Int} : ∀ (k j : Nat), ((j + k : Nat) : Int) ≤ N → -1 ≤ d → d < N → -1 ≤ fstD d p k j ∧ fstD d p k j < N
  | 0, j, _, h1, h2 => ⟨h1, h2⟩
  | k + 1, j, h, h1, h2 => by
    rw [fstD]
    split
    · omega
    · exact fstD_bd k (j + 1) (by omega) h1 h2
theorem fstD_bd' {d : Int} {p : Nat → Bool} {N : Int} : ∀ (k j : Nat), ((j + k : Nat) : Int) ≤ N → (d = -1 ∨ (0 ≤ d ∧ d < N)) → (fstD d p k j = -1 ∨ (0 ≤ fstD d p k j ∧ fstD d p k j < N))
  | 0, j, _, h => h
  | k + 1, j, h, h1 => by
    rw [fstD]
    split
    · omega
    · exact fstD_bd' k (j + 1) (by omega) h1
/-- the best, gone through from j on, of k places -/
def bstN (s : Int → Int) (p u g : Int) : Nat → Nat → Int → Int → Int
  | 0, _, b, _ => b
  | k + 1, j, b, m => if rFitP s p j ∧ (g = 0 ∨ (s (84 + s (94 + (j : Int))) ≠ p ∧ rFreeP s (s (84 + s (94 + (j : Int)))) u)) ∧ (b = -1 ∨ m < rWorth s j u) then bstN s p u g k (j + 1) j (rWorth s j u) else bstN s p u g k (j + 1) b m
theorem bstN_bd {s : Int → Int} {p u g N : Int} : ∀ (k j : Nat) (b m : Int), ((j + k : Nat) : Int) ≤ N → (b = -1 ∨ (0 ≤ b ∧ b < N)) → (bstN s p u g k j b m = -1 ∨ (0 ≤ bstN s p u g k j b m ∧ bstN s p u g k j b m < N))
  | 0, j, b, m, _, h => h
  | k + 1, j, b, m, h, h1 => by
    rw [bstN]
    split
    · exact bstN_bd k (j + 1) _ _ (by omega) (by omega)
    · exact bstN_bd k (j + 1) _ _ (by omega) h1
def rBest (s : Int → Int) (p u g : Int) : Int := bstN s p u g (s 1).toNat 0 (-1) 0
/-- where one works -/
def rAt (s : Int → Int) (p u : Int) : Int :=
  if s (10 + p) = 1 then (if rFreeP s p u ∧ u % rBell s = 0 then rBest s p u 0 else -1)
  else if s (10 + p) = 2 then (if rFreeP s p u then rHome s p else -1)
  else if s (10 + p) = 3 then (if rFreeP s p u then rBest s p u 1 else -1)
  else if s (10 + p) = 4 then (if (if rFreeP s p u ∧ u % rBell s = 0 then rBest s p u 0 else -1) = -1 ∧ (0 ≤ s (18 + p) ∧ s (18 + p) ≤ s 1 - 1) ∧ rFitP s p (s (18 + p)) then s (18 + p) else (if rFreeP s p u ∧ u % rBell s = 0 then rBest s p u 0 else -1))
  else if s (10 + p) = 5 then (if rFreeP s p ((u - s (18 + p) + 24) % 24) then rHome s p else -1)
  else if s (10 + p) = 6 then (if ¬ rFreeP s p u then -1 else if (0 ≤ s (42 + 4 * p + u % 4) ∧ s (42 + 4 * p + u % 4) ≤ s 1 - 1) ∧ s (84 + s (42 + 4 * p + u % 4)) = p then s (42 + 4 * p + u % 4) else rBest s p u 1)
  else (if rFreeP s p u then rLeast s p else -1)
theorem rLeast_bd {s : Int → Int} {p : Int} (h1 : 0 ≤ s 1) : rLeast s p = -1 ∨ (0 ≤ rLeast s p ∧ rLeast s p < s 1) := fstD_bd' _ _ (by omega) (Or.inl rfl)
theorem rHome_bd {s : Int → Int} {p : Int} (h1 : 0 ≤ s 1) : rHome s p = -1 ∨ (0 ≤ rHome s p ∧ rHome s p < s 1) := fstD_bd' _ _ (by omega) (rLeast_bd h1)
theorem rBest_bd {s : Int → Int} {p u g : Int} (h1 : 0 ≤ s 1) : rBest s p u g = -1 ∨ (0 ≤ rBest s p u g ∧ rBest s p u g < s 1) := bstN_bd _ _ _ _ (by omega) (Or.inl rfl)
theorem rAt_bd {s : Int → Int} {p u : Int} (h1 : 0 ≤ s 1) : rAt s p u = -1 ∨ (0 ≤ rAt s p u ∧ rAt s p u < s 1) := by
  have a1 := rLeast_bd (p := p) h1
  have a2 := rHome_bd (p := p) h1
  have a3 := rBest_bd (p := p) (u := u) (g := 0) h1
  have a4 := rBest_bd (p := p) (u := u) (g := 1) h1
  unfold rAt
  (repeat' split) <;> omega
theorem rBell_bd {s : Int → Int} (hR : RInv s) : 1 ≤ rBell s ∧ rBell s ≤ 99 := by
  obtain ⟨h0, h1, h2, h3, h4, h5, h6, hp, hrw, ht, hr, hb, htp, hv⟩ := hR
  unfold rBell
  by_cases g : s 6 = -1
  · rw [if_pos g]; omega
  · rw [if_neg g]
    have := hv (s 6) (by omega) (by omega)
    omega
section RE
variable {l : Launch} {G : tG} {K : Nat → Nat × Nat} {I : Nat → Int → Int} {Q : Nat → Int → Option Nat} {n : Nat} {s : Int → Int}
theorem c_R_worth {t u : Int} (hS : tSt (K, I, Q, n)) (hs : I 70 = s) (hR : RInv s) (hV : RVal s) (tt : tr t) (tu : tr u) : tw_R l G 3 mR_worth [vr (some 69), vi t, vi u] K I Q n (some (vi (if (0 ≤ t ∧ t ≤ s 1 - 1) ∧ (0 ≤ u ∧ u ≤ 23) ∧ s (94 + t) ≠ -1 then rWorth s t u else -10001))) := by
  obtain ⟨h0, h1, h2, h3, h4, h5, h6, hp, hrw, ht, hr, hb, htp, hv⟩ := id hR
  have hk : rk I I := rk.rf
  refine tw_intro okR_worth (Nat.le_of_ble_eq_true rfl) ?_
  refine ar_aloadn (k := 0) rfl rfl ?_
  refine ar_iloadn (k := 1) rfl rfl ?_
  refine br_callV (k := 2) (as := [_]) rfl lvR_120 (hS.k (by decide)) rfl (c_S_isTool hS hs (by omega) h1) rfl (by decide) (by decide) tw_m0 (Nat.le_of_ble_eq_true rfl) ?_
  refine ar_if_eq (k := 3) rfl (by omega) (fun c3 => ?_) (fun c3 => ?_)
  · refine ar_sipush (k := 20) rfl (by decide) ?_
    refine ar_iret (k := 21) rfl rfl rfl (Nat.le_refl _) ?_
    exact ⟨congrArg (fun z => some (vi z)) (by omega), I, rfl, hk⟩
  · refine ar_iloadn (k := 4) rfl rfl ?_
    refine br_callS (k := 5) (as := [_]) rfl lsR_130 (c_R_isHour (by omega)) rfl (by decide) (by decide) tw_m0 (Nat.le_of_ble_eq_true rfl) ?_
    refine ar_if_eq (k := 6) rfl (by omega) (fun c6 => ?_) (fun c6 => ?_)
    · refine ar_sipush (k := 20) rfl (by decide) ?_
      refine ar_iret (k := 21) rfl rfl rfl (Nat.le_refl _) ?_
      exact ⟨congrArg (fun z => some (vi z)) (by omega), I, rfl, hk⟩
    · have hw := ht t (by omega) (by omega)
      refine ar_aloadn (k := 7) rfl rfl ?_
      refine br_getR (k := 8) rfl (hS.k (by decide)) flR_9_12 (by decide) rfl (hS.r rfl) ?_
      refine ar_bipush (k := 9) rfl (by decide) ?_
      refine ar_iloadn (k := 10) rfl rfl ?_
      refine ar_iadd (k := 11) rfl ?_
      refine br_iads (k := 12) rfl (hS.k (by decide)) (by omega) (by omega) (by decide) hs ?_
      refine ar_iconst (k := 13) rfl ?_
      refine ar_icmp_eq (k := 14) rfl (by omega) (by omega) (fun c14 => ?_) (fun c14 => ?_)
      · refine ar_sipush (k := 20) rfl (by decide) ?_
        refine ar_iret (k := 21) rfl rfl rfl (Nat.le_refl _) ?_
        exact ⟨congrArg (fun z => some (vi z)) (by omega), I, rfl, hk⟩
      · refine ar_aloadn (k := 15) rfl rfl ?_
        refine ar_iloadn (k := 16) rfl rfl ?_
        refine ar_iloadn (k := 17) rfl rfl ?_
        refine br_callVR (k := 18) (as := [_, _]) rfl lvR_133 (hS.k (by decide)) rfl (c_R_worthOf hS hs hR hV (by omega) (by omega) (by omega)) rfl (by decide) (by decide) tw_m0 (Nat.le_of_ble_eq_true rfl) (fun I18 q18 => ?_)
        have hs18 : I18 70 = s := q18.s.trans hs
        have hk18 := rk.trans hk q18
        refine ar_goto (k := 19) rfl ?_
        refine ar_iret (k := 21) rfl rfl rfl (Nat.le_refl _) ?_
        exact ⟨congrArg (fun z => some (vi z)) (by omega), I18, rfl, hk18⟩
theorem l_R_atBest {p u g : Int} (hS : tSt (K, I, Q, n)) (hR : RInv s) (hV : RVal s) (p1 : 0 ≤ p ∧ p < 8) (u1 : 0 ≤ u ∧ u ≤ 23) (g1 : g = 0 ∨ g = 1) : ∀ (k : Nat) (j : Nat) (b m : Int) (J : Nat → Int → Int), j + k = (s 1).toNat → J 70 = s → rk I J → (b = -1 ∨ (0 ≤ b ∧ b < 10)) → (-42000 ≤ m ∧ m ≤ 42000) → tw_AW l G mR_atBest 3 0 0 n 0 (fun r h' => r = some (vi (bstN s p u g k j b m)) ∧ ∃ L, h' = (K, L, Q, n) ∧ rk I L) 9 [(6, vi (j : Int)), (5, vi m), (4, vi b), (0, vr (some 69)), (1, vi p), (2, vi u), (3, vi g)] [] (K, J, Q, n) := by
  obtain ⟨h0, h1, h2, h3, h4, h5, h6, hp, hrw, ht, hr, hb, htp, hv⟩ := id hR
  intro k
  induction k with
  | zero =>
    intro j b m J hj hs hk hbb hmm
    refine ar_iload (k := 6) rfl rfl ?_
    refine ar_aloadn (k := 7) rfl rfl ?_
    refine br_getR (k := 8) rfl (hS.k (by decide)) flR_9_12 (by decide) rfl (hS.r rfl) ?_
    refine ar_iconst (k := 9) rfl ?_
    refine br_iads (k := 10) rfl (hS.k (by decide)) (by omega) (by omega) (by decide) hs ?_
    refine ar_icmp_ge (k := 11) rfl (by omega) (by omega) (fun c11 => ?_) (fun c11 => ?_)
    · refine ar_iload (k := 74) rfl rfl ?_
      refine ar_iret (k := 75) rfl rfl rfl (Nat.le_refl _) ?_
      exact ⟨rfl, J, rfl, hk⟩
    · exfalso; omega
  | succ k ih =>
    intro j b m J hj hs hk hbb hmm
    refine ar_iload (k := 6) rfl rfl ?_
    refine ar_aloadn (k := 7) rfl rfl ?_
    refine br_getR (k := 8) rfl (hS.k (by decide)) flR_9_12 (by decide) rfl (hS.r rfl) ?_
    refine ar_iconst (k := 9) rfl ?_
    refine br_iads (k := 10) rfl (hS.k (by decide)) (by omega) (by omega) (by decide) hs ?_
    refine ar_icmp_ge (k := 11) rfl (by omega) (by omega) (fun c11 => ?_) (fun c11 => ?_)
    · exfalso; omega
    · refine ar_aloadn (k := 12) rfl rfl ?_
      refine ar_iloadn (k := 13) rfl rfl ?_
      refine ar_iload (k := 14) rfl rfl ?_
      refine br_callV (k := 15) (as := [_, _]) rfl lvR_137 (hS.k (by decide)) rfl (c_R_isFit hS hs hR (by omega) (by omega)) rfl (by decide) (by decide) tw_m0 (Nat.le_of_ble_eq_true rfl) ?_
      refine ar_if_eq (k := 16) rfl (by omega) (fun c16 => ?_) (fun c16 => ?_)
      · first
          | (exfalso; omega)
          | (refine ar_iinc (k := 72) (l2 := [(6, _), (5, _), (4, _), (0, _), (1, _), (2, _), (3, _)]) rfl (by decide) rfl rfl ?_; refine ar_goto (k := 73) rfl ?_; refine ar_sub (l2 := [(6, vi ((j + 1 : Nat) : Int)), (5, vi (rWorth s j u)), (4, vi ((j : Int))), (0, vr (some 69)), (1, vi p), (2, vi u), (3, vi g)]) (tw_s (tw_e 0 rfl (by omega)) (tw_s (tw_g 1 rfl) (tw_s (tw_g 2 rfl) (tw_s (tw_g 3 rfl) (tw_s (tw_g 4 rfl) (tw_s (tw_g 5 rfl) (tw_s (tw_g 6 rfl) tw_s0))))))) ?_; rw [show bstN s p u g (k + 1) j b m = bstN s p u g k (j + 1) j (rWorth s j u) by rw [bstN, if_pos (by refine ⟨by omega, by omega, by omega⟩)]]; exact ih (j + 1) _ _ J (by omega) hs hk (by omega) (by omega))
          | (refine ar_iinc (k := 72) (l2 := [(6, _), (5, _), (4, _), (0, _), (1, _), (2, _), (3, _)]) rfl (by decide) rfl rfl ?_; refine ar_goto (k := 73) rfl ?_; refine ar_sub (l2 := [(6, vi ((j + 1 : Nat) : Int)), (5, vi (m)), (4, vi (b)), (0, vr (some 69)), (1, vi p), (2, vi u), (3, vi g)]) (tw_s (tw_e 0 rfl (by omega)) (tw_s (tw_g 1 rfl) (tw_s (tw_g 2 rfl) (tw_s (tw_g 3 rfl) (tw_s (tw_g 4 rfl) (tw_s (tw_g 5 rfl) (tw_s (tw_g 6 rfl) tw_s0))))))) ?_; rw [show bstN s p u g (k + 1) j b m = bstN s p u g k (j + 1) b m by rw [bstN, if_neg (by omega)]]; exact ih (j + 1) _ _ J (by omega) hs hk (by omega) (by omega))
      · have hw := ht j (by omega) (by omega)
        have hw2 := ht (s (94 + (j : Int))) (by omega) (by omega)
        have hw3 := rWorth_bd (t := (j : Int)) (u := u) hR hV
        refine ar_aloadn (k := 17) rfl rfl ?_
        refine br_getR (k := 18) rfl (hS.k (by decide)) flR_9_12 (by decide) rfl (hS.r rfl) ?_
        refine ar_bipush (k := 19) rfl (by decide) ?_
        refine ar_aloadn (k := 20) rfl rfl ?_
        refine br_getR (k := 21) rfl (hS.k (by decide)) flR_9_12 (by decide) rfl (hS.r rfl) ?_
        refine ar_bipush (k := 22) rfl (by decide) ?_
        refine ar_iload (k := 23) rfl rfl ?_
        refine ar_iadd (k := 24) rfl ?_
        refine br_iads (k := 25) rfl (hS.k (by decide)) (by omega) (by omega) (by decide) hs ?_
        refine ar_iadd (k := 26) rfl ?_
        refine br_iads (k := 27) rfl (hS.k (by decide)) (by omega) (by omega) (by decide) hs ?_
        refine ar_istore (k := 28) (l2 := [(7, _), (6, _), (5, _), (4, _), (0, _), (1, _), (2, _), (3, _)]) rfl (by decide) rfl ?_
        refine ar_aloadn (k := 29) rfl rfl ?_
        refine ar_iload (k := 30) rfl rfl ?_
        refine ar_iloadn (k := 31) rfl rfl ?_
        refine br_callVR (k := 32) (as := [_, _]) rfl lvR_133 (hS.k (by decide)) rfl (c_R_worthOf hS hs hR hV (by omega) (by omega) (by omega)) rfl (by decide) (by decide) tw_m0 (Nat.le_of_ble_eq_true rfl) (fun I32 q32 => ?_)
        have hs32 : I32 70 = s := q32.s.trans hs
        have hk32 := rk.trans hk q32
        refine ar_istore (k := 33) (l2 := [(8, _), (7, _), (6, _), (5, _), (4, _), (0, _), (1, _), (2, _), (3, _)]) rfl (by decide) rfl ?_
        refine ar_iloadn (k := 34) rfl rfl ?_
        refine ar_if_eq (k := 35) rfl (by omega) (fun c35 => ?_) (fun c35 => ?_)
        · refine ar_iconst (k := 44) rfl ?_
          refine ar_goto (k := 45) rfl ?_
          refine ar_istore (k := 47) (l2 := [(9, _), (8, _), (7, _), (6, _), (5, _), (4, _), (0, _), (1, _), (2, _), (3, _)]) rfl (by decide) rfl ?_
          refine ar_iload (k := 48) rfl rfl ?_
          refine ar_if_eq (k := 49) rfl (by omega) (fun c49 => ?_) (fun c49 => ?_)
          · refine ar_iconst (k := 58) rfl ?_
            refine ar_istore (k := 59) (l2 := [(10, _), (9, _), (8, _), (7, _), (6, _), (5, _), (4, _), (0, _), (1, _), (2, _), (3, _)]) rfl (by decide) rfl ?_
            refine ar_iload (k := 60) rfl rfl ?_
            refine ar_if_eq (k := 61) rfl (by omega) (fun c61 => ?_) (fun c61 => ?_)
            · refine ar_iload (k := 64) rfl rfl ?_
              refine ar_istore (k := 65) (l2 := [(4, _), (10, _), (9, _), (8, _), (7, _), (6, _), (5, _), (0, _), (1, _), (2, _), (3, _)]) rfl (by decide) rfl ?_
              refine ar_iload (k := 66) rfl rfl ?_
              refine ar_if_eq (k := 67) rfl (by omega) (fun c67 => ?_) (fun c67 => ?_)
              · refine ar_iload (k := 70) rfl rfl ?_
                refine ar_istore (k := 71) (l2 := [(5, _), (4, _), (10, _), (9, _), (8, _), (7, _), (6, _), (0, _), (1, _), (2, _), (3, _)]) rfl (by decide) rfl ?_
                first
                  | (exfalso; omega)
                  | (refine ar_iinc (k := 72) (l2 := [(6, _), (5, _), (4, _), (10, _), (9, _), (8, _), (7, _), (0, _), (1, _), (2, _), (3, _)]) rfl (by decide) rfl rfl ?_; refine ar_goto (k := 73) rfl ?_; refine ar_sub (l2 := [(6, vi ((j + 1 : Nat) : Int)), (5, vi (rWorth s j u)), (4, vi ((j : Int))), (0, vr (some 69)), (1, vi p), (2, vi u), (3, vi g)]) (tw_s (tw_e 0 rfl (by omega)) (tw_s (tw_g 1 rfl) (tw_s (tw_g 2 rfl) (tw_s (tw_g 7 rfl) (tw_s (tw_g 8 rfl) (tw_s (tw_g 9 rfl) (tw_s (tw_g 10 rfl) tw_s0))))))) ?_; rw [show bstN s p u g (k + 1) j b m = bstN s p u g k (j + 1) j (rWorth s j u) by rw [bstN, if_pos (by refine ⟨by omega, by omega, by omega⟩)]]; exact ih (j + 1) _ _ I32 (by omega) hs32 hk32 (by omega) (by omega))
                  | (refine ar_iinc (k := 72) (l2 := [(6, _), (5, _), (4, _), (10, _), (9, _), (8, _), (7, _), (0, _), (1, _), (2, _), (3, _)]) rfl (by decide) rfl rfl ?_; refine ar_goto (k := 73) rfl ?_; refine ar_sub (l2 := [(6, vi ((j + 1 : Nat) : Int)), (5, vi (m)), (4, vi (b)), (0, vr (some 69)), (1, vi p), (2, vi u), (3, vi g)]) (tw_s (tw_e 0 rfl (by omega)) (tw_s (tw_g 1 rfl) (tw_s (tw_g 2 rfl) (tw_s (tw_g 7 rfl) (tw_s (tw_g 8 rfl) (tw_s (tw_g 9 rfl) (tw_s (tw_g 10 rfl) tw_s0))))))) ?_; rw [show bstN s p u g (k + 1) j b m = bstN s p u g k (j + 1) b m by rw [bstN, if_neg (by omega)]]; exact ih (j + 1) _ _ I32 (by omega) hs32 hk32 (by omega) (by omega))
              · refine ar_iload (k := 68) rfl rfl ?_
                refine ar_goto (k := 69) rfl ?_
                refine ar_istore (k := 71) (l2 := [(5, _), (4, _), (10, _), (9, _), (8, _), (7, _), (6, _), (0, _), (1, _), (2, _), (3, _)]) rfl (by decide) rfl ?_
                first
                  | (exfalso; omega)
                  | (refine ar_iinc (k := 72) (l2 := [(6, _), (5, _), (4, _), (10, _), (9, _), (8, _), (7, _), (0, _), (1, _), (2, _), (3, _)]) rfl (by decide) rfl rfl ?_; refine ar_goto (k := 73) rfl ?_; refine ar_sub (l2 := [(6, vi ((j + 1 : Nat) : Int)), (5, vi (rWorth s j u)), (4, vi ((j : Int))), (0, vr (some 69)), (1, vi p), (2, vi u), (3, vi g)]) (tw_s (tw_e 0 rfl (by omega)) (tw_s (tw_g 1 rfl) (tw_s (tw_g 2 rfl) (tw_s (tw_g 7 rfl) (tw_s (tw_g 8 rfl) (tw_s (tw_g 9 rfl) (tw_s (tw_g 10 rfl) tw_s0))))))) ?_; rw [show bstN s p u g (k + 1) j b m = bstN s p u g k (j + 1) j (rWorth s j u) by rw [bstN, if_pos (by refine ⟨by omega, by omega, by omega⟩)]]; exact ih (j + 1) _ _ I32 (by omega) hs32 hk32 (by omega) (by omega))
                  | (refine ar_iinc (k := 72) (l2 := [(6, _), (5, _), (4, _), (10, _), (9, _), (8, _), (7, _), (0, _), (1, _), (2, _), (3, _)]) rfl (by decide) rfl rfl ?_; refine ar_goto (k := 73) rfl ?_; refine ar_sub (l2 := [(6, vi ((j + 1 : Nat) : Int)), (5, vi (m)), (4, vi (b)), (0, vr (some 69)), (1, vi p), (2, vi u), (3, vi g)]) (tw_s (tw_e 0 rfl (by omega)) (tw_s (tw_g 1 rfl) (tw_s (tw_g 2 rfl) (tw_s (tw_g 7 rfl) (tw_s (tw_g 8 rfl) (tw_s (tw_g 9 rfl) (tw_s (tw_g 10 rfl) tw_s0))))))) ?_; rw [show bstN s p u g (k + 1) j b m = bstN s p u g k (j + 1) b m by rw [bstN, if_neg (by omega)]]; exact ih (j + 1) _ _ I32 (by omega) hs32 hk32 (by omega) (by omega))
            · refine ar_iload (k := 62) rfl rfl ?_
              refine ar_goto (k := 63) rfl ?_
              refine ar_istore (k := 65) (l2 := [(4, _), (10, _), (9, _), (8, _), (7, _), (6, _), (5, _), (0, _), (1, _), (2, _), (3, _)]) rfl (by decide) rfl ?_
              refine ar_iload (k := 66) rfl rfl ?_
              refine ar_if_eq (k := 67) rfl (by omega) (fun c67 => ?_) (fun c67 => ?_)
              · refine ar_iload (k := 70) rfl rfl ?_
                refine ar_istore (k := 71) (l2 := [(5, _), (4, _), (10, _), (9, _), (8, _), (7, _), (6, _), (0, _), (1, _), (2, _), (3, _)]) rfl (by decide) rfl ?_
                first
                  | (exfalso; omega)
                  | (refine ar_iinc (k := 72) (l2 := [(6, _), (5, _), (4, _), (10, _), (9, _), (8, _), (7, _), (0, _), (1, _), (2, _), (3, _)]) rfl (by decide) rfl rfl ?_; refine ar_goto (k := 73) rfl ?_; refine ar_sub (l2 := [(6, vi ((j + 1 : Nat) : Int)), (5, vi (rWorth s j u)), (4, vi ((j : Int))), (0, vr (some 69)), (1, vi p), (2, vi u), (3, vi g)]) (tw_s (tw_e 0 rfl (by omega)) (tw_s (tw_g 1 rfl) (tw_s (tw_g 2 rfl) (tw_s (tw_g 7 rfl) (tw_s (tw_g 8 rfl) (tw_s (tw_g 9 rfl) (tw_s (tw_g 10 rfl) tw_s0))))))) ?_; rw [show bstN s p u g (k + 1) j b m = bstN s p u g k (j + 1) j (rWorth s j u) by rw [bstN, if_pos (by refine ⟨by omega, by omega, by omega⟩)]]; exact ih (j + 1) _ _ I32 (by omega) hs32 hk32 (by omega) (by omega))
                  | (refine ar_iinc (k := 72) (l2 := [(6, _), (5, _), (4, _), (10, _), (9, _), (8, _), (7, _), (0, _), (1, _), (2, _), (3, _)]) rfl (by decide) rfl rfl ?_; refine ar_goto (k := 73) rfl ?_; refine ar_sub (l2 := [(6, vi ((j + 1 : Nat) : Int)), (5, vi (m)), (4, vi (b)), (0, vr (some 69)), (1, vi p), (2, vi u), (3, vi g)]) (tw_s (tw_e 0 rfl (by omega)) (tw_s (tw_g 1 rfl) (tw_s (tw_g 2 rfl) (tw_s (tw_g 7 rfl) (tw_s (tw_g 8 rfl) (tw_s (tw_g 9 rfl) (tw_s (tw_g 10 rfl) tw_s0))))))) ?_; rw [show bstN s p u g (k + 1) j b m = bstN s p u g k (j + 1) b m by rw [bstN, if_neg (by omega)]]; exact ih (j + 1) _ _ I32 (by omega) hs32 hk32 (by omega) (by omega))
              · refine ar_iload (k := 68) rfl rfl ?_
                refine ar_goto (k := 69) rfl ?_
                refine ar_istore (k := 71) (l2 := [(5, _), (4, _), (10, _), (9, _), (8, _), (7, _), (6, _), (0, _), (1, _), (2, _), (3, _)]) rfl (by decide) rfl ?_
                first
                  | (exfalso; omega)
                  | (refine ar_iinc (k := 72) (l2 := [(6, _), (5, _), (4, _), (10, _), (9, _), (8, _), (7, _), (0, _), (1, _), (2, _), (3, _)]) rfl (by decide) rfl rfl ?_; refine ar_goto (k := 73) rfl ?_; refine ar_sub (l2 := [(6, vi ((j + 1 : Nat) : Int)), (5, vi (rWorth s j u)), (4, vi ((j : Int))), (0, vr (some 69)), (1, vi p), (2, vi u), (3, vi g)]) (tw_s (tw_e 0 rfl (by omega)) (tw_s (tw_g 1 rfl) (tw_s (tw_g 2 rfl) (tw_s (tw_g 7 rfl) (tw_s (tw_g 8 rfl) (tw_s (tw_g 9 rfl) (tw_s (tw_g 10 rfl) tw_s0))))))) ?_; rw [show bstN s p u g (k + 1) j b m = bstN s p u g k (j + 1) j (rWorth s j u) by rw [bstN, if_pos (by refine ⟨by omega, by omega, by omega⟩)]]; exact ih (j + 1) _ _ I32 (by omega) hs32 hk32 (by omega) (by omega))
                  | (refine ar_iinc (k := 72) (l2 := [(6, _), (5, _), (4, _), (10, _), (9, _), (8, _), (7, _), (0, _), (1, _), (2, _), (3, _)]) rfl (by decide) rfl rfl ?_; refine ar_goto (k := 73) rfl ?_; refine ar_sub (l2 := [(6, vi ((j + 1 : Nat) : Int)), (5, vi (m)), (4, vi (b)), (0, vr (some 69)), (1, vi p), (2, vi u), (3, vi g)]) (tw_s (tw_e 0 rfl (by omega)) (tw_s (tw_g 1 rfl) (tw_s (tw_g 2 rfl) (tw_s (tw_g 7 rfl) (tw_s (tw_g 8 rfl) (tw_s (tw_g 9 rfl) (tw_s (tw_g 10 rfl) tw_s0))))))) ?_; rw [show bstN s p u g (k + 1) j b m = bstN s p u g k (j + 1) b m by rw [bstN, if_neg (by omega)]]; exact ih (j + 1) _ _ I32 (by omega) hs32 hk32 (by omega) (by omega))
          · refine ar_iload (k := 50) rfl rfl ?_
            refine ar_iconst (k := 51) rfl ?_
            refine ar_icmp_eq (k := 52) rfl (by omega) (by omega) (fun c52 => ?_) (fun c52 => ?_)
            · refine ar_iconst (k := 56) rfl ?_
              refine ar_goto (k := 57) rfl ?_
              refine ar_istore (k := 59) (l2 := [(10, _), (9, _), (8, _), (7, _), (6, _), (5, _), (4, _), (0, _), (1, _), (2, _), (3, _)]) rfl (by decide) rfl ?_
              refine ar_iload (k := 60) rfl rfl ?_
              refine ar_if_eq (k := 61) rfl (by omega) (fun c61 => ?_) (fun c61 => ?_)
              · refine ar_iload (k := 64) rfl rfl ?_
                refine ar_istore (k := 65) (l2 := [(4, _), (10, _), (9, _), (8, _), (7, _), (6, _), (5, _), (0, _), (1, _), (2, _), (3, _)]) rfl (by decide) rfl ?_
                refine ar_iload (k := 66) rfl rfl ?_
                refine ar_if_eq (k := 67) rfl (by omega) (fun c67 => ?_) (fun c67 => ?_)
                · refine ar_iload (k := 70) rfl rfl ?_
                  refine ar_istore (k := 71) (l2 := [(5, _), (4, _), (10, _), (9, _), (8, _), (7, _), (6, _), (0, _), (1, _), (2, _), (3, _)]) rfl (by decide) rfl ?_
                  first
                    | (exfalso; omega)
                    | (refine ar_iinc (k := 72) (l2 := [(6, _), (5, _), (4, _), (10, _), (9, _), (8, _), (7, _), (0, _), (1, _), (2, _), (3, _)]) rfl (by decide) rfl rfl ?_; refine ar_goto (k := 73) rfl ?_; refine ar_sub (l2 := [(6, vi ((j + 1 : Nat) : Int)), (5, vi (rWorth s j u)), (4, vi ((j : Int))), (0, vr (some 69)), (1, vi p), (2, vi u), (3, vi g)]) (tw_s (tw_e 0 rfl (by omega)) (tw_s (tw_g 1 rfl) (tw_s (tw_g 2 rfl) (tw_s (tw_g 7 rfl) (tw_s (tw_g 8 rfl) (tw_s (tw_g 9 rfl) (tw_s (tw_g 10 rfl) tw_s0))))))) ?_; rw [show bstN s p u g (k + 1) j b m = bstN s p u g k (j + 1) j (rWorth s j u) by rw [bstN, if_pos (by refine ⟨by omega, by omega, by omega⟩)]]; exact ih (j + 1) _ _ I32 (by omega) hs32 hk32 (by omega) (by omega))
                    | (refine ar_iinc (k := 72) (l2 := [(6, _), (5, _), (4, _), (10, _), (9, _), (8, _), (7, _), (0, _), (1, _), (2, _), (3, _)]) rfl (by decide) rfl rfl ?_; refine ar_goto (k := 73) rfl ?_; refine ar_sub (l2 := [(6, vi ((j + 1 : Nat) : Int)), (5, vi (m)), (4, vi (b)), (0, vr (some 69)), (1, vi p), (2, vi u), (3, vi g)]) (tw_s (tw_e 0 rfl (by omega)) (tw_s (tw_g 1 rfl) (tw_s (tw_g 2 rfl) (tw_s (tw_g 7 rfl) (tw_s (tw_g 8 rfl) (tw_s (tw_g 9 rfl) (tw_s (tw_g 10 rfl) tw_s0))))))) ?_; rw [show bstN s p u g (k + 1) j b m = bstN s p u g k (j + 1) b m by rw [bstN, if_neg (by omega)]]; exact ih (j + 1) _ _ I32 (by omega) hs32 hk32 (by omega) (by omega))
                · refine ar_iload (k := 68) rfl rfl ?_
                  refine ar_goto (k := 69) rfl ?_
                  refine ar_istore (k := 71) (l2 := [(5, _), (4, _), (10, _), (9, _), (8, _), (7, _), (6, _), (0, _), (1, _), (2, _), (3, _)]) rfl (by decide) rfl ?_
                  first
                    | (exfalso; omega)
                    | (refine ar_iinc (k := 72) (l2 := [(6, _), (5, _), (4, _), (10, _), (9, _), (8, _), (7, _), (0, _), (1, _), (2, _), (3, _)]) rfl (by decide) rfl rfl ?_; refine ar_goto (k := 73) rfl ?_; refine ar_sub (l2 := [(6, vi ((j + 1 : Nat) : Int)), (5, vi (rWorth s j u)), (4, vi ((j : Int))), (0, vr (some 69)), (1, vi p), (2, vi u), (3, vi g)]) (tw_s (tw_e 0 rfl (by omega)) (tw_s (tw_g 1 rfl) (tw_s (tw_g 2 rfl) (tw_s (tw_g 7 rfl) (tw_s (tw_g 8 rfl) (tw_s (tw_g 9 rfl) (tw_s (tw_g 10 rfl) tw_s0))))))) ?_; rw [show bstN s p u g (k + 1) j b m = bstN s p u g k (j + 1) j (rWorth s j u) by rw [bstN, if_pos (by refine ⟨by omega, by omega, by omega⟩)]]; exact ih (j + 1) _ _ I32 (by omega) hs32 hk32 (by omega) (by omega))
                    | (refine ar_iinc (k := 72) (l2 := [(6, _), (5, _), (4, _), (10, _), (9, _), (8, _), (7, _), (0, _), (1, _), (2, _), (3, _)]) rfl (by decide) rfl rfl ?_; refine ar_goto (k := 73) rfl ?_; refine ar_sub (l2 := [(6, vi ((j + 1 : Nat) : Int)), (5, vi (m)), (4, vi (b)), (0, vr (some 69)), (1, vi p), (2, vi u), (3, vi g)]) (tw_s (tw_e 0 rfl (by omega)) (tw_s (tw_g 1 rfl) (tw_s (tw_g 2 rfl) (tw_s (tw_g 7 rfl) (tw_s (tw_g 8 rfl) (tw_s (tw_g 9 rfl) (tw_s (tw_g 10 rfl) tw_s0))))))) ?_; rw [show bstN s p u g (k + 1) j b m = bstN s p u g k (j + 1) b m by rw [bstN, if_neg (by omega)]]; exact ih (j + 1) _ _ I32 (by omega) hs32 hk32 (by omega) (by omega))
              · refine ar_iload (k := 62) rfl rfl ?_
                refine ar_goto (k := 63) rfl ?_
                refine ar_istore (k := 65) (l2 := [(4, _), (10, _), (9, _), (8, _), (7, _), (6, _), (5, _), (0, _), (1, _), (2, _), (3, _)]) rfl (by decide) rfl ?_
                refine ar_iload (k := 66) rfl rfl ?_
                refine ar_if_eq (k := 67) rfl (by omega) (fun c67 => ?_) (fun c67 => ?_)
                · refine ar_iload (k := 70) rfl rfl ?_
                  refine ar_istore (k := 71) (l2 := [(5, _), (4, _), (10, _), (9, _), (8, _), (7, _), (6, _), (0, _), (1, _), (2, _), (3, _)]) rfl (by decide) rfl ?_
                  first
                    | (exfalso; omega)
                    | (refine ar_iinc (k := 72) (l2 := [(6, _), (5, _), (4, _), (10, _), (9, _), (8, _), (7, _), (0, _), (1, _), (2, _), (3, _)]) rfl (by decide) rfl rfl ?_; refine ar_goto (k := 73) rfl ?_; refine ar_sub (l2 := [(6, vi ((j + 1 : Nat) : Int)), (5, vi (rWorth s j u)), (4, vi ((j : Int))), (0, vr (some 69)), (1, vi p), (2, vi u), (3, vi g)]) (tw_s (tw_e 0 rfl (by omega)) (tw_s (tw_g 1 rfl) (tw_s (tw_g 2 rfl) (tw_s (tw_g 7 rfl) (tw_s (tw_g 8 rfl) (tw_s (tw_g 9 rfl) (tw_s (tw_g 10 rfl) tw_s0))))))) ?_; rw [show bstN s p u g (k + 1) j b m = bstN s p u g k (j + 1) j (rWorth s j u) by rw [bstN, if_pos (by refine ⟨by omega, by omega, by omega⟩)]]; exact ih (j + 1) _ _ I32 (by omega) hs32 hk32 (by omega) (by omega))
                    | (refine ar_iinc (k := 72) (l2 := [(6, _), (5, _), (4, _), (10, _), (9, _), (8, _), (7, _), (0, _), (1, _), (2, _), (3, _)]) rfl (by decide) rfl rfl ?_; refine ar_goto (k := 73) rfl ?_; refine ar_sub (l2 := [(6, vi ((j + 1 : Nat) : Int)), (5, vi (m)), (4, vi (b)), (0, vr (some 69)), (1, vi p), (2, vi u), (3, vi g)]) (tw_s (tw_e 0 rfl (by omega)) (tw_s (tw_g 1 rfl) (tw_s (tw_g 2 rfl) (tw_s (tw_g 7 rfl) (tw_s (tw_g 8 rfl) (tw_s (tw_g 9 rfl) (tw_s (tw_g 10 rfl) tw_s0))))))) ?_; rw [show bstN s p u g (k + 1) j b m = bstN s p u g k (j + 1) b m by rw [bstN, if_neg (by omega)]]; exact ih (j + 1) _ _ I32 (by omega) hs32 hk32 (by omega) (by omega))
                · refine ar_iload (k := 68) rfl rfl ?_
                  refine ar_goto (k := 69) rfl ?_
                  refine ar_istore (k := 71) (l2 := [(5, _), (4, _), (10, _), (9, _), (8, _), (7, _), (6, _), (0, _), (1, _), (2, _), (3, _)]) rfl (by decide) rfl ?_
                  first
                    | (exfalso; omega)
                    | (refine ar_iinc (k := 72) (l2 := [(6, _), (5, _), (4, _), (10, _), (9, _), (8, _), (7, _), (0, _), (1, _), (2, _), (3, _)]) rfl (by decide) rfl rfl ?_; refine ar_goto (k := 73) rfl ?_; refine ar_sub (l2 := [(6, vi ((j + 1 : Nat) : Int)), (5, vi (rWorth s j u)), (4, vi ((j : Int))), (0, vr (some 69)), (1, vi p), (2, vi u), (3, vi g)]) (tw_s (tw_e 0 rfl (by omega)) (tw_s (tw_g 1 rfl) (tw_s (tw_g 2 rfl) (tw_s (tw_g 7 rfl) (tw_s (tw_g 8 rfl) (tw_s (tw_g 9 rfl) (tw_s (tw_g 10 rfl) tw_s0))))))) ?_; rw [show bstN s p u g (k + 1) j b m = bstN s p u g k (j + 1) j (rWorth s j u) by rw [bstN, if_pos (by refine ⟨by omega, by omega, by omega⟩)]]; exact ih (j + 1) _ _ I32 (by omega) hs32 hk32 (by omega) (by omega))
                    | (refine ar_iinc (k := 72) (l2 := [(6, _), (5, _), (4, _), (10, _), (9, _), (8, _), (7, _), (0, _), (1, _), (2, _), (3, _)]) rfl (by decide) rfl rfl ?_; refine ar_goto (k := 73) rfl ?_; refine ar_sub (l2 := [(6, vi ((j + 1 : Nat) : Int)), (5, vi (m)), (4, vi (b)), (0, vr (some 69)), (1, vi p), (2, vi u), (3, vi g)]) (tw_s (tw_e 0 rfl (by omega)) (tw_s (tw_g 1 rfl) (tw_s (tw_g 2 rfl) (tw_s (tw_g 7 rfl) (tw_s (tw_g 8 rfl) (tw_s (tw_g 9 rfl) (tw_s (tw_g 10 rfl) tw_s0))))))) ?_; rw [show bstN s p u g (k + 1) j b m = bstN s p u g k (j + 1) b m by rw [bstN, if_neg (by omega)]]; exact ih (j + 1) _ _ I32 (by omega) hs32 hk32 (by omega) (by omega))
            · refine ar_iload (k := 53) rfl rfl ?_
              refine ar_iload (k := 54) rfl rfl ?_
              refine ar_icmp_le (k := 55) rfl (by omega) (by omega) (fun c55 => ?_) (fun c55 => ?_)
              · refine ar_iconst (k := 58) rfl ?_
                refine ar_istore (k := 59) (l2 := [(10, _), (9, _), (8, _), (7, _), (6, _), (5, _), (4, _), (0, _), (1, _), (2, _), (3, _)]) rfl (by decide) rfl ?_
                refine ar_iload (k := 60) rfl rfl ?_
                refine ar_if_eq (k := 61) rfl (by omega) (fun c61 => ?_) (fun c61 => ?_)
                · refine ar_iload (k := 64) rfl rfl ?_
                  refine ar_istore (k := 65) (l2 := [(4, _), (10, _), (9, _), (8, _), (7, _), (6, _), (5, _), (0, _), (1, _), (2, _), (3, _)]) rfl (by decide) rfl ?_
                  refine ar_iload (k := 66) rfl rfl ?_
                  refine ar_if_eq (k := 67) rfl (by omega) (fun c67 => ?_) (fun c67 => ?_)
                  · refine ar_iload (k := 70) rfl rfl ?_
                    refine ar_istore (k := 71) (l2 := [(5, _), (4, _), (10, _), (9, _), (8, _), (7, _), (6, _), (0, _), (1, _), (2, _), (3, _)]) rfl (by decide) rfl ?_
                    first
                      | (exfalso; omega)
                      | (refine ar_iinc (k := 72) (l2 := [(6, _), (5, _), (4, _), (10, _), (9, _), (8, _), (7, _), (0, _), (1, _), (2, _), (3, _)]) rfl (by decide) rfl rfl ?_; refine ar_goto (k := 73) rfl ?_; refine ar_sub (l2 := [(6, vi ((j + 1 : Nat) : Int)), (5, vi (rWorth s j u)), (4, vi ((j : Int))), (0, vr (some 69)), (1, vi p), (2, vi u), (3, vi g)]) (tw_s (tw_e 0 rfl (by omega)) (tw_s (tw_g 1 rfl) (tw_s (tw_g 2 rfl) (tw_s (tw_g 7 rfl) (tw_s (tw_g 8 rfl) (tw_s (tw_g 9 rfl) (tw_s (tw_g 10 rfl) tw_s0))))))) ?_; rw [show bstN s p u g (k + 1) j b m = bstN s p u g k (j + 1) j (rWorth s j u) by rw [bstN, if_pos (by refine ⟨by omega, by omega, by omega⟩)]]; exact ih (j + 1) _ _ I32 (by omega) hs32 hk32 (by omega) (by omega))
                      | (refine ar_iinc (k := 72) (l2 := [(6, _), (5, _), (4, _), (10, _), (9, _), (8, _), (7, _), (0, _), (1, _), (2, _), (3, _)]) rfl (by decide) rfl rfl ?_; refine ar_goto (k := 73) rfl ?_; refine ar_sub (l2 := [(6, vi ((j + 1 : Nat) : Int)), (5, vi (m)), (4, vi (b)), (0, vr (some 69)), (1, vi p), (2, vi u), (3, vi g)]) (tw_s (tw_e 0 rfl (by omega)) (tw_s (tw_g 1 rfl) (tw_s (tw_g 2 rfl) (tw_s (tw_g 7 rfl) (tw_s (tw_g 8 rfl) (tw_s (tw_g 9 rfl) (tw_s (tw_g 10 rfl) tw_s0))))))) ?_; rw [show bstN s p u g (k + 1) j b m = bstN s p u g k (j + 1) b m by rw [bstN, if_neg (by omega)]]; exact ih (j + 1) _ _ I32 (by omega) hs32 hk32 (by omega) (by omega))
                  · refine ar_iload (k := 68) rfl rfl ?_
                    refine ar_goto (k := 69) rfl ?_
                    refine ar_istore (k := 71) (l2 := [(5, _), (4, _), (10, _), (9, _), (8, _), (7, _), (6, _), (0, _), (1, _), (2, _), (3, _)]) rfl (by decide) rfl ?_
                    first
                      | (exfalso; omega)
                      | (refine ar_iinc (k := 72) (l2 := [(6, _), (5, _), (4, _), (10, _), (9, _), (8, _), (7, _), (0, _), (1, _), (2, _), (3, _)]) rfl (by decide) rfl rfl ?_; refine ar_goto (k := 73) rfl ?_; refine ar_sub (l2 := [(6, vi ((j + 1 : Nat) : Int)), (5, vi (rWorth s j u)), (4, vi ((j : Int))), (0, vr (some 69)), (1, vi p), (2, vi u), (3, vi g)]) (tw_s (tw_e 0 rfl (by omega)) (tw_s (tw_g 1 rfl) (tw_s (tw_g 2 rfl) (tw_s (tw_g 7 rfl) (tw_s (tw_g 8 rfl) (tw_s (tw_g 9 rfl) (tw_s (tw_g 10 rfl) tw_s0))))))) ?_; rw [show bstN s p u g (k + 1) j b m = bstN s p u g k (j + 1) j (rWorth s j u) by rw [bstN, if_pos (by refine ⟨by omega, by omega, by omega⟩)]]; exact ih (j + 1) _ _ I32 (by omega) hs32 hk32 (by omega) (by omega))
                      | (refine ar_iinc (k := 72) (l2 := [(6, _), (5, _), (4, _), (10, _), (9, _), (8, _), (7, _), (0, _), (1, _), (2, _), (3, _)]) rfl (by decide) rfl rfl ?_; refine ar_goto (k := 73) rfl ?_; refine ar_sub (l2 := [(6, vi ((j + 1 : Nat) : Int)), (5, vi (m)), (4, vi (b)), (0, vr (some 69)), (1, vi p), (2, vi u), (3, vi g)]) (tw_s (tw_e 0 rfl (by omega)) (tw_s (tw_g 1 rfl) (tw_s (tw_g 2 rfl) (tw_s (tw_g 7 rfl) (tw_s (tw_g 8 rfl) (tw_s (tw_g 9 rfl) (tw_s (tw_g 10 rfl) tw_s0))))))) ?_; rw [show bstN s p u g (k + 1) j b m = bstN s p u g k (j + 1) b m by rw [bstN, if_neg (by omega)]]; exact ih (j + 1) _ _ I32 (by omega) hs32 hk32 (by omega) (by omega))
                · refine ar_iload (k := 62) rfl rfl ?_
                  refine ar_goto (k := 63) rfl ?_
                  refine ar_istore (k := 65) (l2 := [(4, _), (10, _), (9, _), (8, _), (7, _), (6, _), (5, _), (0, _), (1, _), (2, _), (3, _)]) rfl (by decide) rfl ?_
                  refine ar_iload (k := 66) rfl rfl ?_
                  refine ar_if_eq (k := 67) rfl (by omega) (fun c67 => ?_) (fun c67 => ?_)
                  · refine ar_iload (k := 70) rfl rfl ?_
                    refine ar_istore (k := 71) (l2 := [(5, _), (4, _), (10, _), (9, _), (8, _), (7, _), (6, _), (0, _), (1, _), (2, _), (3, _)]) rfl (by decide) rfl ?_
                    first
                      | (exfalso; omega)
                      | (refine ar_iinc (k := 72) (l2 := [(6, _), (5, _), (4, _), (10, _), (9, _), (8, _), (7, _), (0, _), (1, _), (2, _), (3, _)]) rfl (by decide) rfl rfl ?_; refine ar_goto (k := 73) rfl ?_; refine ar_sub (l2 := [(6, vi ((j + 1 : Nat) : Int)), (5, vi (rWorth s j u)), (4, vi ((j : Int))), (0, vr (some 69)), (1, vi p), (2, vi u), (3, vi g)]) (tw_s (tw_e 0 rfl (by omega)) (tw_s (tw_g 1 rfl) (tw_s (tw_g 2 rfl) (tw_s (tw_g 7 rfl) (tw_s (tw_g 8 rfl) (tw_s (tw_g 9 rfl) (tw_s (tw_g 10 rfl) tw_s0))))))) ?_; rw [show bstN s p u g (k + 1) j b m = bstN s p u g k (j + 1) j (rWorth s j u) by rw [bstN, if_pos (by refine ⟨by omega, by omega, by omega⟩)]]; exact ih (j + 1) _ _ I32 (by omega) hs32 hk32 (by omega) (by omega))
                      | (refine ar_iinc (k := 72) (l2 := [(6, _), (5, _), (4, _), (10, _), (9, _), (8, _), (7, _), (0, _), (1, _), (2, _), (3, _)]) rfl (by decide) rfl rfl ?_; refine ar_goto (k := 73) rfl ?_; refine ar_sub (l2 := [(6, vi ((j + 1 : Nat) : Int)), (5, vi (m)), (4, vi (b)), (0, vr (some 69)), (1, vi p), (2, vi u), (3, vi g)]) (tw_s (tw_e 0 rfl (by omega)) (tw_s (tw_g 1 rfl) (tw_s (tw_g 2 rfl) (tw_s (tw_g 7 rfl) (tw_s (tw_g 8 rfl) (tw_s (tw_g 9 rfl) (tw_s (tw_g 10 rfl) tw_s0))))))) ?_; rw [show bstN s p u g (k + 1) j b m = bstN s p u g k (j + 1) b m by rw [bstN, if_neg (by omega)]]; exact ih (j + 1) _ _ I32 (by omega) hs32 hk32 (by omega) (by omega))
                  · refine ar_iload (k := 68) rfl rfl ?_
                    refine ar_goto (k := 69) rfl ?_
                    refine ar_istore (k := 71) (l2 := [(5, _), (4, _), (10, _), (9, _), (8, _), (7, _), (6, _), (0, _), (1, _), (2, _), (3, _)]) rfl (by decide) rfl ?_
                    first
                      | (exfalso; omega)
                      | (refine ar_iinc (k := 72) (l2 := [(6, _), (5, _), (4, _), (10, _), (9, _), (8, _), (7, _), (0, _), (1, _), (2, _), (3, _)]) rfl (by decide) rfl rfl ?_; refine ar_goto (k := 73) rfl ?_; refine ar_sub (l2 := [(6, vi ((j + 1 : Nat) : Int)), (5, vi (rWorth s j u)), (4, vi ((j : Int))), (0, vr (some 69)), (1, vi p), (2, vi u), (3, vi g)]) (tw_s (tw_e 0 rfl (by omega)) (tw_s (tw_g 1 rfl) (tw_s (tw_g 2 rfl) (tw_s (tw_g 7 rfl) (tw_s (tw_g 8 rfl) (tw_s (tw_g 9 rfl) (tw_s (tw_g 10 rfl) tw_s0))))))) ?_; rw [show bstN s p u g (k + 1) j b m = bstN s p u g k (j + 1) j (rWorth s j u) by rw [bstN, if_pos (by refine ⟨by omega, by omega, by omega⟩)]]; exact ih (j + 1) _ _ I32 (by omega) hs32 hk32 (by omega) (by omega))
                      | (refine ar_iinc (k := 72) (l2 := [(6, _), (5, _), (4, _), (10, _), (9, _), (8, _), (7, _), (0, _), (1, _), (2, _), (3, _)]) rfl (by decide) rfl rfl ?_; refine ar_goto (k := 73) rfl ?_; refine ar_sub (l2 := [(6, vi ((j + 1 : Nat) : Int)), (5, vi (m)), (4, vi (b)), (0, vr (some 69)), (1, vi p), (2, vi u), (3, vi g)]) (tw_s (tw_e 0 rfl (by omega)) (tw_s (tw_g 1 rfl) (tw_s (tw_g 2 rfl) (tw_s (tw_g 7 rfl) (tw_s (tw_g 8 rfl) (tw_s (tw_g 9 rfl) (tw_s (tw_g 10 rfl) tw_s0))))))) ?_; rw [show bstN s p u g (k + 1) j b m = bstN s p u g k (j + 1) b m by rw [bstN, if_neg (by omega)]]; exact ih (j + 1) _ _ I32 (by omega) hs32 hk32 (by omega) (by omega))
              · refine ar_iconst (k := 56) rfl ?_
                refine ar_goto (k := 57) rfl ?_
                refine ar_istore (k := 59) (l2 := [(10, _), (9, _), (8, _), (7, _), (6, _), (5, _), (4, _), (0, _), (1, _), (2, _), (3, _)]) rfl (by decide) rfl ?_
                refine ar_iload (k := 60) rfl rfl ?_
                refine ar_if_eq (k := 61) rfl (by omega) (fun c61 => ?_) (fun c61 => ?_)
                · refine ar_iload (k := 64) rfl rfl ?_
                  refine ar_istore (k := 65) (l2 := [(4, _), (10, _), (9, _), (8, _), (7, _), (6, _), (5, _), (0, _), (1, _), (2, _), (3, _)]) rfl (by decide) rfl ?_
                  refine ar_iload (k := 66) rfl rfl ?_
                  refine ar_if_eq (k := 67) rfl (by omega) (fun c67 => ?_) (fun c67 => ?_)
                  · refine ar_iload (k := 70) rfl rfl ?_
                    refine ar_istore (k := 71) (l2 := [(5, _), (4, _), (10, _), (9, _), (8, _), (7, _), (6, _), (0, _), (1, _), (2, _), (3, _)]) rfl (by decide) rfl ?_
                    first
                      | (exfalso; omega)
                      | (refine ar_iinc (k := 72) (l2 := [(6, _), (5, _), (4, _), (10, _), (9, _), (8, _), (7, _), (0, _), (1, _), (2, _), (3, _)]) rfl (by decide) rfl rfl ?_; refine ar_goto (k := 73) rfl ?_; refine ar_sub (l2 := [(6, vi ((j + 1 : Nat) : Int)), (5, vi (rWorth s j u)), (4, vi ((j : Int))), (0, vr (some 69)), (1, vi p), (2, vi u), (3, vi g)]) (tw_s (tw_e 0 rfl (by omega)) (tw_s (tw_g 1 rfl) (tw_s (tw_g 2 rfl) (tw_s (tw_g 7 rfl) (tw_s (tw_g 8 rfl) (tw_s (tw_g 9 rfl) (tw_s (tw_g 10 rfl) tw_s0))))))) ?_; rw [show bstN s p u g (k + 1) j b m = bstN s p u g k (j + 1) j (rWorth s j u) by rw [bstN, if_pos (by refine ⟨by omega, by omega, by omega⟩)]]; exact ih (j + 1) _ _ I32 (by omega) hs32 hk32 (by omega) (by omega))
                      | (refine ar_iinc (k := 72) (l2 := [(6, _), (5, _), (4, _), (10, _), (9, _), (8, _), (7, _), (0, _), (1, _), (2, _), (3, _)]) rfl (by decide) rfl rfl ?_; refine ar_goto (k := 73) rfl ?_; refine ar_sub (l2 := [(6, vi ((j + 1 : Nat) : Int)), (5, vi (m)), (4, vi (b)), (0, vr (some 69)), (1, vi p), (2, vi u), (3, vi g)]) (tw_s (tw_e 0 rfl (by omega)) (tw_s (tw_g 1 rfl) (tw_s (tw_g 2 rfl) (tw_s (tw_g 7 rfl) (tw_s (tw_g 8 rfl) (tw_s (tw_g 9 rfl) (tw_s (tw_g 10 rfl) tw_s0))))))) ?_; rw [show bstN s p u g (k + 1) j b m = bstN s p u g k (j + 1) b m by rw [bstN, if_neg (by omega)]]; exact ih (j + 1) _ _ I32 (by omega) hs32 hk32 (by omega) (by omega))
                  · refine ar_iload (k := 68) rfl rfl ?_
                    refine ar_goto (k := 69) rfl ?_
                    refine ar_istore (k := 71) (l2 := [(5, _), (4, _), (10, _), (9, _), (8, _), (7, _), (6, _), (0, _), (1, _), (2, _), (3, _)]) rfl (by decide) rfl ?_
                    first
                      | (exfalso; omega)
                      | (refine ar_iinc (k := 72) (l2 := [(6, _), (5, _), (4, _), (10, _), (9, _), (8, _), (7, _), (0, _), (1, _), (2, _), (3, _)]) rfl (by decide) rfl rfl ?_; refine ar_goto (k := 73) rfl ?_; refine ar_sub (l2 := [(6, vi ((j + 1 : Nat) : Int)), (5, vi (rWorth s j u)), (4, vi ((j : Int))), (0, vr (some 69)), (1, vi p), (2, vi u), (3, vi g)]) (tw_s (tw_e 0 rfl (by omega)) (tw_s (tw_g 1 rfl) (tw_s (tw_g 2 rfl) (tw_s (tw_g 7 rfl) (tw_s (tw_g 8 rfl) (tw_s (tw_g 9 rfl) (tw_s (tw_g 10 rfl) tw_s0))))))) ?_; rw [show bstN s p u g (k + 1) j b m = bstN s p u g k (j + 1) j (rWorth s j u) by rw [bstN, if_pos (by refine ⟨by omega, by omega, by omega⟩)]]; exact ih (j + 1) _ _ I32 (by omega) hs32 hk32 (by omega) (by omega))
                      | (refine ar_iinc (k := 72) (l2 := [(6, _), (5, _), (4, _), (10, _), (9, _), (8, _), (7, _), (0, _), (1, _), (2, _), (3, _)]) rfl (by decide) rfl rfl ?_; refine ar_goto (k := 73) rfl ?_; refine ar_sub (l2 := [(6, vi ((j + 1 : Nat) : Int)), (5, vi (m)), (4, vi (b)), (0, vr (some 69)), (1, vi p), (2, vi u), (3, vi g)]) (tw_s (tw_e 0 rfl (by omega)) (tw_s (tw_g 1 rfl) (tw_s (tw_g 2 rfl) (tw_s (tw_g 7 rfl) (tw_s (tw_g 8 rfl) (tw_s (tw_g 9 rfl) (tw_s (tw_g 10 rfl) tw_s0))))))) ?_; rw [show bstN s p u g (k + 1) j b m = bstN s p u g k (j + 1) b m by rw [bstN, if_neg (by omega)]]; exact ih (j + 1) _ _ I32 (by omega) hs32 hk32 (by omega) (by omega))
                · refine ar_iload (k := 62) rfl rfl ?_
                  refine ar_goto (k := 63) rfl ?_
                  refine ar_istore (k := 65) (l2 := [(4, _), (10, _), (9, _), (8, _), (7, _), (6, _), (5, _), (0, _), (1, _), (2, _), (3, _)]) rfl (by decide) rfl ?_
                  refine ar_iload (k := 66) rfl rfl ?_
                  refine ar_if_eq (k := 67) rfl (by omega) (fun c67 => ?_) (fun c67 => ?_)
                  · refine ar_iload (k := 70) rfl rfl ?_
                    refine ar_istore (k := 71) (l2 := [(5, _), (4, _), (10, _), (9, _), (8, _), (7, _), (6, _), (0, _), (1, _), (2, _), (3, _)]) rfl (by decide) rfl ?_
                    first
                      | (exfalso; omega)
                      | (refine ar_iinc (k := 72) (l2 := [(6, _), (5, _), (4, _), (10, _), (9, _), (8, _), (7, _), (0, _), (1, _), (2, _), (3, _)]) rfl (by decide) rfl rfl ?_; refine ar_goto (k := 73) rfl ?_; refine ar_sub (l2 := [(6, vi ((j + 1 : Nat) : Int)), (5, vi (rWorth s j u)), (4, vi ((j : Int))), (0, vr (some 69)), (1, vi p), (2, vi u), (3, vi g)]) (tw_s (tw_e 0 rfl (by omega)) (tw_s (tw_g 1 rfl) (tw_s (tw_g 2 rfl) (tw_s (tw_g 7 rfl) (tw_s (tw_g 8 rfl) (tw_s (tw_g 9 rfl) (tw_s (tw_g 10 rfl) tw_s0))))))) ?_; rw [show bstN s p u g (k + 1) j b m = bstN s p u g k (j + 1) j (rWorth s j u) by rw [bstN, if_pos (by refine ⟨by omega, by omega, by omega⟩)]]; exact ih (j + 1) _ _ I32 (by omega) hs32 hk32 (by omega) (by omega))
                      | (refine ar_iinc (k := 72) (l2 := [(6, _), (5, _), (4, _), (10, _), (9, _), (8, _), (7, _), (0, _), (1, _), (2, _), (3, _)]) rfl (by decide) rfl rfl ?_; refine ar_goto (k := 73) rfl ?_; refine ar_sub (l2 := [(6, vi ((j + 1 : Nat) : Int)), (5, vi (m)), (4, vi (b)), (0, vr (some 69)), (1, vi p), (2, vi u), (3, vi g)]) (tw_s (tw_e 0 rfl (by omega)) (tw_s (tw_g 1 rfl) (tw_s (tw_g 2 rfl) (tw_s (tw_g 7 rfl) (tw_s (tw_g 8 rfl) (tw_s (tw_g 9 rfl) (tw_s (tw_g 10 rfl) tw_s0))))))) ?_; rw [show bstN s p u g (k + 1) j b m = bstN s p u g k (j + 1) b m by rw [bstN, if_neg (by omega)]]; exact ih (j + 1) _ _ I32 (by omega) hs32 hk32 (by omega) (by omega))
                  · refine ar_iload (k := 68) rfl rfl ?_
                    refine ar_goto (k := 69) rfl ?_
                    refine ar_istore (k := 71) (l2 := [(5, _), (4, _), (10, _), (9, _), (8, _), (7, _), (6, _), (0, _), (1, _), (2, _), (3, _)]) rfl (by decide) rfl ?_
                    first
                      | (exfalso; omega)
                      | (refine ar_iinc (k := 72) (l2 := [(6, _), (5, _), (4, _), (10, _), (9, _), (8, _), (7, _), (0, _), (1, _), (2, _), (3, _)]) rfl (by decide) rfl rfl ?_; refine ar_goto (k := 73) rfl ?_; refine ar_sub (l2 := [(6, vi ((j + 1 : Nat) : Int)), (5, vi (rWorth s j u)), (4, vi ((j : Int))), (0, vr (some 69)), (1, vi p), (2, vi u), (3, vi g)]) (tw_s (tw_e 0 rfl (by omega)) (tw_s (tw_g 1 rfl) (tw_s (tw_g 2 rfl) (tw_s (tw_g 7 rfl) (tw_s (tw_g 8 rfl) (tw_s (tw_g 9 rfl) (tw_s (tw_g 10 rfl) tw_s0))))))) ?_; rw [show bstN s p u g (k + 1) j b m = bstN s p u g k (j + 1) j (rWorth s j u) by rw [bstN, if_pos (by refine ⟨by omega, by omega, by omega⟩)]]; exact ih (j + 1) _ _ I32 (by omega) hs32 hk32 (by omega) (by omega))
                      | (refine ar_iinc (k := 72) (l2 := [(6, _), (5, _), (4, _), (10, _), (9, _), (8, _), (7, _), (0, _), (1, _), (2, _), (3, _)]) rfl (by decide) rfl rfl ?_; refine ar_goto (k := 73) rfl ?_; refine ar_sub (l2 := [(6, vi ((j + 1 : Nat) : Int)), (5, vi (m)), (4, vi (b)), (0, vr (some 69)), (1, vi p), (2, vi u), (3, vi g)]) (tw_s (tw_e 0 rfl (by omega)) (tw_s (tw_g 1 rfl) (tw_s (tw_g 2 rfl) (tw_s (tw_g 7 rfl) (tw_s (tw_g 8 rfl) (tw_s (tw_g 9 rfl) (tw_s (tw_g 10 rfl) tw_s0))))))) ?_; rw [show bstN s p u g (k + 1) j b m = bstN s p u g k (j + 1) b m by rw [bstN, if_neg (by omega)]]; exact ih (j + 1) _ _ I32 (by omega) hs32 hk32 (by omega) (by omega))
        · refine ar_iload (k := 36) rfl rfl ?_
          refine ar_iloadn (k := 37) rfl rfl ?_
          refine ar_icmp_eq (k := 38) rfl (by omega) (by omega) (fun c38 => ?_) (fun c38 => ?_)
          · refine ar_iconst (k := 46) rfl ?_
            refine ar_istore (k := 47) (l2 := [(9, _), (8, _), (7, _), (6, _), (5, _), (4, _), (0, _), (1, _), (2, _), (3, _)]) rfl (by decide) rfl ?_
            refine ar_iload (k := 48) rfl rfl ?_
            refine ar_if_eq (k := 49) rfl (by omega) (fun c49 => ?_) (fun c49 => ?_)
            · refine ar_iconst (k := 58) rfl ?_
              refine ar_istore (k := 59) (l2 := [(10, _), (9, _), (8, _), (7, _), (6, _), (5, _), (4, _), (0, _), (1, _), (2, _), (3, _)]) rfl (by decide) rfl ?_
              refine ar_iload (k := 60) rfl rfl ?_
              refine ar_if_eq (k := 61) rfl (by omega) (fun c61 => ?_) (fun c61 => ?_)
              · refine ar_iload (k := 64) rfl rfl ?_
                refine ar_istore (k := 65) (l2 := [(4, _), (10, _), (9, _), (8, _), (7, _), (6, _), (5, _), (0, _), (1, _), (2, _), (3, _)]) rfl (by decide) rfl ?_
                refine ar_iload (k := 66) rfl rfl ?_
                refine ar_if_eq (k := 67) rfl (by omega) (fun c67 => ?_) (fun c67 => ?_)
                · refine ar_iload (k := 70) rfl rfl ?_
                  refine ar_istore (k := 71) (l2 := [(5, _), (4, _), (10, _), (9, _), (8, _), (7, _), (6, _), (0, _), (1, _), (2, _), (3, _)]) rfl (by decide) rfl ?_
                  first
                    | (exfalso; omega)
                    | (refine ar_iinc (k := 72) (l2 := [(6, _), (5, _), (4, _), (10, _), (9, _), (8, _), (7, _), (0, _), (1, _), (2, _), (3, _)]) rfl (by decide) rfl rfl ?_; refine ar_goto (k := 73) rfl ?_; refine ar_sub (l2 := [(6, vi ((j + 1 : Nat) : Int)), (5, vi (rWorth s j u)), (4, vi ((j : Int))), (0, vr (some 69)), (1, vi p), (2, vi u), (3, vi g)]) (tw_s (tw_e 0 rfl (by omega)) (tw_s (tw_g 1 rfl) (tw_s (tw_g 2 rfl) (tw_s (tw_g 7 rfl) (tw_s (tw_g 8 rfl) (tw_s (tw_g 9 rfl) (tw_s (tw_g 10 rfl) tw_s0))))))) ?_; rw [show bstN s p u g (k + 1) j b m = bstN s p u g k (j + 1) j (rWorth s j u) by rw [bstN, if_pos (by refine ⟨by omega, by omega, by omega⟩)]]; exact ih (j + 1) _ _ I32 (by omega) hs32 hk32 (by omega) (by omega))
                    | (refine ar_iinc (k := 72) (l2 := [(6, _), (5, _), (4, _), (10, _), (9, _), (8, _), (7, _), (0, _), (1, _), (2, _), (3, _)]) rfl (by decide) rfl rfl ?_; refine ar_goto (k := 73) rfl ?_; refine ar_sub (l2 := [(6, vi ((j + 1 : Nat) : Int)), (5, vi (m)), (4, vi (b)), (0, vr (some 69)), (1, vi p), (2, vi u), (3, vi g)]) (tw_s (tw_e 0 rfl (by omega)) (tw_s (tw_g 1 rfl) (tw_s (tw_g 2 rfl) (tw_s (tw_g 7 rfl) (tw_s (tw_g 8 rfl) (tw_s (tw_g 9 rfl) (tw_s (tw_g 10 rfl) tw_s0))))))) ?_; rw [show bstN s p u g (k + 1) j b m = bstN s p u g k (j + 1) b m by rw [bstN, if_neg (by omega)]]; exact ih (j + 1) _ _ I32 (by omega) hs32 hk32 (by omega) (by omega))
                · refine ar_iload (k := 68) rfl rfl ?_
                  refine ar_goto (k := 69) rfl ?_
                  refine ar_istore (k := 71) (l2 := [(5, _), (4, _), (10, _), (9, _), (8, _), (7, _), (6, _), (0, _), (1, _), (2, _), (3, _)]) rfl (by decide) rfl ?_
                  first
                    | (exfalso; omega)
                    | (refine ar_iinc (k := 72) (l2 := [(6, _), (5, _), (4, _), (10, _), (9, _), (8, _), (7, _), (0, _), (1, _), (2, _), (3, _)]) rfl (by decide) rfl rfl ?_; refine ar_goto (k := 73) rfl ?_; refine ar_sub (l2 := [(6, vi ((j + 1 : Nat) : Int)), (5, vi (rWorth s j u)), (4, vi ((j : Int))), (0, vr (some 69)), (1, vi p), (2, vi u), (3, vi g)]) (tw_s (tw_e 0 rfl (by omega)) (tw_s (tw_g 1 rfl) (tw_s (tw_g 2 rfl) (tw_s (tw_g 7 rfl) (tw_s (tw_g 8 rfl) (tw_s (tw_g 9 rfl) (tw_s (tw_g 10 rfl) tw_s0))))))) ?_; rw [show bstN s p u g (k + 1) j b m = bstN s p u g k (j + 1) j (rWorth s j u) by rw [bstN, if_pos (by refine ⟨by omega, by omega, by omega⟩)]]; exact ih (j + 1) _ _ I32 (by omega) hs32 hk32 (by omega) (by omega))
                    | (refine ar_iinc (k := 72) (l2 := [(6, _), (5, _), (4, _), (10, _), (9, _), (8, _), (7, _), (0, _), (1, _), (2, _), (3, _)]) rfl (by decide) rfl rfl ?_; refine ar_goto (k := 73) rfl ?_; refine ar_sub (l2 := [(6, vi ((j + 1 : Nat) : Int)), (5, vi (m)), (4, vi (b)), (0, vr (some 69)), (1, vi p), (2, vi u), (3, vi g)]) (tw_s (tw_e 0 rfl (by omega)) (tw_s (tw_g 1 rfl) (tw_s (tw_g 2 rfl) (tw_s (tw_g 7 rfl) (tw_s (tw_g 8 rfl) (tw_s (tw_g 9 rfl) (tw_s (tw_g 10 rfl) tw_s0))))))) ?_; rw [show bstN s p u g (k + 1) j b m = bstN s p u g k (j + 1) b m by rw [bstN, if_neg (by omega)]]; exact ih (j + 1) _ _ I32 (by omega) hs32 hk32 (by omega) (by omega))
              · refine ar_iload (k := 62) rfl rfl ?_
                refine ar_goto (k := 63) rfl ?_
                refine ar_istore (k := 65) (l2 := [(4, _), (10, _), (9, _), (8, _), (7, _), (6, _), (5, _), (0, _), (1, _), (2, _), (3, _)]) rfl (by decide) rfl ?_
                refine ar_iload (k := 66) rfl rfl ?_
                refine ar_if_eq (k := 67) rfl (by omega) (fun c67 => ?_) (fun c67 => ?_)
                · refine ar_iload (k := 70) rfl rfl ?_
                  refine ar_istore (k := 71) (l2 := [(5, _), (4, _), (10, _), (9, _), (8, _), (7, _), (6, _), (0, _), (1, _), (2, _), (3, _)]) rfl (by decide) rfl ?_
                  first
                    | (exfalso; omega)
                    | (refine ar_iinc (k := 72) (l2 := [(6, _), (5, _), (4, _), (10, _), (9, _), (8, _), (7, _), (0, _), (1, _), (2, _), (3, _)]) rfl (by decide) rfl rfl ?_; refine ar_goto (k := 73) rfl ?_; refine ar_sub (l2 := [(6, vi ((j + 1 : Nat) : Int)), (5, vi (rWorth s j u)), (4, vi ((j : Int))), (0, vr (some 69)), (1, vi p), (2, vi u), (3, vi g)]) (tw_s (tw_e 0 rfl (by omega)) (tw_s (tw_g 1 rfl) (tw_s (tw_g 2 rfl) (tw_s (tw_g 7 rfl) (tw_s (tw_g 8 rfl) (tw_s (tw_g 9 rfl) (tw_s (tw_g 10 rfl) tw_s0))))))) ?_; rw [show bstN s p u g (k + 1) j b m = bstN s p u g k (j + 1) j (rWorth s j u) by rw [bstN, if_pos (by refine ⟨by omega, by omega, by omega⟩)]]; exact ih (j + 1) _ _ I32 (by omega) hs32 hk32 (by omega) (by omega))
                    | (refine ar_iinc (k := 72) (l2 := [(6, _), (5, _), (4, _), (10, _), (9, _), (8, _), (7, _), (0, _), (1, _), (2, _), (3, _)]) rfl (by decide) rfl rfl ?_; refine ar_goto (k := 73) rfl ?_; refine ar_sub (l2 := [(6, vi ((j + 1 : Nat) : Int)), (5, vi (m)), (4, vi (b)), (0, vr (some 69)), (1, vi p), (2, vi u), (3, vi g)]) (tw_s (tw_e 0 rfl (by omega)) (tw_s (tw_g 1 rfl) (tw_s (tw_g 2 rfl) (tw_s (tw_g 7 rfl) (tw_s (tw_g 8 rfl) (tw_s (tw_g 9 rfl) (tw_s (tw_g 10 rfl) tw_s0))))))) ?_; rw [show bstN s p u g (k + 1) j b m = bstN s p u g k (j + 1) b m by rw [bstN, if_neg (by omega)]]; exact ih (j + 1) _ _ I32 (by omega) hs32 hk32 (by omega) (by omega))
                · refine ar_iload (k := 68) rfl rfl ?_
                  refine ar_goto (k := 69) rfl ?_
                  refine ar_istore (k := 71) (l2 := [(5, _), (4, _), (10, _), (9, _), (8, _), (7, _), (6, _), (0, _), (1, _), (2, _), (3, _)]) rfl (by decide) rfl ?_
                  first
                    | (exfalso; omega)
                    | (refine ar_iinc (k := 72) (l2 := [(6, _), (5, _), (4, _), (10, _), (9, _), (8, _), (7, _), (0, _), (1, _), (2, _), (3, _)]) rfl (by decide) rfl rfl ?_; refine ar_goto (k := 73) rfl ?_; refine ar_sub (l2 := [(6, vi ((j + 1 : Nat) : Int)), (5, vi (rWorth s j u)), (4, vi ((j : Int))), (0, vr (some 69)), (1, vi p), (2, vi u), (3, vi g)]) (tw_s (tw_e 0 rfl (by omega)) (tw_s (tw_g 1 rfl) (tw_s (tw_g 2 rfl) (tw_s (tw_g 7 rfl) (tw_s (tw_g 8 rfl) (tw_s (tw_g 9 rfl) (tw_s (tw_g 10 rfl) tw_s0))))))) ?_; rw [show bstN s p u g (k + 1) j b m = bstN s p u g k (j + 1) j (rWorth s j u) by rw [bstN, if_pos (by refine ⟨by omega, by omega, by omega⟩)]]; exact ih (j + 1) _ _ I32 (by omega) hs32 hk32 (by omega) (by omega))
                    | (refine ar_iinc (k := 72) (l2 := [(6, _), (5, _), (4, _), (10, _), (9, _), (8, _), (7, _), (0, _), (1, _), (2, _), (3, _)]) rfl (by decide) rfl rfl ?_; refine ar_goto (k := 73) rfl ?_; refine ar_sub (l2 := [(6, vi ((j + 1 : Nat) : Int)), (5, vi (m)), (4, vi (b)), (0, vr (some 69)), (1, vi p), (2, vi u), (3, vi g)]) (tw_s (tw_e 0 rfl (by omega)) (tw_s (tw_g 1 rfl) (tw_s (tw_g 2 rfl) (tw_s (tw_g 7 rfl) (tw_s (tw_g 8 rfl) (tw_s (tw_g 9 rfl) (tw_s (tw_g 10 rfl) tw_s0))))))) ?_; rw [show bstN s p u g (k + 1) j b m = bstN s p u g k (j + 1) b m by rw [bstN, if_neg (by omega)]]; exact ih (j + 1) _ _ I32 (by omega) hs32 hk32 (by omega) (by omega))
            · refine ar_iload (k := 50) rfl rfl ?_
              refine ar_iconst (k := 51) rfl ?_
              refine ar_icmp_eq (k := 52) rfl (by omega) (by omega) (fun c52 => ?_) (fun c52 => ?_)
              · refine ar_iconst (k := 56) rfl ?_
                refine ar_goto (k := 57) rfl ?_
                refine ar_istore (k := 59) (l2 := [(10, _), (9, _), (8, _), (7, _), (6, _), (5, _), (4, _), (0, _), (1, _), (2, _), (3, _)]) rfl (by decide) rfl ?_
                refine ar_iload (k := 60) rfl rfl ?_
                refine ar_if_eq (k := 61) rfl (by omega) (fun c61 => ?_) (fun c61 => ?_)
                · refine ar_iload (k := 64) rfl rfl ?_
                  refine ar_istore (k := 65) (l2 := [(4, _), (10, _), (9, _), (8, _), (7, _), (6, _), (5, _), (0, _), (1, _), (2, _), (3, _)]) rfl (by decide) rfl ?_
                  refine ar_iload (k := 66) rfl rfl ?_
                  refine ar_if_eq (k := 67) rfl (by omega) (fun c67 => ?_) (fun c67 => ?_)
                  · refine ar_iload (k := 70) rfl rfl ?_
                    refine ar_istore (k := 71) (l2 := [(5, _), (4, _), (10, _), (9, _), (8, _), (7, _), (6, _), (0, _), (1, _), (2, _), (3, _)]) rfl (by decide) rfl ?_
                    first
                      | (exfalso; omega)
                      | (refine ar_iinc (k := 72) (l2 := [(6, _), (5, _), (4, _), (10, _), (9, _), (8, _), (7, _), (0, _), (1, _), (2, _), (3, _)]) rfl (by decide) rfl rfl ?_; refine ar_goto (k := 73) rfl ?_; refine ar_sub (l2 := [(6, vi ((j + 1 : Nat) : Int)), (5, vi (rWorth s j u)), (4, vi ((j : Int))), (0, vr (some 69)), (1, vi p), (2, vi u), (3, vi g)]) (tw_s (tw_e 0 rfl (by omega)) (tw_s (tw_g 1 rfl) (tw_s (tw_g 2 rfl) (tw_s (tw_g 7 rfl) (tw_s (tw_g 8 rfl) (tw_s (tw_g 9 rfl) (tw_s (tw_g 10 rfl) tw_s0))))))) ?_; rw [show bstN s p u g (k + 1) j b m = bstN s p u g k (j + 1) j (rWorth s j u) by rw [bstN, if_pos (by refine ⟨by omega, by omega, by omega⟩)]]; exact ih (j + 1) _ _ I32 (by omega) hs32 hk32 (by omega) (by omega))
                      | (refine ar_iinc (k := 72) (l2 := [(6, _), (5, _), (4, _), (10, _), (9, _), (8, _), (7, _), (0, _), (1, _), (2, _), (3, _)]) rfl (by decide) rfl rfl ?_; refine ar_goto (k := 73) rfl ?_; refine ar_sub (l2 := [(6, vi ((j + 1 : Nat) : Int)), (5, vi (m)), (4, vi (b)), (0, vr (some 69)), (1, vi p), (2, vi u), (3, vi g)]) (tw_s (tw_e 0 rfl (by omega)) (tw_s (tw_g 1 rfl) (tw_s (tw_g 2 rfl) (tw_s (tw_g 7 rfl) (tw_s (tw_g 8 rfl) (tw_s (tw_g 9 rfl) (tw_s (tw_g 10 rfl) tw_s0))))))) ?_; rw [show bstN s p u g (k + 1) j b m = bstN s p u g k (j + 1) b m by rw [bstN, if_neg (by omega)]]; exact ih (j + 1) _ _ I32 (by omega) hs32 hk32 (by omega) (by omega))
                  · refine ar_iload (k := 68) rfl rfl ?_
                    refine ar_goto (k := 69) rfl ?_
                    refine ar_istore (k := 71) (l2 := [(5, _), (4, _), (10, _), (9, _), (8, _), (7, _), (6, _), (0, _), (1, _), (2, _), (3, _)]) rfl (by decide) rfl ?_
                    first
                      | (exfalso; omega)
                      | (refine ar_iinc (k := 72) (l2 := [(6, _), (5, _), (4, _), (10, _), (9, _), (8, _), (7, _), (0, _), (1, _), (2, _), (3, _)]) rfl (by decide) rfl rfl ?_; refine ar_goto (k := 73) rfl ?_; refine ar_sub (l2 := [(6, vi ((j + 1 : Nat) : Int)), (5, vi (rWorth s j u)), (4, vi ((j : Int))), (0, vr (some 69)), (1, vi p), (2, vi u), (3, vi g)]) (tw_s (tw_e 0 rfl (by omega)) (tw_s (tw_g 1 rfl) (tw_s (tw_g 2 rfl) (tw_s (tw_g 7 rfl) (tw_s (tw_g 8 rfl) (tw_s (tw_g 9 rfl) (tw_s (tw_g 10 rfl) tw_s0))))))) ?_; rw [show bstN s p u g (k + 1) j b m = bstN s p u g k (j + 1) j (rWorth s j u) by rw [bstN, if_pos (by refine ⟨by omega, by omega, by omega⟩)]]; exact ih (j + 1) _ _ I32 (by omega) hs32 hk32 (by omega) (by omega))
                      | (refine ar_iinc (k := 72) (l2 := [(6, _), (5, _), (4, _), (10, _), (9, _), (8, _), (7, _), (0, _), (1, _), (2, _), (3, _)]) rfl (by decide) rfl rfl ?_; refine ar_goto (k := 73) rfl ?_; refine ar_sub (l2 := [(6, vi ((j + 1 : Nat) : Int)), (5, vi (m)), (4, vi (b)), (0, vr (some 69)), (1, vi p), (2, vi u), (3, vi g)]) (tw_s (tw_e 0 rfl (by omega)) (tw_s (tw_g 1 rfl) (tw_s (tw_g 2 rfl) (tw_s (tw_g 7 rfl) (tw_s (tw_g 8 rfl) (tw_s (tw_g 9 rfl) (tw_s (tw_g 10 rfl) tw_s0))))))) ?_; rw [show bstN s p u g (k + 1) j b m = bstN s p u g k (j + 1) b m by rw [bstN, if_neg (by omega)]]; exact ih (j + 1) _ _ I32 (by omega) hs32 hk32 (by omega) (by omega))
                · refine ar_iload (k := 62) rfl rfl ?_
                  refine ar_goto (k := 63) rfl ?_
                  refine ar_istore (k := 65) (l2 := [(4, _), (10, _), (9, _), (8, _), (7, _), (6, _), (5, _), (0, _), (1, _), (2, _), (3, _)]) rfl (by decide) rfl ?_
                  refine ar_iload (k := 66) rfl rfl ?_
                  refine ar_if_eq (k := 67) rfl (by omega) (fun c67 => ?_) (fun c67 => ?_)
                  · refine ar_iload (k := 70) rfl rfl ?_
                    refine ar_istore (k := 71) (l2 := [(5, _), (4, _), (10, _), (9, _), (8, _), (7, _), (6, _), (0, _), (1, _), (2, _), (3, _)]) rfl (by decide) rfl ?_
                    first
                      | (exfalso; omega)
                      | (refine ar_iinc (k := 72) (l2 := [(6, _), (5, _), (4, _), (10, _), (9, _), (8, _), (7, _), (0, _), (1, _), (2, _), (3, _)]) rfl (by decide) rfl rfl ?_; refine ar_goto (k := 73) rfl ?_; refine ar_sub (l2 := [(6, vi ((j + 1 : Nat) : Int)), (5, vi (rWorth s j u)), (4, vi ((j : Int))), (0, vr (some 69)), (1, vi p), (2, vi u), (3, vi g)]) (tw_s (tw_e 0 rfl (by omega)) (tw_s (tw_g 1 rfl) (tw_s (tw_g 2 rfl) (tw_s (tw_g 7 rfl) (tw_s (tw_g 8 rfl) (tw_s (tw_g 9 rfl) (tw_s (tw_g 10 rfl) tw_s0))))))) ?_; rw [show bstN s p u g (k + 1) j b m = bstN s p u g k (j + 1) j (rWorth s j u) by rw [bstN, if_pos (by refine ⟨by omega, by omega, by omega⟩)]]; exact ih (j + 1) _ _ I32 (by omega) hs32 hk32 (by omega) (by omega))
                      | (refine ar_iinc (k := 72) (l2 := [(6, _), (5, _), (4, _), (10, _), (9, _), (8, _), (7, _), (0, _), (1, _), (2, _), (3, _)]) rfl (by decide) rfl rfl ?_; refine ar_goto (k := 73) rfl ?_; refine ar_sub (l2 := [(6, vi ((j + 1 : Nat) : Int)), (5, vi (m)), (4, vi (b)), (0, vr (some 69)), (1, vi p), (2, vi u), (3, vi g)]) (tw_s (tw_e 0 rfl (by omega)) (tw_s (tw_g 1 rfl) (tw_s (tw_g 2 rfl) (tw_s (tw_g 7 rfl) (tw_s (tw_g 8 rfl) (tw_s (tw_g 9 rfl) (tw_s (tw_g 10 rfl) tw_s0))))))) ?_; rw [show bstN s p u g (k + 1) j b m = bstN s p u g k (j + 1) b m by rw [bstN, if_neg (by omega)]]; exact ih (j + 1) _ _ I32 (by omega) hs32 hk32 (by omega) (by omega))
                  · refine ar_iload (k := 68) rfl rfl ?_
                    refine ar_goto (k := 69) rfl ?_
                    refine ar_istore (k := 71) (l2 := [(5, _), (4, _), (10, _), (9, _), (8, _), (7, _), (6, _), (0, _), (1, _), (2, _), (3, _)]) rfl (by decide) rfl ?_
                    first
                      | (exfalso; omega)
                      | (refine ar_iinc (k := 72) (l2 := [(6, _), (5, _), (4, _), (10, _), (9, _), (8, _), (7, _), (0, _), (1, _), (2, _), (3, _)]) rfl (by decide) rfl rfl ?_; refine ar_goto (k := 73) rfl ?_; refine ar_sub (l2 := [(6, vi ((j + 1 : Nat) : Int)), (5, vi (rWorth s j u)), (4, vi ((j : Int))), (0, vr (some 69)), (1, vi p), (2, vi u), (3, vi g)]) (tw_s (tw_e 0 rfl (by omega)) (tw_s (tw_g 1 rfl) (tw_s (tw_g 2 rfl) (tw_s (tw_g 7 rfl) (tw_s (tw_g 8 rfl) (tw_s (tw_g 9 rfl) (tw_s (tw_g 10 rfl) tw_s0))))))) ?_; rw [show bstN s p u g (k + 1) j b m = bstN s p u g k (j + 1) j (rWorth s j u) by rw [bstN, if_pos (by refine ⟨by omega, by omega, by omega⟩)]]; exact ih (j + 1) _ _ I32 (by omega) hs32 hk32 (by omega) (by omega))
                      | (refine ar_iinc (k := 72) (l2 := [(6, _), (5, _), (4, _), (10, _), (9, _), (8, _), (7, _), (0, _), (1, _), (2, _), (3, _)]) rfl (by decide) rfl rfl ?_; refine ar_goto (k := 73) rfl ?_; refine ar_sub (l2 := [(6, vi ((j + 1 : Nat) : Int)), (5, vi (m)), (4, vi (b)), (0, vr (some 69)), (1, vi p), (2, vi u), (3, vi g)]) (tw_s (tw_e 0 rfl (by omega)) (tw_s (tw_g 1 rfl) (tw_s (tw_g 2 rfl) (tw_s (tw_g 7 rfl) (tw_s (tw_g 8 rfl) (tw_s (tw_g 9 rfl) (tw_s (tw_g 10 rfl) tw_s0))))))) ?_; rw [show bstN s p u g (k + 1) j b m = bstN s p u g k (j + 1) b m by rw [bstN, if_neg (by omega)]]; exact ih (j + 1) _ _ I32 (by omega) hs32 hk32 (by omega) (by omega))
              · refine ar_iload (k := 53) rfl rfl ?_
                refine ar_iload (k := 54) rfl rfl ?_
                refine ar_icmp_le (k := 55) rfl (by omega) (by omega) (fun c55 => ?_) (fun c55 => ?_)
                · refine ar_iconst (k := 58) rfl ?_
                  refine ar_istore (k := 59) (l2 := [(10, _), (9, _), (8, _), (7, _), (6, _), (5, _), (4, _), (0, _), (1, _), (2, _), (3, _)]) rfl (by decide) rfl ?_
                  refine ar_iload (k := 60) rfl rfl ?_
                  refine ar_if_eq (k := 61) rfl (by omega) (fun c61 => ?_) (fun c61 => ?_)
                  · refine ar_iload (k := 64) rfl rfl ?_
                    refine ar_istore (k := 65) (l2 := [(4, _), (10, _), (9, _), (8, _), (7, _), (6, _), (5, _), (0, _), (1, _), (2, _), (3, _)]) rfl (by decide) rfl ?_
                    refine ar_iload (k := 66) rfl rfl ?_
                    refine ar_if_eq (k := 67) rfl (by omega) (fun c67 => ?_) (fun c67 => ?_)
                    · refine ar_iload (k := 70) rfl rfl ?_
                      refine ar_istore (k := 71) (l2 := [(5, _), (4, _), (10, _), (9, _), (8, _), (7, _), (6, _), (0, _), (1, _), (2, _), (3, _)]) rfl (by decide) rfl ?_
                      first
                        | (exfalso; omega)
                        | (refine ar_iinc (k := 72) (l2 := [(6, _), (5, _), (4, _), (10, _), (9, _), (8, _), (7, _), (0, _), (1, _), (2, _), (3, _)]) rfl (by decide) rfl rfl ?_; refine ar_goto (k := 73) rfl ?_; refine ar_sub (l2 := [(6, vi ((j + 1 : Nat) : Int)), (5, vi (rWorth s j u)), (4, vi ((j : Int))), (0, vr (some 69)), (1, vi p), (2, vi u), (3, vi g)]) (tw_s (tw_e 0 rfl (by omega)) (tw_s (tw_g 1 rfl) (tw_s (tw_g 2 rfl) (tw_s (tw_g 7 rfl) (tw_s (tw_g 8 rfl) (tw_s (tw_g 9 rfl) (tw_s (tw_g 10 rfl) tw_s0))))))) ?_; rw [show bstN s p u g (k + 1) j b m = bstN s p u g k (j + 1) j (rWorth s j u) by rw [bstN, if_pos (by refine ⟨by omega, by omega, by omega⟩)]]; exact ih (j + 1) _ _ I32 (by omega) hs32 hk32 (by omega) (by omega))
                        | (refine ar_iinc (k := 72) (l2 := [(6, _), (5, _), (4, _), (10, _), (9, _), (8, _), (7, _), (0, _), (1, _), (2, _), (3, _)]) rfl (by decide) rfl rfl ?_; refine ar_goto (k := 73) rfl ?_; refine ar_sub (l2 := [(6, vi ((j + 1 : Nat) : Int)), (5, vi (m)), (4, vi (b)), (0, vr (some 69)), (1, vi p), (2, vi u), (3, vi g)]) (tw_s (tw_e 0 rfl (by omega)) (tw_s (tw_g 1 rfl) (tw_s (tw_g 2 rfl) (tw_s (tw_g 7 rfl) (tw_s (tw_g 8 rfl) (tw_s (tw_g 9 rfl) (tw_s (tw_g 10 rfl) tw_s0))))))) ?_; rw [show bstN s p u g (k + 1) j b m = bstN s p u g k (j + 1) b m by rw [bstN, if_neg (by omega)]]; exact ih (j + 1) _ _ I32 (by omega) hs32 hk32 (by omega) (by omega))
                    · refine ar_iload (k := 68) rfl rfl ?_
                      refine ar_goto (k := 69) rfl ?_
                      refine ar_istore (k := 71) (l2 := [(5, _), (4, _), (10, _), (9, _), (8, _), (7, _), (6, _), (0, _), (1, _), (2, _), (3, _)]) rfl (by decide) rfl ?_
                      first
                        | (exfalso; omega)
                        | (refine ar_iinc (k := 72) (l2 := [(6, _), (5, _), (4, _), (10, _), (9, _), (8, _), (7, _), (0, _), (1, _), (2, _), (3, _)]) rfl (by decide) rfl rfl ?_; refine ar_goto (k := 73) rfl ?_; refine ar_sub (l2 := [(6, vi ((j + 1 : Nat) : Int)), (5, vi (rWorth s j u)), (4, vi ((j : Int))), (0, vr (some 69)), (1, vi p), (2, vi u), (3, vi g)]) (tw_s (tw_e 0 rfl (by omega)) (tw_s (tw_g 1 rfl) (tw_s (tw_g 2 rfl) (tw_s (tw_g 7 rfl) (tw_s (tw_g 8 rfl) (tw_s (tw_g 9 rfl) (tw_s (tw_g 10 rfl) tw_s0))))))) ?_; rw [show bstN s p u g (k + 1) j b m = bstN s p u g k (j + 1) j (rWorth s j u) by rw [bstN, if_pos (by refine ⟨by omega, by omega, by omega⟩)]]; exact ih (j + 1) _ _ I32 (by omega) hs32 hk32 (by omega) (by omega))
                        | (refine ar_iinc (k := 72) (l2 := [(6, _), (5, _), (4, _), (10, _), (9, _), (8, _), (7, _), (0, _), (1, _), (2, _), (3, _)]) rfl (by decide) rfl rfl ?_; refine ar_goto (k := 73) rfl ?_; refine ar_sub (l2 := [(6, vi ((j + 1 : Nat) : Int)), (5, vi (m)), (4, vi (b)), (0, vr (some 69)), (1, vi p), (2, vi u), (3, vi g)]) (tw_s (tw_e 0 rfl (by omega)) (tw_s (tw_g 1 rfl) (tw_s (tw_g 2 rfl) (tw_s (tw_g 7 rfl) (tw_s (tw_g 8 rfl) (tw_s (tw_g 9 rfl) (tw_s (tw_g 10 rfl) tw_s0))))))) ?_; rw [show bstN s p u g (k + 1) j b m = bstN s p u g k (j + 1) b m by rw [bstN, if_neg (by omega)]]; exact ih (j + 1) _ _ I32 (by omega) hs32 hk32 (by omega) (by omega))
                  · refine ar_iload (k := 62) rfl rfl ?_
                    refine ar_goto (k := 63) rfl ?_
                    refine ar_istore (k := 65) (l2 := [(4, _), (10, _), (9, _), (8, _), (7, _), (6, _), (5, _), (0, _), (1, _), (2, _), (3, _)]) rfl (by decide) rfl ?_
                    refine ar_iload (k := 66) rfl rfl ?_
                    refine ar_if_eq (k := 67) rfl (by omega) (fun c67 => ?_) (fun c67 => ?_)
                    · refine ar_iload (k := 70) rfl rfl ?_
                      refine ar_istore (k := 71) (l2 := [(5, _), (4, _), (10, _), (9, _), (8, _), (7, _), (6, _), (0, _), (1, _), (2, _), (3, _)]) rfl (by decide) rfl ?_
                      first
                        | (exfalso; omega)
                        | (refine ar_iinc (k := 72) (l2 := [(6, _), (5, _), (4, _), (10, _), (9, _), (8, _), (7, _), (0, _), (1, _), (2, _), (3, _)]) rfl (by decide) rfl rfl ?_; refine ar_goto (k := 73) rfl ?_; refine ar_sub (l2 := [(6, vi ((j + 1 : Nat) : Int)), (5, vi (rWorth s j u)), (4, vi ((j : Int))), (0, vr (some 69)), (1, vi p), (2, vi u), (3, vi g)]) (tw_s (tw_e 0 rfl (by omega)) (tw_s (tw_g 1 rfl) (tw_s (tw_g 2 rfl) (tw_s (tw_g 7 rfl) (tw_s (tw_g 8 rfl) (tw_s (tw_g 9 rfl) (tw_s (tw_g 10 rfl) tw_s0))))))) ?_; rw [show bstN s p u g (k + 1) j b m = bstN s p u g k (j + 1) j (rWorth s j u) by rw [bstN, if_pos (by refine ⟨by omega, by omega, by omega⟩)]]; exact ih (j + 1) _ _ I32 (by omega) hs32 hk32 (by omega) (by omega))
                        | (refine ar_iinc (k := 72) (l2 := [(6, _), (5, _), (4, _), (10, _), (9, _), (8, _), (7, _), (0, _), (1, _), (2, _), (3, _)]) rfl (by decide) rfl rfl ?_; refine ar_goto (k := 73) rfl ?_; refine ar_sub (l2 := [(6, vi ((j + 1 : Nat) : Int)), (5, vi (m)), (4, vi (b)), (0, vr (some 69)), (1, vi p), (2, vi u), (3, vi g)]) (tw_s (tw_e 0 rfl (by omega)) (tw_s (tw_g 1 rfl) (tw_s (tw_g 2 rfl) (tw_s (tw_g 7 rfl) (tw_s (tw_g 8 rfl) (tw_s (tw_g 9 rfl) (tw_s (tw_g 10 rfl) tw_s0))))))) ?_; rw [show bstN s p u g (k + 1) j b m = bstN s p u g k (j + 1) b m by rw [bstN, if_neg (by omega)]]; exact ih (j + 1) _ _ I32 (by omega) hs32 hk32 (by omega) (by omega))
                    · refine ar_iload (k := 68) rfl rfl ?_
                      refine ar_goto (k := 69) rfl ?_
                      refine ar_istore (k := 71) (l2 := [(5, _), (4, _), (10, _), (9, _), (8, _), (7, _), (6, _), (0, _), (1, _), (2, _), (3, _)]) rfl (by decide) rfl ?_
                      first
                        | (exfalso; omega)
                        | (refine ar_iinc (k := 72) (l2 := [(6, _), (5, _), (4, _), (10, _), (9, _), (8, _), (7, _), (0, _), (1, _), (2, _), (3, _)]) rfl (by decide) rfl rfl ?_; refine ar_goto (k := 73) rfl ?_; refine ar_sub (l2 := [(6, vi ((j + 1 : Nat) : Int)), (5, vi (rWorth s j u)), (4, vi ((j : Int))), (0, vr (some 69)), (1, vi p), (2, vi u), (3, vi g)]) (tw_s (tw_e 0 rfl (by omega)) (tw_s (tw_g 1 rfl) (tw_s (tw_g 2 rfl) (tw_s (tw_g 7 rfl) (tw_s (tw_g 8 rfl) (tw_s (tw_g 9 rfl) (tw_s (tw_g 10 rfl) tw_s0))))))) ?_; rw [show bstN s p u g (k + 1) j b m = bstN s p u g k (j + 1) j (rWorth s j u) by rw [bstN, if_pos (by refine ⟨by omega, by omega, by omega⟩)]]; exact ih (j + 1) _ _ I32 (by omega) hs32 hk32 (by omega) (by omega))
                        | (refine ar_iinc (k := 72) (l2 := [(6, _), (5, _), (4, _), (10, _), (9, _), (8, _), (7, _), (0, _), (1, _), (2, _), (3, _)]) rfl (by decide) rfl rfl ?_; refine ar_goto (k := 73) rfl ?_; refine ar_sub (l2 := [(6, vi ((j + 1 : Nat) : Int)), (5, vi (m)), (4, vi (b)), (0, vr (some 69)), (1, vi p), (2, vi u), (3, vi g)]) (tw_s (tw_e 0 rfl (by omega)) (tw_s (tw_g 1 rfl) (tw_s (tw_g 2 rfl) (tw_s (tw_g 7 rfl) (tw_s (tw_g 8 rfl) (tw_s (tw_g 9 rfl) (tw_s (tw_g 10 rfl) tw_s0))))))) ?_; rw [show bstN s p u g (k + 1) j b m = bstN s p u g k (j + 1) b m by rw [bstN, if_neg (by omega)]]; exact ih (j + 1) _ _ I32 (by omega) hs32 hk32 (by omega) (by omega))
                · refine ar_iconst (k := 56) rfl ?_
                  refine ar_goto (k := 57) rfl ?_
                  refine ar_istore (k := 59) (l2 := [(10, _), (9, _), (8, _), (7, _), (6, _), (5, _), (4, _), (0, _), (1, _), (2, _), (3, _)]) rfl (by decide) rfl ?_
                  refine ar_iload (k := 60) rfl rfl ?_
                  refine ar_if_eq (k := 61) rfl (by omega) (fun c61 => ?_) (fun c61 => ?_)
                  · refine ar_iload (k := 64) rfl rfl ?_
                    refine ar_istore (k := 65) (l2 := [(4, _), (10, _), (9, _), (8, _), (7, _), (6, _), (5, _), (0, _), (1, _), (2, _), (3, _)]) rfl (by decide) rfl ?_
                    refine ar_iload (k := 66) rfl rfl ?_
                    refine ar_if_eq (k := 67) rfl (by omega) (fun c67 => ?_) (fun c67 => ?_)
                    · refine ar_iload (k := 70) rfl rfl ?_
                      refine ar_istore (k := 71) (l2 := [(5, _), (4, _), (10, _), (9, _), (8, _), (7, _), (6, _), (0, _), (1, _), (2, _), (3, _)]) rfl (by decide) rfl ?_
                      first
                        | (exfalso; omega)
                        | (refine ar_iinc (k := 72) (l2 := [(6, _), (5, _), (4, _), (10, _), (9, _), (8, _), (7, _), (0, _), (1, _), (2, _), (3, _)]) rfl (by decide) rfl rfl ?_; refine ar_goto (k := 73) rfl ?_; refine ar_sub (l2 := [(6, vi ((j + 1 : Nat) : Int)), (5, vi (rWorth s j u)), (4, vi ((j : Int))), (0, vr (some 69)), (1, vi p), (2, vi u), (3, vi g)]) (tw_s (tw_e 0 rfl (by omega)) (tw_s (tw_g 1 rfl) (tw_s (tw_g 2 rfl) (tw_s (tw_g 7 rfl) (tw_s (tw_g 8 rfl) (tw_s (tw_g 9 rfl) (tw_s (tw_g 10 rfl) tw_s0))))))) ?_; rw [show bstN s p u g (k + 1) j b m = bstN s p u g k (j + 1) j (rWorth s j u) by rw [bstN, if_pos (by refine ⟨by omega, by omega, by omega⟩)]]; exact ih (j + 1) _ _ I32 (by omega) hs32 hk32 (by omega) (by omega))
                        | (refine ar_iinc (k := 72) (l2 := [(6, _), (5, _), (4, _), (10, _), (9, _), (8, _), (7, _), (0, _), (1, _), (2, _), (3, _)]) rfl (by decide) rfl rfl ?_; refine ar_goto (k := 73) rfl ?_; refine ar_sub (l2 := [(6, vi ((j + 1 : Nat) : Int)), (5, vi (m)), (4, vi (b)), (0, vr (some 69)), (1, vi p), (2, vi u), (3, vi g)]) (tw_s (tw_e 0 rfl (by omega)) (tw_s (tw_g 1 rfl) (tw_s (tw_g 2 rfl) (tw_s (tw_g 7 rfl) (tw_s (tw_g 8 rfl) (tw_s (tw_g 9 rfl) (tw_s (tw_g 10 rfl) tw_s0))))))) ?_; rw [show bstN s p u g (k + 1) j b m = bstN s p u g k (j + 1) b m by rw [bstN, if_neg (by omega)]]; exact ih (j + 1) _ _ I32 (by omega) hs32 hk32 (by omega) (by omega))
                    · refine ar_iload (k := 68) rfl rfl ?_
                      refine ar_goto (k := 69) rfl ?_
                      refine ar_istore (k := 71) (l2 := [(5, _), (4, _), (10, _), (9, _), (8, _), (7, _), (6, _), (0, _), (1, _), (2, _), (3, _)]) rfl (by decide) rfl ?_
                      first
                        | (exfalso; omega)
                        | (refine ar_iinc (k := 72) (l2 := [(6, _), (5, _), (4, _), (10, _), (9, _), (8, _), (7, _), (0, _), (1, _), (2, _), (3, _)]) rfl (by decide) rfl rfl ?_; refine ar_goto (k := 73) rfl ?_; refine ar_sub (l2 := [(6, vi ((j + 1 : Nat) : Int)), (5, vi (rWorth s j u)), (4, vi ((j : Int))), (0, vr (some 69)), (1, vi p), (2, vi u), (3, vi g)]) (tw_s (tw_e 0 rfl (by omega)) (tw_s (tw_g 1 rfl) (tw_s (tw_g 2 rfl) (tw_s (tw_g 7 rfl) (tw_s (tw_g 8 rfl) (tw_s (tw_g 9 rfl) (tw_s (tw_g 10 rfl) tw_s0))))))) ?_; rw [show bstN s p u g (k + 1) j b m = bstN s p u g k (j + 1) j (rWorth s j u) by rw [bstN, if_pos (by refine ⟨by omega, by omega, by omega⟩)]]; exact ih (j + 1) _ _ I32 (by omega) hs32 hk32 (by omega) (by omega))
                        | (refine ar_iinc (k := 72) (l2 := [(6, _), (5, _), (4, _), (10, _), (9, _), (8, _), (7, _), (0, _), (1, _), (2, _), (3, _)]) rfl (by decide) rfl rfl ?_; refine ar_goto (k := 73) rfl ?_; refine ar_sub (l2 := [(6, vi ((j + 1 : Nat) : Int)), (5, vi (m)), (4, vi (b)), (0, vr (some 69)), (1, vi p), (2, vi u), (3, vi g)]) (tw_s (tw_e 0 rfl (by omega)) (tw_s (tw_g 1 rfl) (tw_s (tw_g 2 rfl) (tw_s (tw_g 7 rfl) (tw_s (tw_g 8 rfl) (tw_s (tw_g 9 rfl) (tw_s (tw_g 10 rfl) tw_s0))))))) ?_; rw [show bstN s p u g (k + 1) j b m = bstN s p u g k (j + 1) b m by rw [bstN, if_neg (by omega)]]; exact ih (j + 1) _ _ I32 (by omega) hs32 hk32 (by omega) (by omega))
                  · refine ar_iload (k := 62) rfl rfl ?_
                    refine ar_goto (k := 63) rfl ?_
                    refine ar_istore (k := 65) (l2 := [(4, _), (10, _), (9, _), (8, _), (7, _), (6, _), (5, _), (0, _), (1, _), (2, _), (3, _)]) rfl (by decide) rfl ?_
                    refine ar_iload (k := 66) rfl rfl ?_
                    refine ar_if_eq (k := 67) rfl (by omega) (fun c67 => ?_) (fun c67 => ?_)
                    · refine ar_iload (k := 70) rfl rfl ?_
                      refine ar_istore (k := 71) (l2 := [(5, _), (4, _), (10, _), (9, _), (8, _), (7, _), (6, _), (0, _), (1, _), (2, _), (3, _)]) rfl (by decide) rfl ?_
                      first
                        | (exfalso; omega)
                        | (refine ar_iinc (k := 72) (l2 := [(6, _), (5, _), (4, _), (10, _), (9, _), (8, _), (7, _), (0, _), (1, _), (2, _), (3, _)]) rfl (by decide) rfl rfl ?_; refine ar_goto (k := 73) rfl ?_; refine ar_sub (l2 := [(6, vi ((j + 1 : Nat) : Int)), (5, vi (rWorth s j u)), (4, vi ((j : Int))), (0, vr (some 69)), (1, vi p), (2, vi u), (3, vi g)]) (tw_s (tw_e 0 rfl (by omega)) (tw_s (tw_g 1 rfl) (tw_s (tw_g 2 rfl) (tw_s (tw_g 7 rfl) (tw_s (tw_g 8 rfl) (tw_s (tw_g 9 rfl) (tw_s (tw_g 10 rfl) tw_s0))))))) ?_; rw [show bstN s p u g (k + 1) j b m = bstN s p u g k (j + 1) j (rWorth s j u) by rw [bstN, if_pos (by refine ⟨by omega, by omega, by omega⟩)]]; exact ih (j + 1) _ _ I32 (by omega) hs32 hk32 (by omega) (by omega))
                        | (refine ar_iinc (k := 72) (l2 := [(6, _), (5, _), (4, _), (10, _), (9, _), (8, _), (7, _), (0, _), (1, _), (2, _), (3, _)]) rfl (by decide) rfl rfl ?_; refine ar_goto (k := 73) rfl ?_; refine ar_sub (l2 := [(6, vi ((j + 1 : Nat) : Int)), (5, vi (m)), (4, vi (b)), (0, vr (some 69)), (1, vi p), (2, vi u), (3, vi g)]) (tw_s (tw_e 0 rfl (by omega)) (tw_s (tw_g 1 rfl) (tw_s (tw_g 2 rfl) (tw_s (tw_g 7 rfl) (tw_s (tw_g 8 rfl) (tw_s (tw_g 9 rfl) (tw_s (tw_g 10 rfl) tw_s0))))))) ?_; rw [show bstN s p u g (k + 1) j b m = bstN s p u g k (j + 1) b m by rw [bstN, if_neg (by omega)]]; exact ih (j + 1) _ _ I32 (by omega) hs32 hk32 (by omega) (by omega))
                    · refine ar_iload (k := 68) rfl rfl ?_
                      refine ar_goto (k := 69) rfl ?_
                      refine ar_istore (k := 71) (l2 := [(5, _), (4, _), (10, _), (9, _), (8, _), (7, _), (6, _), (0, _), (1, _), (2, _), (3, _)]) rfl (by decide) rfl ?_
                      first
                        | (exfalso; omega)
                        | (refine ar_iinc (k := 72) (l2 := [(6, _), (5, _), (4, _), (10, _), (9, _), (8, _), (7, _), (0, _), (1, _), (2, _), (3, _)]) rfl (by decide) rfl rfl ?_; refine ar_goto (k := 73) rfl ?_; refine ar_sub (l2 := [(6, vi ((j + 1 : Nat) : Int)), (5, vi (rWorth s j u)), (4, vi ((j : Int))), (0, vr (some 69)), (1, vi p), (2, vi u), (3, vi g)]) (tw_s (tw_e 0 rfl (by omega)) (tw_s (tw_g 1 rfl) (tw_s (tw_g 2 rfl) (tw_s (tw_g 7 rfl) (tw_s (tw_g 8 rfl) (tw_s (tw_g 9 rfl) (tw_s (tw_g 10 rfl) tw_s0))))))) ?_; rw [show bstN s p u g (k + 1) j b m = bstN s p u g k (j + 1) j (rWorth s j u) by rw [bstN, if_pos (by refine ⟨by omega, by omega, by omega⟩)]]; exact ih (j + 1) _ _ I32 (by omega) hs32 hk32 (by omega) (by omega))
                        | (refine ar_iinc (k := 72) (l2 := [(6, _), (5, _), (4, _), (10, _), (9, _), (8, _), (7, _), (0, _), (1, _), (2, _), (3, _)]) rfl (by decide) rfl rfl ?_; refine ar_goto (k := 73) rfl ?_; refine ar_sub (l2 := [(6, vi ((j + 1 : Nat) : Int)), (5, vi (m)), (4, vi (b)), (0, vr (some 69)), (1, vi p), (2, vi u), (3, vi g)]) (tw_s (tw_e 0 rfl (by omega)) (tw_s (tw_g 1 rfl) (tw_s (tw_g 2 rfl) (tw_s (tw_g 7 rfl) (tw_s (tw_g 8 rfl) (tw_s (tw_g 9 rfl) (tw_s (tw_g 10 rfl) tw_s0))))))) ?_; rw [show bstN s p u g (k + 1) j b m = bstN s p u g k (j + 1) b m by rw [bstN, if_neg (by omega)]]; exact ih (j + 1) _ _ I32 (by omega) hs32 hk32 (by omega) (by omega))
          · refine ar_aloadn (k := 39) rfl rfl ?_
            refine ar_iload (k := 40) rfl rfl ?_
            refine ar_iloadn (k := 41) rfl rfl ?_
            refine br_callV (k := 42) (as := [_, _]) rfl lvR_141 (hS.k (by decide)) rfl (c_R_isFree hS hs32 hR (by omega)) rfl (by decide) (by decide) tw_m0 (Nat.le_of_ble_eq_true rfl) ?_
            refine ar_if_eq (k := 43) rfl (by omega) (fun c43 => ?_) (fun c43 => ?_)
            · refine ar_iconst (k := 46) rfl ?_
              refine ar_istore (k := 47) (l2 := [(9, _), (8, _), (7, _), (6, _), (5, _), (4, _), (0, _), (1, _), (2, _), (3, _)]) rfl (by decide) rfl ?_
              refine ar_iload (k := 48) rfl rfl ?_
              refine ar_if_eq (k := 49) rfl (by omega) (fun c49 => ?_) (fun c49 => ?_)
              · refine ar_iconst (k := 58) rfl ?_
                refine ar_istore (k := 59) (l2 := [(10, _), (9, _), (8, _), (7, _), (6, _), (5, _), (4, _), (0, _), (1, _), (2, _), (3, _)]) rfl (by decide) rfl ?_
                refine ar_iload (k := 60) rfl rfl ?_
                refine ar_if_eq (k := 61) rfl (by omega) (fun c61 => ?_) (fun c61 => ?_)
                · refine ar_iload (k := 64) rfl rfl ?_
                  refine ar_istore (k := 65) (l2 := [(4, _), (10, _), (9, _), (8, _), (7, _), (6, _), (5, _), (0, _), (1, _), (2, _), (3, _)]) rfl (by decide) rfl ?_
                  refine ar_iload (k := 66) rfl rfl ?_
                  refine ar_if_eq (k := 67) rfl (by omega) (fun c67 => ?_) (fun c67 => ?_)
                  · refine ar_iload (k := 70) rfl rfl ?_
                    refine ar_istore (k := 71) (l2 := [(5, _), (4, _), (10, _), (9, _), (8, _), (7, _), (6, _), (0, _), (1, _), (2, _), (3, _)]) rfl (by decide) rfl ?_
                    first
                      | (exfalso; omega)
                      | (refine ar_iinc (k := 72) (l2 := [(6, _), (5, _), (4, _), (10, _), (9, _), (8, _), (7, _), (0, _), (1, _), (2, _), (3, _)]) rfl (by decide) rfl rfl ?_; refine ar_goto (k := 73) rfl ?_; refine ar_sub (l2 := [(6, vi ((j + 1 : Nat) : Int)), (5, vi (rWorth s j u)), (4, vi ((j : Int))), (0, vr (some 69)), (1, vi p), (2, vi u), (3, vi g)]) (tw_s (tw_e 0 rfl (by omega)) (tw_s (tw_g 1 rfl) (tw_s (tw_g 2 rfl) (tw_s (tw_g 7 rfl) (tw_s (tw_g 8 rfl) (tw_s (tw_g 9 rfl) (tw_s (tw_g 10 rfl) tw_s0))))))) ?_; rw [show bstN s p u g (k + 1) j b m = bstN s p u g k (j + 1) j (rWorth s j u) by rw [bstN, if_pos (by refine ⟨by omega, by omega, by omega⟩)]]; exact ih (j + 1) _ _ I32 (by omega) hs32 hk32 (by omega) (by omega))
                      | (refine ar_iinc (k := 72) (l2 := [(6, _), (5, _), (4, _), (10, _), (9, _), (8, _), (7, _), (0, _), (1, _), (2, _), (3, _)]) rfl (by decide) rfl rfl ?_; refine ar_goto (k := 73) rfl ?_; refine ar_sub (l2 := [(6, vi ((j + 1 : Nat) : Int)), (5, vi (m)), (4, vi (b)), (0, vr (some 69)), (1, vi p), (2, vi u), (3, vi g)]) (tw_s (tw_e 0 rfl (by omega)) (tw_s (tw_g 1 rfl) (tw_s (tw_g 2 rfl) (tw_s (tw_g 7 rfl) (tw_s (tw_g 8 rfl) (tw_s (tw_g 9 rfl) (tw_s (tw_g 10 rfl) tw_s0))))))) ?_; rw [show bstN s p u g (k + 1) j b m = bstN s p u g k (j + 1) b m by rw [bstN, if_neg (by omega)]]; exact ih (j + 1) _ _ I32 (by omega) hs32 hk32 (by omega) (by omega))
                  · refine ar_iload (k := 68) rfl rfl ?_
                    refine ar_goto (k := 69) rfl ?_
                    refine ar_istore (k := 71) (l2 := [(5, _), (4, _), (10, _), (9, _), (8, _), (7, _), (6, _), (0, _), (1, _), (2, _), (3, _)]) rfl (by decide) rfl ?_
                    first
                      | (exfalso; omega)
                      | (refine ar_iinc (k := 72) (l2 := [(6, _), (5, _), (4, _), (10, _), (9, _), (8, _), (7, _), (0, _), (1, _), (2, _), (3, _)]) rfl (by decide) rfl rfl ?_; refine ar_goto (k := 73) rfl ?_; refine ar_sub (l2 := [(6, vi ((j + 1 : Nat) : Int)), (5, vi (rWorth s j u)), (4, vi ((j : Int))), (0, vr (some 69)), (1, vi p), (2, vi u), (3, vi g)]) (tw_s (tw_e 0 rfl (by omega)) (tw_s (tw_g 1 rfl) (tw_s (tw_g 2 rfl) (tw_s (tw_g 7 rfl) (tw_s (tw_g 8 rfl) (tw_s (tw_g 9 rfl) (tw_s (tw_g 10 rfl) tw_s0))))))) ?_; rw [show bstN s p u g (k + 1) j b m = bstN s p u g k (j + 1) j (rWorth s j u) by rw [bstN, if_pos (by refine ⟨by omega, by omega, by omega⟩)]]; exact ih (j + 1) _ _ I32 (by omega) hs32 hk32 (by omega) (by omega))
                      | (refine ar_iinc (k := 72) (l2 := [(6, _), (5, _), (4, _), (10, _), (9, _), (8, _), (7, _), (0, _), (1, _), (2, _), (3, _)]) rfl (by decide) rfl rfl ?_; refine ar_goto (k := 73) rfl ?_; refine ar_sub (l2 := [(6, vi ((j + 1 : Nat) : Int)), (5, vi (m)), (4, vi (b)), (0, vr (some 69)), (1, vi p), (2, vi u), (3, vi g)]) (tw_s (tw_e 0 rfl (by omega)) (tw_s (tw_g 1 rfl) (tw_s (tw_g 2 rfl) (tw_s (tw_g 7 rfl) (tw_s (tw_g 8 rfl) (tw_s (tw_g 9 rfl) (tw_s (tw_g 10 rfl) tw_s0))))))) ?_; rw [show bstN s p u g (k + 1) j b m = bstN s p u g k (j + 1) b m by rw [bstN, if_neg (by omega)]]; exact ih (j + 1) _ _ I32 (by omega) hs32 hk32 (by omega) (by omega))
                · refine ar_iload (k := 62) rfl rfl ?_
                  refine ar_goto (k := 63) rfl ?_
                  refine ar_istore (k := 65) (l2 := [(4, _), (10, _), (9, _), (8, _), (7, _), (6, _), (5, _), (0, _), (1, _), (2, _), (3, _)]) rfl (by decide) rfl ?_
                  refine ar_iload (k := 66) rfl rfl ?_
                  refine ar_if_eq (k := 67) rfl (by omega) (fun c67 => ?_) (fun c67 => ?_)
                  · refine ar_iload (k := 70) rfl rfl ?_
                    refine ar_istore (k := 71) (l2 := [(5, _), (4, _), (10, _), (9, _), (8, _), (7, _), (6, _), (0, _), (1, _), (2, _), (3, _)]) rfl (by decide) rfl ?_
                    first
                      | (exfalso; omega)
                      | (refine ar_iinc (k := 72) (l2 := [(6, _), (5, _), (4, _), (10, _), (9, _), (8, _), (7, _), (0, _), (1, _), (2, _), (3, _)]) rfl (by decide) rfl rfl ?_; refine ar_goto (k := 73) rfl ?_; refine ar_sub (l2 := [(6, vi ((j + 1 : Nat) : Int)), (5, vi (rWorth s j u)), (4, vi ((j : Int))), (0, vr (some 69)), (1, vi p), (2, vi u), (3, vi g)]) (tw_s (tw_e 0 rfl (by omega)) (tw_s (tw_g 1 rfl) (tw_s (tw_g 2 rfl) (tw_s (tw_g 7 rfl) (tw_s (tw_g 8 rfl) (tw_s (tw_g 9 rfl) (tw_s (tw_g 10 rfl) tw_s0))))))) ?_; rw [show bstN s p u g (k + 1) j b m = bstN s p u g k (j + 1) j (rWorth s j u) by rw [bstN, if_pos (by refine ⟨by omega, by omega, by omega⟩)]]; exact ih (j + 1) _ _ I32 (by omega) hs32 hk32 (by omega) (by omega))
                      | (refine ar_iinc (k := 72) (l2 := [(6, _), (5, _), (4, _), (10, _), (9, _), (8, _), (7, _), (0, _), (1, _), (2, _), (3, _)]) rfl (by decide) rfl rfl ?_; refine ar_goto (k := 73) rfl ?_; refine ar_sub (l2 := [(6, vi ((j + 1 : Nat) : Int)), (5, vi (m)), (4, vi (b)), (0, vr (some 69)), (1, vi p), (2, vi u), (3, vi g)]) (tw_s (tw_e 0 rfl (by omega)) (tw_s (tw_g 1 rfl) (tw_s (tw_g 2 rfl) (tw_s (tw_g 7 rfl) (tw_s (tw_g 8 rfl) (tw_s (tw_g 9 rfl) (tw_s (tw_g 10 rfl) tw_s0))))))) ?_; rw [show bstN s p u g (k + 1) j b m = bstN s p u g k (j + 1) b m by rw [bstN, if_neg (by omega)]]; exact ih (j + 1) _ _ I32 (by omega) hs32 hk32 (by omega) (by omega))
                  · refine ar_iload (k := 68) rfl rfl ?_
                    refine ar_goto (k := 69) rfl ?_
                    refine ar_istore (k := 71) (l2 := [(5, _), (4, _), (10, _), (9, _), (8, _), (7, _), (6, _), (0, _), (1, _), (2, _), (3, _)]) rfl (by decide) rfl ?_
                    first
                      | (exfalso; omega)
                      | (refine ar_iinc (k := 72) (l2 := [(6, _), (5, _), (4, _), (10, _), (9, _), (8, _), (7, _), (0, _), (1, _), (2, _), (3, _)]) rfl (by decide) rfl rfl ?_; refine ar_goto (k := 73) rfl ?_; refine ar_sub (l2 := [(6, vi ((j + 1 : Nat) : Int)), (5, vi (rWorth s j u)), (4, vi ((j : Int))), (0, vr (some 69)), (1, vi p), (2, vi u), (3, vi g)]) (tw_s (tw_e 0 rfl (by omega)) (tw_s (tw_g 1 rfl) (tw_s (tw_g 2 rfl) (tw_s (tw_g 7 rfl) (tw_s (tw_g 8 rfl) (tw_s (tw_g 9 rfl) (tw_s (tw_g 10 rfl) tw_s0))))))) ?_; rw [show bstN s p u g (k + 1) j b m = bstN s p u g k (j + 1) j (rWorth s j u) by rw [bstN, if_pos (by refine ⟨by omega, by omega, by omega⟩)]]; exact ih (j + 1) _ _ I32 (by omega) hs32 hk32 (by omega) (by omega))
                      | (refine ar_iinc (k := 72) (l2 := [(6, _), (5, _), (4, _), (10, _), (9, _), (8, _), (7, _), (0, _), (1, _), (2, _), (3, _)]) rfl (by decide) rfl rfl ?_; refine ar_goto (k := 73) rfl ?_; refine ar_sub (l2 := [(6, vi ((j + 1 : Nat) : Int)), (5, vi (m)), (4, vi (b)), (0, vr (some 69)), (1, vi p), (2, vi u), (3, vi g)]) (tw_s (tw_e 0 rfl (by omega)) (tw_s (tw_g 1 rfl) (tw_s (tw_g 2 rfl) (tw_s (tw_g 7 rfl) (tw_s (tw_g 8 rfl) (tw_s (tw_g 9 rfl) (tw_s (tw_g 10 rfl) tw_s0))))))) ?_; rw [show bstN s p u g (k + 1) j b m = bstN s p u g k (j + 1) b m by rw [bstN, if_neg (by omega)]]; exact ih (j + 1) _ _ I32 (by omega) hs32 hk32 (by omega) (by omega))
              · refine ar_iload (k := 50) rfl rfl ?_
                refine ar_iconst (k := 51) rfl ?_
                refine ar_icmp_eq (k := 52) rfl (by omega) (by omega) (fun c52 => ?_) (fun c52 => ?_)
                · refine ar_iconst (k := 56) rfl ?_
                  refine ar_goto (k := 57) rfl ?_
                  refine ar_istore (k := 59) (l2 := [(10, _), (9, _), (8, _), (7, _), (6, _), (5, _), (4, _), (0, _), (1, _), (2, _), (3, _)]) rfl (by decide) rfl ?_
                  refine ar_iload (k := 60) rfl rfl ?_
                  refine ar_if_eq (k := 61) rfl (by omega) (fun c61 => ?_) (fun c61 => ?_)
                  · refine ar_iload (k := 64) rfl rfl ?_
                    refine ar_istore (k := 65) (l2 := [(4, _), (10, _), (9, _), (8, _), (7, _), (6, _), (5, _), (0, _), (1, _), (2, _), (3, _)]) rfl (by decide) rfl ?_
                    refine ar_iload (k := 66) rfl rfl ?_
                    refine ar_if_eq (k := 67) rfl (by omega) (fun c67 => ?_) (fun c67 => ?_)
                    · refine ar_iload (k := 70) rfl rfl ?_
                      refine ar_istore (k := 71) (l2 := [(5, _), (4, _), (10, _), (9, _), (8, _), (7, _), (6, _), (0, _), (1, _), (2, _), (3, _)]) rfl (by decide) rfl ?_
                      first
                        | (exfalso; omega)
                        | (refine ar_iinc (k := 72) (l2 := [(6, _), (5, _), (4, _), (10, _), (9, _), (8, _), (7, _), (0, _), (1, _), (2, _), (3, _)]) rfl (by decide) rfl rfl ?_; refine ar_goto (k := 73) rfl ?_; refine ar_sub (l2 := [(6, vi ((j + 1 : Nat) : Int)), (5, vi (rWorth s j u)), (4, vi ((j : Int))), (0, vr (some 69)), (1, vi p), (2, vi u), (3, vi g)]) (tw_s (tw_e 0 rfl (by omega)) (tw_s (tw_g 1 rfl) (tw_s (tw_g 2 rfl) (tw_s (tw_g 7 rfl) (tw_s (tw_g 8 rfl) (tw_s (tw_g 9 rfl) (tw_s (tw_g 10 rfl) tw_s0))))))) ?_; rw [show bstN s p u g (k + 1) j b m = bstN s p u g k (j + 1) j (rWorth s j u) by rw [bstN, if_pos (by refine ⟨by omega, by omega, by omega⟩)]]; exact ih (j + 1) _ _ I32 (by omega) hs32 hk32 (by omega) (by omega))
                        | (refine ar_iinc (k := 72) (l2 := [(6, _), (5, _), (4, _), (10, _), (9, _), (8, _), (7, _), (0, _), (1, _), (2, _), (3, _)]) rfl (by decide) rfl rfl ?_; refine ar_goto (k := 73) rfl ?_; refine ar_sub (l2 := [(6, vi ((j + 1 : Nat) : Int)), (5, vi (m)), (4, vi (b)), (0, vr (some 69)), (1, vi p), (2, vi u), (3, vi g)]) (tw_s (tw_e 0 rfl (by omega)) (tw_s (tw_g 1 rfl) (tw_s (tw_g 2 rfl) (tw_s (tw_g 7 rfl) (tw_s (tw_g 8 rfl) (tw_s (tw_g 9 rfl) (tw_s (tw_g 10 rfl) tw_s0))))))) ?_; rw [show bstN s p u g (k + 1) j b m = bstN s p u g k (j + 1) b m by rw [bstN, if_neg (by omega)]]; exact ih (j + 1) _ _ I32 (by omega) hs32 hk32 (by omega) (by omega))
                    · refine ar_iload (k := 68) rfl rfl ?_
                      refine ar_goto (k := 69) rfl ?_
                      refine ar_istore (k := 71) (l2 := [(5, _), (4, _), (10, _), (9, _), (8, _), (7, _), (6, _), (0, _), (1, _), (2, _), (3, _)]) rfl (by decide) rfl ?_
                      first
                        | (exfalso; omega)
                        | (refine ar_iinc (k := 72) (l2 := [(6, _), (5, _), (4, _), (10, _), (9, _), (8, _), (7, _), (0, _), (1, _), (2, _), (3, _)]) rfl (by decide) rfl rfl ?_; refine ar_goto (k := 73) rfl ?_; refine ar_sub (l2 := [(6, vi ((j + 1 : Nat) : Int)), (5, vi (rWorth s j u)), (4, vi ((j : Int))), (0, vr (some 69)), (1, vi p), (2, vi u), (3, vi g)]) (tw_s (tw_e 0 rfl (by omega)) (tw_s (tw_g 1 rfl) (tw_s (tw_g 2 rfl) (tw_s (tw_g 7 rfl) (tw_s (tw_g 8 rfl) (tw_s (tw_g 9 rfl) (tw_s (tw_g 10 rfl) tw_s0))))))) ?_; rw [show bstN s p u g (k + 1) j b m = bstN s p u g k (j + 1) j (rWorth s j u) by rw [bstN, if_pos (by refine ⟨by omega, by omega, by omega⟩)]]; exact ih (j + 1) _ _ I32 (by omega) hs32 hk32 (by omega) (by omega))
                        | (refine ar_iinc (k := 72) (l2 := [(6, _), (5, _), (4, _), (10, _), (9, _), (8, _), (7, _), (0, _), (1, _), (2, _), (3, _)]) rfl (by decide) rfl rfl ?_; refine ar_goto (k := 73) rfl ?_; refine ar_sub (l2 := [(6, vi ((j + 1 : Nat) : Int)), (5, vi (m)), (4, vi (b)), (0, vr (some 69)), (1, vi p), (2, vi u), (3, vi g)]) (tw_s (tw_e 0 rfl (by omega)) (tw_s (tw_g 1 rfl) (tw_s (tw_g 2 rfl) (tw_s (tw_g 7 rfl) (tw_s (tw_g 8 rfl) (tw_s (tw_g 9 rfl) (tw_s (tw_g 10 rfl) tw_s0))))))) ?_; rw [show bstN s p u g (k + 1) j b m = bstN s p u g k (j + 1) b m by rw [bstN, if_neg (by omega)]]; exact ih (j + 1) _ _ I32 (by omega) hs32 hk32 (by omega) (by omega))
                  · refine ar_iload (k := 62) rfl rfl ?_
                    refine ar_goto (k := 63) rfl ?_
                    refine ar_istore (k := 65) (l2 := [(4, _), (10, _), (9, _), (8, _), (7, _), (6, _), (5, _), (0, _), (1, _), (2, _), (3, _)]) rfl (by decide) rfl ?_
                    refine ar_iload (k := 66) rfl rfl ?_
                    refine ar_if_eq (k := 67) rfl (by omega) (fun c67 => ?_) (fun c67 => ?_)
                    · refine ar_iload (k := 70) rfl rfl ?_
                      refine ar_istore (k := 71) (l2 := [(5, _), (4, _), (10, _), (9, _), (8, _), (7, _), (6, _), (0, _), (1, _), (2, _), (3, _)]) rfl (by decide) rfl ?_
                      first
                        | (exfalso; omega)
                        | (refine ar_iinc (k := 72) (l2 := [(6, _), (5, _), (4, _), (10, _), (9, _), (8, _), (7, _), (0, _), (1, _), (2, _), (3, _)]) rfl (by decide) rfl rfl ?_; refine ar_goto (k := 73) rfl ?_; refine ar_sub (l2 := [(6, vi ((j + 1 : Nat) : Int)), (5, vi (rWorth s j u)), (4, vi ((j : Int))), (0, vr (some 69)), (1, vi p), (2, vi u), (3, vi g)]) (tw_s (tw_e 0 rfl (by omega)) (tw_s (tw_g 1 rfl) (tw_s (tw_g 2 rfl) (tw_s (tw_g 7 rfl) (tw_s (tw_g 8 rfl) (tw_s (tw_g 9 rfl) (tw_s (tw_g 10 rfl) tw_s0))))))) ?_; rw [show bstN s p u g (k + 1) j b m = bstN s p u g k (j + 1) j (rWorth s j u) by rw [bstN, if_pos (by refine ⟨by omega, by omega, by omega⟩)]]; exact ih (j + 1) _ _ I32 (by omega) hs32 hk32 (by omega) (by omega))
                        | (refine ar_iinc (k := 72) (l2 := [(6, _), (5, _), (4, _), (10, _), (9, _), (8, _), (7, _), (0, _), (1, _), (2, _), (3, _)]) rfl (by decide) rfl rfl ?_; refine ar_goto (k := 73) rfl ?_; refine ar_sub (l2 := [(6, vi ((j + 1 : Nat) : Int)), (5, vi (m)), (4, vi (b)), (0, vr (some 69)), (1, vi p), (2, vi u), (3, vi g)]) (tw_s (tw_e 0 rfl (by omega)) (tw_s (tw_g 1 rfl) (tw_s (tw_g 2 rfl) (tw_s (tw_g 7 rfl) (tw_s (tw_g 8 rfl) (tw_s (tw_g 9 rfl) (tw_s (tw_g 10 rfl) tw_s0))))))) ?_; rw [show bstN s p u g (k + 1) j b m = bstN s p u g k (j + 1) b m by rw [bstN, if_neg (by omega)]]; exact ih (j + 1) _ _ I32 (by omega) hs32 hk32 (by omega) (by omega))
                    · refine ar_iload (k := 68) rfl rfl ?_
                      refine ar_goto (k := 69) rfl ?_
                      refine ar_istore (k := 71) (l2 := [(5, _), (4, _), (10, _), (9, _), (8, _), (7, _), (6, _), (0, _), (1, _), (2, _), (3, _)]) rfl (by decide) rfl ?_
                      first
                        | (exfalso; omega)
                        | (refine ar_iinc (k := 72) (l2 := [(6, _), (5, _), (4, _), (10, _), (9, _), (8, _), (7, _), (0, _), (1, _), (2, _), (3, _)]) rfl (by decide) rfl rfl ?_; refine ar_goto (k := 73) rfl ?_; refine ar_sub (l2 := [(6, vi ((j + 1 : Nat) : Int)), (5, vi (rWorth s j u)), (4, vi ((j : Int))), (0, vr (some 69)), (1, vi p), (2, vi u), (3, vi g)]) (tw_s (tw_e 0 rfl (by omega)) (tw_s (tw_g 1 rfl) (tw_s (tw_g 2 rfl) (tw_s (tw_g 7 rfl) (tw_s (tw_g 8 rfl) (tw_s (tw_g 9 rfl) (tw_s (tw_g 10 rfl) tw_s0))))))) ?_; rw [show bstN s p u g (k + 1) j b m = bstN s p u g k (j + 1) j (rWorth s j u) by rw [bstN, if_pos (by refine ⟨by omega, by omega, by omega⟩)]]; exact ih (j + 1) _ _ I32 (by omega) hs32 hk32 (by omega) (by omega))
                        | (refine ar_iinc (k := 72) (l2 := [(6, _), (5, _), (4, _), (10, _), (9, _), (8, _), (7, _), (0, _), (1, _), (2, _), (3, _)]) rfl (by decide) rfl rfl ?_; refine ar_goto (k := 73) rfl ?_; refine ar_sub (l2 := [(6, vi ((j + 1 : Nat) : Int)), (5, vi (m)), (4, vi (b)), (0, vr (some 69)), (1, vi p), (2, vi u), (3, vi g)]) (tw_s (tw_e 0 rfl (by omega)) (tw_s (tw_g 1 rfl) (tw_s (tw_g 2 rfl) (tw_s (tw_g 7 rfl) (tw_s (tw_g 8 rfl) (tw_s (tw_g 9 rfl) (tw_s (tw_g 10 rfl) tw_s0))))))) ?_; rw [show bstN s p u g (k + 1) j b m = bstN s p u g k (j + 1) b m by rw [bstN, if_neg (by omega)]]; exact ih (j + 1) _ _ I32 (by omega) hs32 hk32 (by omega) (by omega))
                · refine ar_iload (k := 53) rfl rfl ?_
                  refine ar_iload (k := 54) rfl rfl ?_
                  refine ar_icmp_le (k := 55) rfl (by omega) (by omega) (fun c55 => ?_) (fun c55 => ?_)
                  · refine ar_iconst (k := 58) rfl ?_
                    refine ar_istore (k := 59) (l2 := [(10, _), (9, _), (8, _), (7, _), (6, _), (5, _), (4, _), (0, _), (1, _), (2, _), (3, _)]) rfl (by decide) rfl ?_
                    refine ar_iload (k := 60) rfl rfl ?_
                    refine ar_if_eq (k := 61) rfl (by omega) (fun c61 => ?_) (fun c61 => ?_)
                    · refine ar_iload (k := 64) rfl rfl ?_
                      refine ar_istore (k := 65) (l2 := [(4, _), (10, _), (9, _), (8, _), (7, _), (6, _), (5, _), (0, _), (1, _), (2, _), (3, _)]) rfl (by decide) rfl ?_
                      refine ar_iload (k := 66) rfl rfl ?_
                      refine ar_if_eq (k := 67) rfl (by omega) (fun c67 => ?_) (fun c67 => ?_)
                      · refine ar_iload (k := 70) rfl rfl ?_
                        refine ar_istore (k := 71) (l2 := [(5, _), (4, _), (10, _), (9, _), (8, _), (7, _), (6, _), (0, _), (1, _), (2, _), (3, _)]) rfl (by decide) rfl ?_
                        first
                          | (exfalso; omega)
                          | (refine ar_iinc (k := 72) (l2 := [(6, _), (5, _), (4, _), (10, _), (9, _), (8, _), (7, _), (0, _), (1, _), (2, _), (3, _)]) rfl (by decide) rfl rfl ?_; refine ar_goto (k := 73) rfl ?_; refine ar_sub (l2 := [(6, vi ((j + 1 : Nat) : Int)), (5, vi (rWorth s j u)), (4, vi ((j : Int))), (0, vr (some 69)), (1, vi p), (2, vi u), (3, vi g)]) (tw_s (tw_e 0 rfl (by omega)) (tw_s (tw_g 1 rfl) (tw_s (tw_g 2 rfl) (tw_s (tw_g 7 rfl) (tw_s (tw_g 8 rfl) (tw_s (tw_g 9 rfl) (tw_s (tw_g 10 rfl) tw_s0))))))) ?_; rw [show bstN s p u g (k + 1) j b m = bstN s p u g k (j + 1) j (rWorth s j u) by rw [bstN, if_pos (by refine ⟨by omega, by omega, by omega⟩)]]; exact ih (j + 1) _ _ I32 (by omega) hs32 hk32 (by omega) (by omega))
                          | (refine ar_iinc (k := 72) (l2 := [(6, _), (5, _), (4, _), (10, _), (9, _), (8, _), (7, _), (0, _), (1, _), (2, _), (3, _)]) rfl (by decide) rfl rfl ?_; refine ar_goto (k := 73) rfl ?_; refine ar_sub (l2 := [(6, vi ((j + 1 : Nat) : Int)), (5, vi (m)), (4, vi (b)), (0, vr (some 69)), (1, vi p), (2, vi u), (3, vi g)]) (tw_s (tw_e 0 rfl (by omega)) (tw_s (tw_g 1 rfl) (tw_s (tw_g 2 rfl) (tw_s (tw_g 7 rfl) (tw_s (tw_g 8 rfl) (tw_s (tw_g 9 rfl) (tw_s (tw_g 10 rfl) tw_s0))))))) ?_; rw [show bstN s p u g (k + 1) j b m = bstN s p u g k (j + 1) b m by rw [bstN, if_neg (by omega)]]; exact ih (j + 1) _ _ I32 (by omega) hs32 hk32 (by omega) (by omega))
                      · refine ar_iload (k := 68) rfl rfl ?_
                        refine ar_goto (k := 69) rfl ?_
                        refine ar_istore (k := 71) (l2 := [(5, _), (4, _), (10, _), (9, _), (8, _), (7, _), (6, _), (0, _), (1, _), (2, _), (3, _)]) rfl (by decide) rfl ?_
                        first
                          | (exfalso; omega)
                          | (refine ar_iinc (k := 72) (l2 := [(6, _), (5, _), (4, _), (10, _), (9, _), (8, _), (7, _), (0, _), (1, _), (2, _), (3, _)]) rfl (by decide) rfl rfl ?_; refine ar_goto (k := 73) rfl ?_; refine ar_sub (l2 := [(6, vi ((j + 1 : Nat) : Int)), (5, vi (rWorth s j u)), (4, vi ((j : Int))), (0, vr (some 69)), (1, vi p), (2, vi u), (3, vi g)]) (tw_s (tw_e 0 rfl (by omega)) (tw_s (tw_g 1 rfl) (tw_s (tw_g 2 rfl) (tw_s (tw_g 7 rfl) (tw_s (tw_g 8 rfl) (tw_s (tw_g 9 rfl) (tw_s (tw_g 10 rfl) tw_s0))))))) ?_; rw [show bstN s p u g (k + 1) j b m = bstN s p u g k (j + 1) j (rWorth s j u) by rw [bstN, if_pos (by refine ⟨by omega, by omega, by omega⟩)]]; exact ih (j + 1) _ _ I32 (by omega) hs32 hk32 (by omega) (by omega))
                          | (refine ar_iinc (k := 72) (l2 := [(6, _), (5, _), (4, _), (10, _), (9, _), (8, _), (7, _), (0, _), (1, _), (2, _), (3, _)]) rfl (by decide) rfl rfl ?_; refine ar_goto (k := 73) rfl ?_; refine ar_sub (l2 := [(6, vi ((j + 1 : Nat) : Int)), (5, vi (m)), (4, vi (b)), (0, vr (some 69)), (1, vi p), (2, vi u), (3, vi g)]) (tw_s (tw_e 0 rfl (by omega)) (tw_s (tw_g 1 rfl) (tw_s (tw_g 2 rfl) (tw_s (tw_g 7 rfl) (tw_s (tw_g 8 rfl) (tw_s (tw_g 9 rfl) (tw_s (tw_g 10 rfl) tw_s0))))))) ?_; rw [show bstN s p u g (k + 1) j b m = bstN s p u g k (j + 1) b m by rw [bstN, if_neg (by omega)]]; exact ih (j + 1) _ _ I32 (by omega) hs32 hk32 (by omega) (by omega))
                    · refine ar_iload (k := 62) rfl rfl ?_
                      refine ar_goto (k := 63) rfl ?_
                      refine ar_istore (k := 65) (l2 := [(4, _), (10, _), (9, _), (8, _), (7, _), (6, _), (5, _), (0, _), (1, _), (2, _), (3, _)]) rfl (by decide) rfl ?_
                      refine ar_iload (k := 66) rfl rfl ?_
                      refine ar_if_eq (k := 67) rfl (by omega) (fun c67 => ?_) (fun c67 => ?_)
                      · refine ar_iload (k := 70) rfl rfl ?_
                        refine ar_istore (k := 71) (l2 := [(5, _), (4, _), (10, _), (9, _), (8, _), (7, _), (6, _), (0, _), (1, _), (2, _), (3, _)]) rfl (by decide) rfl ?_
                        first
                          | (exfalso; omega)
                          | (refine ar_iinc (k := 72) (l2 := [(6, _), (5, _), (4, _), (10, _), (9, _), (8, _), (7, _), (0, _), (1, _), (2, _), (3, _)]) rfl (by decide) rfl rfl ?_; refine ar_goto (k := 73) rfl ?_; refine ar_sub (l2 := [(6, vi ((j + 1 : Nat) : Int)), (5, vi (rWorth s j u)), (4, vi ((j : Int))), (0, vr (some 69)), (1, vi p), (2, vi u), (3, vi g)]) (tw_s (tw_e 0 rfl (by omega)) (tw_s (tw_g 1 rfl) (tw_s (tw_g 2 rfl) (tw_s (tw_g 7 rfl) (tw_s (tw_g 8 rfl) (tw_s (tw_g 9 rfl) (tw_s (tw_g 10 rfl) tw_s0))))))) ?_; rw [show bstN s p u g (k + 1) j b m = bstN s p u g k (j + 1) j (rWorth s j u) by rw [bstN, if_pos (by refine ⟨by omega, by omega, by omega⟩)]]; exact ih (j + 1) _ _ I32 (by omega) hs32 hk32 (by omega) (by omega))
                          | (refine ar_iinc (k := 72) (l2 := [(6, _), (5, _), (4, _), (10, _), (9, _), (8, _), (7, _), (0, _), (1, _), (2, _), (3, _)]) rfl (by decide) rfl rfl ?_; refine ar_goto (k := 73) rfl ?_; refine ar_sub (l2 := [(6, vi ((j + 1 : Nat) : Int)), (5, vi (m)), (4, vi (b)), (0, vr (some 69)), (1, vi p), (2, vi u), (3, vi g)]) (tw_s (tw_e 0 rfl (by omega)) (tw_s (tw_g 1 rfl) (tw_s (tw_g 2 rfl) (tw_s (tw_g 7 rfl) (tw_s (tw_g 8 rfl) (tw_s (tw_g 9 rfl) (tw_s (tw_g 10 rfl) tw_s0))))))) ?_; rw [show bstN s p u g (k + 1) j b m = bstN s p u g k (j + 1) b m by rw [bstN, if_neg (by omega)]]; exact ih (j + 1) _ _ I32 (by omega) hs32 hk32 (by omega) (by omega))
                      · refine ar_iload (k := 68) rfl rfl ?_
                        refine ar_goto (k := 69) rfl ?_
                        refine ar_istore (k := 71) (l2 := [(5, _), (4, _), (10, _), (9, _), (8, _), (7, _), (6, _), (0, _), (1, _), (2, _), (3, _)]) rfl (by decide) rfl ?_
                        first
                          | (exfalso; omega)
                          | (refine ar_iinc (k := 72) (l2 := [(6, _), (5, _), (4, _), (10, _), (9, _), (8, _), (7, _), (0, _), (1, _), (2, _), (3, _)]) rfl (by decide) rfl rfl ?_; refine ar_goto (k := 73) rfl ?_; refine ar_sub (l2 := [(6, vi ((j + 1 : Nat) : Int)), (5, vi (rWorth s j u)), (4, vi ((j : Int))), (0, vr (some 69)), (1, vi p), (2, vi u), (3, vi g)]) (tw_s (tw_e 0 rfl (by omega)) (tw_s (tw_g 1 rfl) (tw_s (tw_g 2 rfl) (tw_s (tw_g 7 rfl) (tw_s (tw_g 8 rfl) (tw_s (tw_g 9 rfl) (tw_s (tw_g 10 rfl) tw_s0))))))) ?_; rw [show bstN s p u g (k + 1) j b m = bstN s p u g k (j + 1) j (rWorth s j u) by rw [bstN, if_pos (by refine ⟨by omega, by omega, by omega⟩)]]; exact ih (j + 1) _ _ I32 (by omega) hs32 hk32 (by omega) (by omega))
                          | (refine ar_iinc (k := 72) (l2 := [(6, _), (5, _), (4, _), (10, _), (9, _), (8, _), (7, _), (0, _), (1, _), (2, _), (3, _)]) rfl (by decide) rfl rfl ?_; refine ar_goto (k := 73) rfl ?_; refine ar_sub (l2 := [(6, vi ((j + 1 : Nat) : Int)), (5, vi (m)), (4, vi (b)), (0, vr (some 69)), (1, vi p), (2, vi u), (3, vi g)]) (tw_s (tw_e 0 rfl (by omega)) (tw_s (tw_g 1 rfl) (tw_s (tw_g 2 rfl) (tw_s (tw_g 7 rfl) (tw_s (tw_g 8 rfl) (tw_s (tw_g 9 rfl) (tw_s (tw_g 10 rfl) tw_s0))))))) ?_; rw [show bstN s p u g (k + 1) j b m = bstN s p u g k (j + 1) b m by rw [bstN, if_neg (by omega)]]; exact ih (j + 1) _ _ I32 (by omega) hs32 hk32 (by omega) (by omega))
                  · refine ar_iconst (k := 56) rfl ?_
                    refine ar_goto (k := 57) rfl ?_
                    refine ar_istore (k := 59) (l2 := [(10, _), (9, _), (8, _), (7, _), (6, _), (5, _), (4, _), (0, _), (1, _), (2, _), (3, _)]) rfl (by decide) rfl ?_
                    refine ar_iload (k := 60) rfl rfl ?_
                    refine ar_if_eq (k := 61) rfl (by omega) (fun c61 => ?_) (fun c61 => ?_)
                    · refine ar_iload (k := 64) rfl rfl ?_
                      refine ar_istore (k := 65) (l2 := [(4, _), (10, _), (9, _), (8, _), (7, _), (6, _), (5, _), (0, _), (1, _), (2, _), (3, _)]) rfl (by decide) rfl ?_
                      refine ar_iload (k := 66) rfl rfl ?_
                      refine ar_if_eq (k := 67) rfl (by omega) (fun c67 => ?_) (fun c67 => ?_)
                      · refine ar_iload (k := 70) rfl rfl ?_
                        refine ar_istore (k := 71) (l2 := [(5, _), (4, _), (10, _), (9, _), (8, _), (7, _), (6, _), (0, _), (1, _), (2, _), (3, _)]) rfl (by decide) rfl ?_
                        first
                          | (exfalso; omega)
                          | (refine ar_iinc (k := 72) (l2 := [(6, _), (5, _), (4, _), (10, _), (9, _), (8, _), (7, _), (0, _), (1, _), (2, _), (3, _)]) rfl (by decide) rfl rfl ?_; refine ar_goto (k := 73) rfl ?_; refine ar_sub (l2 := [(6, vi ((j + 1 : Nat) : Int)), (5, vi (rWorth s j u)), (4, vi ((j : Int))), (0, vr (some 69)), (1, vi p), (2, vi u), (3, vi g)]) (tw_s (tw_e 0 rfl (by omega)) (tw_s (tw_g 1 rfl) (tw_s (tw_g 2 rfl) (tw_s (tw_g 7 rfl) (tw_s (tw_g 8 rfl) (tw_s (tw_g 9 rfl) (tw_s (tw_g 10 rfl) tw_s0))))))) ?_; rw [show bstN s p u g (k + 1) j b m = bstN s p u g k (j + 1) j (rWorth s j u) by rw [bstN, if_pos (by refine ⟨by omega, by omega, by omega⟩)]]; exact ih (j + 1) _ _ I32 (by omega) hs32 hk32 (by omega) (by omega))
                          | (refine ar_iinc (k := 72) (l2 := [(6, _), (5, _), (4, _), (10, _), (9, _), (8, _), (7, _), (0, _), (1, _), (2, _), (3, _)]) rfl (by decide) rfl rfl ?_; refine ar_goto (k := 73) rfl ?_; refine ar_sub (l2 := [(6, vi ((j + 1 : Nat) : Int)), (5, vi (m)), (4, vi (b)), (0, vr (some 69)), (1, vi p), (2, vi u), (3, vi g)]) (tw_s (tw_e 0 rfl (by omega)) (tw_s (tw_g 1 rfl) (tw_s (tw_g 2 rfl) (tw_s (tw_g 7 rfl) (tw_s (tw_g 8 rfl) (tw_s (tw_g 9 rfl) (tw_s (tw_g 10 rfl) tw_s0))))))) ?_; rw [show bstN s p u g (k + 1) j b m = bstN s p u g k (j + 1) b m by rw [bstN, if_neg (by omega)]]; exact ih (j + 1) _ _ I32 (by omega) hs32 hk32 (by omega) (by omega))
                      · refine ar_iload (k := 68) rfl rfl ?_
                        refine ar_goto (k := 69) rfl ?_
                        refine ar_istore (k := 71) (l2 := [(5, _), (4, _), (10, _), (9, _), (8, _), (7, _), (6, _), (0, _), (1, _), (2, _), (3, _)]) rfl (by decide) rfl ?_
                        first
                          | (exfalso; omega)
                          | (refine ar_iinc (k := 72) (l2 := [(6, _), (5, _), (4, _), (10, _), (9, _), (8, _), (7, _), (0, _), (1, _), (2, _), (3, _)]) rfl (by decide) rfl rfl ?_; refine ar_goto (k := 73) rfl ?_; refine ar_sub (l2 := [(6, vi ((j + 1 : Nat) : Int)), (5, vi (rWorth s j u)), (4, vi ((j : Int))), (0, vr (some 69)), (1, vi p), (2, vi u), (3, vi g)]) (tw_s (tw_e 0 rfl (by omega)) (tw_s (tw_g 1 rfl) (tw_s (tw_g 2 rfl) (tw_s (tw_g 7 rfl) (tw_s (tw_g 8 rfl) (tw_s (tw_g 9 rfl) (tw_s (tw_g 10 rfl) tw_s0))))))) ?_; rw [show bstN s p u g (k + 1) j b m = bstN s p u g k (j + 1) j (rWorth s j u) by rw [bstN, if_pos (by refine ⟨by omega, by omega, by omega⟩)]]; exact ih (j + 1) _ _ I32 (by omega) hs32 hk32 (by omega) (by omega))
                          | (refine ar_iinc (k := 72) (l2 := [(6, _), (5, _), (4, _), (10, _), (9, _), (8, _), (7, _), (0, _), (1, _), (2, _), (3, _)]) rfl (by decide) rfl rfl ?_; refine ar_goto (k := 73) rfl ?_; refine ar_sub (l2 := [(6, vi ((j + 1 : Nat) : Int)), (5, vi (m)), (4, vi (b)), (0, vr (some 69)), (1, vi p), (2, vi u), (3, vi g)]) (tw_s (tw_e 0 rfl (by omega)) (tw_s (tw_g 1 rfl) (tw_s (tw_g 2 rfl) (tw_s (tw_g 7 rfl) (tw_s (tw_g 8 rfl) (tw_s (tw_g 9 rfl) (tw_s (tw_g 10 rfl) tw_s0))))))) ?_; rw [show bstN s p u g (k + 1) j b m = bstN s p u g k (j + 1) b m by rw [bstN, if_neg (by omega)]]; exact ih (j + 1) _ _ I32 (by omega) hs32 hk32 (by omega) (by omega))
                    · refine ar_iload (k := 62) rfl rfl ?_
                      refine ar_goto (k := 63) rfl ?_
                      refine ar_istore (k := 65) (l2 := [(4, _), (10, _), (9, _), (8, _), (7, _), (6, _), (5, _), (0, _), (1, _), (2, _), (3, _)]) rfl (by decide) rfl ?_
                      refine ar_iload (k := 66) rfl rfl ?_
                      refine ar_if_eq (k := 67) rfl (by omega) (fun c67 => ?_) (fun c67 => ?_)
                      · refine ar_iload (k := 70) rfl rfl ?_
                        refine ar_istore (k := 71) (l2 := [(5, _), (4, _), (10, _), (9, _), (8, _), (7, _), (6, _), (0, _), (1, _), (2, _), (3, _)]) rfl (by decide) rfl ?_
                        first
                          | (exfalso; omega)
                          | (refine ar_iinc (k := 72) (l2 := [(6, _), (5, _), (4, _), (10, _), (9, _), (8, _), (7, _), (0, _), (1, _), (2, _), (3, _)]) rfl (by decide) rfl rfl ?_; refine ar_goto (k := 73) rfl ?_; refine ar_sub (l2 := [(6, vi ((j + 1 : Nat) : Int)), (5, vi (rWorth s j u)), (4, vi ((j : Int))), (0, vr (some 69)), (1, vi p), (2, vi u), (3, vi g)]) (tw_s (tw_e 0 rfl (by omega)) (tw_s (tw_g 1 rfl) (tw_s (tw_g 2 rfl) (tw_s (tw_g 7 rfl) (tw_s (tw_g 8 rfl) (tw_s (tw_g 9 rfl) (tw_s (tw_g 10 rfl) tw_s0))))))) ?_; rw [show bstN s p u g (k + 1) j b m = bstN s p u g k (j + 1) j (rWorth s j u) by rw [bstN, if_pos (by refine ⟨by omega, by omega, by omega⟩)]]; exact ih (j + 1) _ _ I32 (by omega) hs32 hk32 (by omega) (by omega))
                          | (refine ar_iinc (k := 72) (l2 := [(6, _), (5, _), (4, _), (10, _), (9, _), (8, _), (7, _), (0, _), (1, _), (2, _), (3, _)]) rfl (by decide) rfl rfl ?_; refine ar_goto (k := 73) rfl ?_; refine ar_sub (l2 := [(6, vi ((j + 1 : Nat) : Int)), (5, vi (m)), (4, vi (b)), (0, vr (some 69)), (1, vi p), (2, vi u), (3, vi g)]) (tw_s (tw_e 0 rfl (by omega)) (tw_s (tw_g 1 rfl) (tw_s (tw_g 2 rfl) (tw_s (tw_g 7 rfl) (tw_s (tw_g 8 rfl) (tw_s (tw_g 9 rfl) (tw_s (tw_g 10 rfl) tw_s0))))))) ?_; rw [show bstN s p u g (k + 1) j b m = bstN s p u g k (j + 1) b m by rw [bstN, if_neg (by omega)]]; exact ih (j + 1) _ _ I32 (by omega) hs32 hk32 (by omega) (by omega))
                      · refine ar_iload (k := 68) rfl rfl ?_
                        refine ar_goto (k := 69) rfl ?_
                        refine ar_istore (k := 71) (l2 := [(5, _), (4, _), (10, _), (9, _), (8, _), (7, _), (6, _), (0, _), (1, _), (2, _), (3, _)]) rfl (by decide) rfl ?_
                        first
                          | (exfalso; omega)
                          | (refine ar_iinc (k := 72) (l2 := [(6, _), (5, _), (4, _), (10, _), (9, _), (8, _), (7, _), (0, _), (1, _), (2, _), (3, _)]) rfl (by decide) rfl rfl ?_; refine ar_goto (k := 73) rfl ?_; refine ar_sub (l2 := [(6, vi ((j + 1 : Nat) : Int)), (5, vi (rWorth s j u)), (4, vi ((j : Int))), (0, vr (some 69)), (1, vi p), (2, vi u), (3, vi g)]) (tw_s (tw_e 0 rfl (by omega)) (tw_s (tw_g 1 rfl) (tw_s (tw_g 2 rfl) (tw_s (tw_g 7 rfl) (tw_s (tw_g 8 rfl) (tw_s (tw_g 9 rfl) (tw_s (tw_g 10 rfl) tw_s0))))))) ?_; rw [show bstN s p u g (k + 1) j b m = bstN s p u g k (j + 1) j (rWorth s j u) by rw [bstN, if_pos (by refine ⟨by omega, by omega, by omega⟩)]]; exact ih (j + 1) _ _ I32 (by omega) hs32 hk32 (by omega) (by omega))
                          | (refine ar_iinc (k := 72) (l2 := [(6, _), (5, _), (4, _), (10, _), (9, _), (8, _), (7, _), (0, _), (1, _), (2, _), (3, _)]) rfl (by decide) rfl rfl ?_; refine ar_goto (k := 73) rfl ?_; refine ar_sub (l2 := [(6, vi ((j + 1 : Nat) : Int)), (5, vi (m)), (4, vi (b)), (0, vr (some 69)), (1, vi p), (2, vi u), (3, vi g)]) (tw_s (tw_e 0 rfl (by omega)) (tw_s (tw_g 1 rfl) (tw_s (tw_g 2 rfl) (tw_s (tw_g 7 rfl) (tw_s (tw_g 8 rfl) (tw_s (tw_g 9 rfl) (tw_s (tw_g 10 rfl) tw_s0))))))) ?_; rw [show bstN s p u g (k + 1) j b m = bstN s p u g k (j + 1) b m by rw [bstN, if_neg (by omega)]]; exact ih (j + 1) _ _ I32 (by omega) hs32 hk32 (by omega) (by omega))
            · refine ar_iconst (k := 44) rfl ?_
              refine ar_goto (k := 45) rfl ?_
              refine ar_istore (k := 47) (l2 := [(9, _), (8, _), (7, _), (6, _), (5, _), (4, _), (0, _), (1, _), (2, _), (3, _)]) rfl (by decide) rfl ?_
              refine ar_iload (k := 48) rfl rfl ?_
              refine ar_if_eq (k := 49) rfl (by omega) (fun c49 => ?_) (fun c49 => ?_)
              · refine ar_iconst (k := 58) rfl ?_
                refine ar_istore (k := 59) (l2 := [(10, _), (9, _), (8, _), (7, _), (6, _), (5, _), (4, _), (0, _), (1, _), (2, _), (3, _)]) rfl (by decide) rfl ?_
                refine ar_iload (k := 60) rfl rfl ?_
                refine ar_if_eq (k := 61) rfl (by omega) (fun c61 => ?_) (fun c61 => ?_)
                · refine ar_iload (k := 64) rfl rfl ?_
                  refine ar_istore (k := 65) (l2 := [(4, _), (10, _), (9, _), (8, _), (7, _), (6, _), (5, _), (0, _), (1, _), (2, _), (3, _)]) rfl (by decide) rfl ?_
                  refine ar_iload (k := 66) rfl rfl ?_
                  refine ar_if_eq (k := 67) rfl (by omega) (fun c67 => ?_) (fun c67 => ?_)
                  · refine ar_iload (k := 70) rfl rfl ?_
                    refine ar_istore (k := 71) (l2 := [(5, _), (4, _), (10, _), (9, _), (8, _), (7, _), (6, _), (0, _), (1, _), (2, _), (3, _)]) rfl (by decide) rfl ?_
                    first
                      | (exfalso; omega)
                      | (refine ar_iinc (k := 72) (l2 := [(6, _), (5, _), (4, _), (10, _), (9, _), (8, _), (7, _), (0, _), (1, _), (2, _), (3, _)]) rfl (by decide) rfl rfl ?_; refine ar_goto (k := 73) rfl ?_; refine ar_sub (l2 := [(6, vi ((j + 1 : Nat) : Int)), (5, vi (rWorth s j u)), (4, vi ((j : Int))), (0, vr (some 69)), (1, vi p), (2, vi u), (3, vi g)]) (tw_s (tw_e 0 rfl (by omega)) (tw_s (tw_g 1 rfl) (tw_s (tw_g 2 rfl) (tw_s (tw_g 7 rfl) (tw_s (tw_g 8 rfl) (tw_s (tw_g 9 rfl) (tw_s (tw_g 10 rfl) tw_s0))))))) ?_; rw [show bstN s p u g (k + 1) j b m = bstN s p u g k (j + 1) j (rWorth s j u) by rw [bstN, if_pos (by refine ⟨by omega, by omega, by omega⟩)]]; exact ih (j + 1) _ _ I32 (by omega) hs32 hk32 (by omega) (by omega))
                      | (refine ar_iinc (k := 72) (l2 := [(6, _), (5, _), (4, _), (10, _), (9, _), (8, _), (7, _), (0, _), (1, _), (2, _), (3, _)]) rfl (by decide) rfl rfl ?_; refine ar_goto (k := 73) rfl ?_; refine ar_sub (l2 := [(6, vi ((j + 1 : Nat) : Int)), (5, vi (m)), (4, vi (b)), (0, vr (some 69)), (1, vi p), (2, vi u), (3, vi g)]) (tw_s (tw_e 0 rfl (by omega)) (tw_s (tw_g 1 rfl) (tw_s (tw_g 2 rfl) (tw_s (tw_g 7 rfl) (tw_s (tw_g 8 rfl) (tw_s (tw_g 9 rfl) (tw_s (tw_g 10 rfl) tw_s0))))))) ?_; rw [show bstN s p u g (k + 1) j b m = bstN s p u g k (j + 1) b m by rw [bstN, if_neg (by omega)]]; exact ih (j + 1) _ _ I32 (by omega) hs32 hk32 (by omega) (by omega))
                  · refine ar_iload (k := 68) rfl rfl ?_
                    refine ar_goto (k := 69) rfl ?_
                    refine ar_istore (k := 71) (l2 := [(5, _), (4, _), (10, _), (9, _), (8, _), (7, _), (6, _), (0, _), (1, _), (2, _), (3, _)]) rfl (by decide) rfl ?_
                    first
                      | (exfalso; omega)
                      | (refine ar_iinc (k := 72) (l2 := [(6, _), (5, _), (4, _), (10, _), (9, _), (8, _), (7, _), (0, _), (1, _), (2, _), (3, _)]) rfl (by decide) rfl rfl ?_; refine ar_goto (k := 73) rfl ?_; refine ar_sub (l2 := [(6, vi ((j + 1 : Nat) : Int)), (5, vi (rWorth s j u)), (4, vi ((j : Int))), (0, vr (some 69)), (1, vi p), (2, vi u), (3, vi g)]) (tw_s (tw_e 0 rfl (by omega)) (tw_s (tw_g 1 rfl) (tw_s (tw_g 2 rfl) (tw_s (tw_g 7 rfl) (tw_s (tw_g 8 rfl) (tw_s (tw_g 9 rfl) (tw_s (tw_g 10 rfl) tw_s0))))))) ?_; rw [show bstN s p u g (k + 1) j b m = bstN s p u g k (j + 1) j (rWorth s j u) by rw [bstN, if_pos (by refine ⟨by omega, by omega, by omega⟩)]]; exact ih (j + 1) _ _ I32 (by omega) hs32 hk32 (by omega) (by omega))
                      | (refine ar_iinc (k := 72) (l2 := [(6, _), (5, _), (4, _), (10, _), (9, _), (8, _), (7, _), (0, _), (1, _), (2, _), (3, _)]) rfl (by decide) rfl rfl ?_; refine ar_goto (k := 73) rfl ?_; refine ar_sub (l2 := [(6, vi ((j + 1 : Nat) : Int)), (5, vi (m)), (4, vi (b)), (0, vr (some 69)), (1, vi p), (2, vi u), (3, vi g)]) (tw_s (tw_e 0 rfl (by omega)) (tw_s (tw_g 1 rfl) (tw_s (tw_g 2 rfl) (tw_s (tw_g 7 rfl) (tw_s (tw_g 8 rfl) (tw_s (tw_g 9 rfl) (tw_s (tw_g 10 rfl) tw_s0))))))) ?_; rw [show bstN s p u g (k + 1) j b m = bstN s p u g k (j + 1) b m by rw [bstN, if_neg (by omega)]]; exact ih (j + 1) _ _ I32 (by omega) hs32 hk32 (by omega) (by omega))
                · refine ar_iload (k := 62) rfl rfl ?_
                  refine ar_goto (k := 63) rfl ?_
                  refine ar_istore (k := 65) (l2 := [(4, _), (10, _), (9, _), (8, _), (7, _), (6, _), (5, _), (0, _), (1, _), (2, _), (3, _)]) rfl (by decide) rfl ?_
                  refine ar_iload (k := 66) rfl rfl ?_
                  refine ar_if_eq (k := 67) rfl (by omega) (fun c67 => ?_) (fun c67 => ?_)
                  · refine ar_iload (k := 70) rfl rfl ?_
                    refine ar_istore (k := 71) (l2 := [(5, _), (4, _), (10, _), (9, _), (8, _), (7, _), (6, _), (0, _), (1, _), (2, _), (3, _)]) rfl (by decide) rfl ?_
                    first
                      | (exfalso; omega)
                      | (refine ar_iinc (k := 72) (l2 := [(6, _), (5, _), (4, _), (10, _), (9, _), (8, _), (7, _), (0, _), (1, _), (2, _), (3, _)]) rfl (by decide) rfl rfl ?_; refine ar_goto (k := 73) rfl ?_; refine ar_sub (l2 := [(6, vi ((j + 1 : Nat) : Int)), (5, vi (rWorth s j u)), (4, vi ((j : Int))), (0, vr (some 69)), (1, vi p), (2, vi u), (3, vi g)]) (tw_s (tw_e 0 rfl (by omega)) (tw_s (tw_g 1 rfl) (tw_s (tw_g 2 rfl) (tw_s (tw_g 7 rfl) (tw_s (tw_g 8 rfl) (tw_s (tw_g 9 rfl) (tw_s (tw_g 10 rfl) tw_s0))))))) ?_; rw [show bstN s p u g (k + 1) j b m = bstN s p u g k (j + 1) j (rWorth s j u) by rw [bstN, if_pos (by refine ⟨by omega, by omega, by omega⟩)]]; exact ih (j + 1) _ _ I32 (by omega) hs32 hk32 (by omega) (by omega))
                      | (refine ar_iinc (k := 72) (l2 := [(6, _), (5, _), (4, _), (10, _), (9, _), (8, _), (7, _), (0, _), (1, _), (2, _), (3, _)]) rfl (by decide) rfl rfl ?_; refine ar_goto (k := 73) rfl ?_; refine ar_sub (l2 := [(6, vi ((j + 1 : Nat) : Int)), (5, vi (m)), (4, vi (b)), (0, vr (some 69)), (1, vi p), (2, vi u), (3, vi g)]) (tw_s (tw_e 0 rfl (by omega)) (tw_s (tw_g 1 rfl) (tw_s (tw_g 2 rfl) (tw_s (tw_g 7 rfl) (tw_s (tw_g 8 rfl) (tw_s (tw_g 9 rfl) (tw_s (tw_g 10 rfl) tw_s0))))))) ?_; rw [show bstN s p u g (k + 1) j b m = bstN s p u g k (j + 1) b m by rw [bstN, if_neg (by omega)]]; exact ih (j + 1) _ _ I32 (by omega) hs32 hk32 (by omega) (by omega))
                  · refine ar_iload (k := 68) rfl rfl ?_
                    refine ar_goto (k := 69) rfl ?_
                    refine ar_istore (k := 71) (l2 := [(5, _), (4, _), (10, _), (9, _), (8, _), (7, _), (6, _), (0, _), (1, _), (2, _), (3, _)]) rfl (by decide) rfl ?_
                    first
                      | (exfalso; omega)
                      | (refine ar_iinc (k := 72) (l2 := [(6, _), (5, _), (4, _), (10, _), (9, _), (8, _), (7, _), (0, _), (1, _), (2, _), (3, _)]) rfl (by decide) rfl rfl ?_; refine ar_goto (k := 73) rfl ?_; refine ar_sub (l2 := [(6, vi ((j + 1 : Nat) : Int)), (5, vi (rWorth s j u)), (4, vi ((j : Int))), (0, vr (some 69)), (1, vi p), (2, vi u), (3, vi g)]) (tw_s (tw_e 0 rfl (by omega)) (tw_s (tw_g 1 rfl) (tw_s (tw_g 2 rfl) (tw_s (tw_g 7 rfl) (tw_s (tw_g 8 rfl) (tw_s (tw_g 9 rfl) (tw_s (tw_g 10 rfl) tw_s0))))))) ?_; rw [show bstN s p u g (k + 1) j b m = bstN s p u g k (j + 1) j (rWorth s j u) by rw [bstN, if_pos (by refine ⟨by omega, by omega, by omega⟩)]]; exact ih (j + 1) _ _ I32 (by omega) hs32 hk32 (by omega) (by omega))
                      | (refine ar_iinc (k := 72) (l2 := [(6, _), (5, _), (4, _), (10, _), (9, _), (8, _), (7, _), (0, _), (1, _), (2, _), (3, _)]) rfl (by decide) rfl rfl ?_; refine ar_goto (k := 73) rfl ?_; refine ar_sub (l2 := [(6, vi ((j + 1 : Nat) : Int)), (5, vi (m)), (4, vi (b)), (0, vr (some 69)), (1, vi p), (2, vi u), (3, vi g)]) (tw_s (tw_e 0 rfl (by omega)) (tw_s (tw_g 1 rfl) (tw_s (tw_g 2 rfl) (tw_s (tw_g 7 rfl) (tw_s (tw_g 8 rfl) (tw_s (tw_g 9 rfl) (tw_s (tw_g 10 rfl) tw_s0))))))) ?_; rw [show bstN s p u g (k + 1) j b m = bstN s p u g k (j + 1) b m by rw [bstN, if_neg (by omega)]]; exact ih (j + 1) _ _ I32 (by omega) hs32 hk32 (by omega) (by omega))
              · refine ar_iload (k := 50) rfl rfl ?_
                refine ar_iconst (k := 51) rfl ?_
                refine ar_icmp_eq (k := 52) rfl (by omega) (by omega) (fun c52 => ?_) (fun c52 => ?_)
                · refine ar_iconst (k := 56) rfl ?_
                  refine ar_goto (k := 57) rfl ?_
                  refine ar_istore (k := 59) (l2 := [(10, _), (9, _), (8, _), (7, _), (6, _), (5, _), (4, _), (0, _), (1, _), (2, _), (3, _)]) rfl (by decide) rfl ?_
                  refine ar_iload (k := 60) rfl rfl ?_
                  refine ar_if_eq (k := 61) rfl (by omega) (fun c61 => ?_) (fun c61 => ?_)
                  · refine ar_iload (k := 64) rfl rfl ?_
                    refine ar_istore (k := 65) (l2 := [(4, _), (10, _), (9, _), (8, _), (7, _), (6, _), (5, _), (0, _), (1, _), (2, _), (3, _)]) rfl (by decide) rfl ?_
                    refine ar_iload (k := 66) rfl rfl ?_
                    refine ar_if_eq (k := 67) rfl (by omega) (fun c67 => ?_) (fun c67 => ?_)
                    · refine ar_iload (k := 70) rfl rfl ?_
                      refine ar_istore (k := 71) (l2 := [(5, _), (4, _), (10, _), (9, _), (8, _), (7, _), (6, _), (0, _), (1, _), (2, _), (3, _)]) rfl (by decide) rfl ?_
                      first
                        | (exfalso; omega)
                        | (refine ar_iinc (k := 72) (l2 := [(6, _), (5, _), (4, _), (10, _), (9, _), (8, _), (7, _), (0, _), (1, _), (2, _), (3, _)]) rfl (by decide) rfl rfl ?_; refine ar_goto (k := 73) rfl ?_; refine ar_sub (l2 := [(6, vi ((j + 1 : Nat) : Int)), (5, vi (rWorth s j u)), (4, vi ((j : Int))), (0, vr (some 69)), (1, vi p), (2, vi u), (3, vi g)]) (tw_s (tw_e 0 rfl (by omega)) (tw_s (tw_g 1 rfl) (tw_s (tw_g 2 rfl) (tw_s (tw_g 7 rfl) (tw_s (tw_g 8 rfl) (tw_s (tw_g 9 rfl) (tw_s (tw_g 10 rfl) tw_s0))))))) ?_; rw [show bstN s p u g (k + 1) j b m = bstN s p u g k (j + 1) j (rWorth s j u) by rw [bstN, if_pos (by refine ⟨by omega, by omega, by omega⟩)]]; exact ih (j + 1) _ _ I32 (by omega) hs32 hk32 (by omega) (by omega))
                        | (refine ar_iinc (k := 72) (l2 := [(6, _), (5, _), (4, _), (10, _), (9, _), (8, _), (7, _), (0, _), (1, _), (2, _), (3, _)]) rfl (by decide) rfl rfl ?_; refine ar_goto (k := 73) rfl ?_; refine ar_sub (l2 := [(6, vi ((j + 1 : Nat) : Int)), (5, vi (m)), (4, vi (b)), (0, vr (some 69)), (1, vi p), (2, vi u), (3, vi g)]) (tw_s (tw_e 0 rfl (by omega)) (tw_s (tw_g 1 rfl) (tw_s (tw_g 2 rfl) (tw_s (tw_g 7 rfl) (tw_s (tw_g 8 rfl) (tw_s (tw_g 9 rfl) (tw_s (tw_g 10 rfl) tw_s0))))))) ?_; rw [show bstN s p u g (k + 1) j b m = bstN s p u g k (j + 1) b m by rw [bstN, if_neg (by omega)]]; exact ih (j + 1) _ _ I32 (by omega) hs32 hk32 (by omega) (by omega))
                    · refine ar_iload (k := 68) rfl rfl ?_
                      refine ar_goto (k := 69) rfl ?_
                      refine ar_istore (k := 71) (l2 := [(5, _), (4, _), (10, _), (9, _), (8, _), (7, _), (6, _), (0, _), (1, _), (2, _), (3, _)]) rfl (by decide) rfl ?_
                      first
                        | (exfalso; omega)
                        | (refine ar_iinc (k := 72) (l2 := [(6, _), (5, _), (4, _), (10, _), (9, _), (8, _), (7, _), (0, _), (1, _), (2, _), (3, _)]) rfl (by decide) rfl rfl ?_; refine ar_goto (k := 73) rfl ?_; refine ar_sub (l2 := [(6, vi ((j + 1 : Nat) : Int)), (5, vi (rWorth s j u)), (4, vi ((j : Int))), (0, vr (some 69)), (1, vi p), (2, vi u), (3, vi g)]) (tw_s (tw_e 0 rfl (by omega)) (tw_s (tw_g 1 rfl) (tw_s (tw_g 2 rfl) (tw_s (tw_g 7 rfl) (tw_s (tw_g 8 rfl) (tw_s (tw_g 9 rfl) (tw_s (tw_g 10 rfl) tw_s0))))))) ?_; rw [show bstN s p u g (k + 1) j b m = bstN s p u g k (j + 1) j (rWorth s j u) by rw [bstN, if_pos (by refine ⟨by omega, by omega, by omega⟩)]]; exact ih (j + 1) _ _ I32 (by omega) hs32 hk32 (by omega) (by omega))
                        | (refine ar_iinc (k := 72) (l2 := [(6, _), (5, _), (4, _), (10, _), (9, _), (8, _), (7, _), (0, _), (1, _), (2, _), (3, _)]) rfl (by decide) rfl rfl ?_; refine ar_goto (k := 73) rfl ?_; refine ar_sub (l2 := [(6, vi ((j + 1 : Nat) : Int)), (5, vi (m)), (4, vi (b)), (0, vr (some 69)), (1, vi p), (2, vi u), (3, vi g)]) (tw_s (tw_e 0 rfl (by omega)) (tw_s (tw_g 1 rfl) (tw_s (tw_g 2 rfl) (tw_s (tw_g 7 rfl) (tw_s (tw_g 8 rfl) (tw_s (tw_g 9 rfl) (tw_s (tw_g 10 rfl) tw_s0))))))) ?_; rw [show bstN s p u g (k + 1) j b m = bstN s p u g k (j + 1) b m by rw [bstN, if_neg (by omega)]]; exact ih (j + 1) _ _ I32 (by omega) hs32 hk32 (by omega) (by omega))
                  · refine ar_iload (k := 62) rfl rfl ?_
                    refine ar_goto (k := 63) rfl ?_
                    refine ar_istore (k := 65) (l2 := [(4, _), (10, _), (9, _), (8, _), (7, _), (6, _), (5, _), (0, _), (1, _), (2, _), (3, _)]) rfl (by decide) rfl ?_
                    refine ar_iload (k := 66) rfl rfl ?_
                    refine ar_if_eq (k := 67) rfl (by omega) (fun c67 => ?_) (fun c67 => ?_)
                    · refine ar_iload (k := 70) rfl rfl ?_
                      refine ar_istore (k := 71) (l2 := [(5, _), (4, _), (10, _), (9, _), (8, _), (7, _), (6, _), (0, _), (1, _), (2, _), (3, _)]) rfl (by decide) rfl ?_
                      first
                        | (exfalso; omega)
                        | (refine ar_iinc (k := 72) (l2 := [(6, _), (5, _), (4, _), (10, _), (9, _), (8, _), (7, _), (0, _), (1, _), (2, _), (3, _)]) rfl (by decide) rfl rfl ?_; refine ar_goto (k := 73) rfl ?_; refine ar_sub (l2 := [(6, vi ((j + 1 : Nat) : Int)), (5, vi (rWorth s j u)), (4, vi ((j : Int))), (0, vr (some 69)), (1, vi p), (2, vi u), (3, vi g)]) (tw_s (tw_e 0 rfl (by omega)) (tw_s (tw_g 1 rfl) (tw_s (tw_g 2 rfl) (tw_s (tw_g 7 rfl) (tw_s (tw_g 8 rfl) (tw_s (tw_g 9 rfl) (tw_s (tw_g 10 rfl) tw_s0))))))) ?_; rw [show bstN s p u g (k + 1) j b m = bstN s p u g k (j + 1) j (rWorth s j u) by rw [bstN, if_pos (by refine ⟨by omega, by omega, by omega⟩)]]; exact ih (j + 1) _ _ I32 (by omega) hs32 hk32 (by omega) (by omega))
                        | (refine ar_iinc (k := 72) (l2 := [(6, _), (5, _), (4, _), (10, _), (9, _), (8, _), (7, _), (0, _), (1, _), (2, _), (3, _)]) rfl (by decide) rfl rfl ?_; refine ar_goto (k := 73) rfl ?_; refine ar_sub (l2 := [(6, vi ((j + 1 : Nat) : Int)), (5, vi (m)), (4, vi (b)), (0, vr (some 69)), (1, vi p), (2, vi u), (3, vi g)]) (tw_s (tw_e 0 rfl (by omega)) (tw_s (tw_g 1 rfl) (tw_s (tw_g 2 rfl) (tw_s (tw_g 7 rfl) (tw_s (tw_g 8 rfl) (tw_s (tw_g 9 rfl) (tw_s (tw_g 10 rfl) tw_s0))))))) ?_; rw [show bstN s p u g (k + 1) j b m = bstN s p u g k (j + 1) b m by rw [bstN, if_neg (by omega)]]; exact ih (j + 1) _ _ I32 (by omega) hs32 hk32 (by omega) (by omega))
                    · refine ar_iload (k := 68) rfl rfl ?_
                      refine ar_goto (k := 69) rfl ?_
                      refine ar_istore (k := 71) (l2 := [(5, _), (4, _), (10, _), (9, _), (8, _), (7, _), (6, _), (0, _), (1, _), (2, _), (3, _)]) rfl (by decide) rfl ?_
                      first
                        | (exfalso; omega)
                        | (refine ar_iinc (k := 72) (l2 := [(6, _), (5, _), (4, _), (10, _), (9, _), (8, _), (7, _), (0, _), (1, _), (2, _), (3, _)]) rfl (by decide) rfl rfl ?_; refine ar_goto (k := 73) rfl ?_; refine ar_sub (l2 := [(6, vi ((j + 1 : Nat) : Int)), (5, vi (rWorth s j u)), (4, vi ((j : Int))), (0, vr (some 69)), (1, vi p), (2, vi u), (3, vi g)]) (tw_s (tw_e 0 rfl (by omega)) (tw_s (tw_g 1 rfl) (tw_s (tw_g 2 rfl) (tw_s (tw_g 7 rfl) (tw_s (tw_g 8 rfl) (tw_s (tw_g 9 rfl) (tw_s (tw_g 10 rfl) tw_s0))))))) ?_; rw [show bstN s p u g (k + 1) j b m = bstN s p u g k (j + 1) j (rWorth s j u) by rw [bstN, if_pos (by refine ⟨by omega, by omega, by omega⟩)]]; exact ih (j + 1) _ _ I32 (by omega) hs32 hk32 (by omega) (by omega))
                        | (refine ar_iinc (k := 72) (l2 := [(6, _), (5, _), (4, _), (10, _), (9, _), (8, _), (7, _), (0, _), (1, _), (2, _), (3, _)]) rfl (by decide) rfl rfl ?_; refine ar_goto (k := 73) rfl ?_; refine ar_sub (l2 := [(6, vi ((j + 1 : Nat) : Int)), (5, vi (m)), (4, vi (b)), (0, vr (some 69)), (1, vi p), (2, vi u), (3, vi g)]) (tw_s (tw_e 0 rfl (by omega)) (tw_s (tw_g 1 rfl) (tw_s (tw_g 2 rfl) (tw_s (tw_g 7 rfl) (tw_s (tw_g 8 rfl) (tw_s (tw_g 9 rfl) (tw_s (tw_g 10 rfl) tw_s0))))))) ?_; rw [show bstN s p u g (k + 1) j b m = bstN s p u g k (j + 1) b m by rw [bstN, if_neg (by omega)]]; exact ih (j + 1) _ _ I32 (by omega) hs32 hk32 (by omega) (by omega))
                · refine ar_iload (k := 53) rfl rfl ?_
                  refine ar_iload (k := 54) rfl rfl ?_
                  refine ar_icmp_le (k := 55) rfl (by omega) (by omega) (fun c55 => ?_) (fun c55 => ?_)
                  · refine ar_iconst (k := 58) rfl ?_
                    refine ar_istore (k := 59) (l2 := [(10, _), (9, _), (8, _), (7, _), (6, _), (5, _), (4, _), (0, _), (1, _), (2, _), (3, _)]) rfl (by decide) rfl ?_
                    refine ar_iload (k := 60) rfl rfl ?_
                    refine ar_if_eq (k := 61) rfl (by omega) (fun c61 => ?_) (fun c61 => ?_)
                    · refine ar_iload (k := 64) rfl rfl ?_
                      refine ar_istore (k := 65) (l2 := [(4, _), (10, _), (9, _), (8, _), (7, _), (6, _), (5, _), (0, _), (1, _), (2, _), (3, _)]) rfl (by decide) rfl ?_
                      refine ar_iload (k := 66) rfl rfl ?_
                      refine ar_if_eq (k := 67) rfl (by omega) (fun c67 => ?_) (fun c67 => ?_)
                      · refine ar_iload (k := 70) rfl rfl ?_
                        refine ar_istore (k := 71) (l2 := [(5, _), (4, _), (10, _), (9, _), (8, _), (7, _), (6, _), (0, _), (1, _), (2, _), (3, _)]) rfl (by decide) rfl ?_
                        first
                          | (exfalso; omega)
                          | (refine ar_iinc (k := 72) (l2 := [(6, _), (5, _), (4, _), (10, _), (9, _), (8, _), (7, _), (0, _), (1, _), (2, _), (3, _)]) rfl (by decide) rfl rfl ?_; refine ar_goto (k := 73) rfl ?_; refine ar_sub (l2 := [(6, vi ((j + 1 : Nat) : Int)), (5, vi (rWorth s j u)), (4, vi ((j : Int))), (0, vr (some 69)), (1, vi p), (2, vi u), (3, vi g)]) (tw_s (tw_e 0 rfl (by omega)) (tw_s (tw_g 1 rfl) (tw_s (tw_g 2 rfl) (tw_s (tw_g 7 rfl) (tw_s (tw_g 8 rfl) (tw_s (tw_g 9 rfl) (tw_s (tw_g 10 rfl) tw_s0))))))) ?_; rw [show bstN s p u g (k + 1) j b m = bstN s p u g k (j + 1) j (rWorth s j u) by rw [bstN, if_pos (by refine ⟨by omega, by omega, by omega⟩)]]; exact ih (j + 1) _ _ I32 (by omega) hs32 hk32 (by omega) (by omega))
                          | (refine ar_iinc (k := 72) (l2 := [(6, _), (5, _), (4, _), (10, _), (9, _), (8, _), (7, _), (0, _), (1, _), (2, _), (3, _)]) rfl (by decide) rfl rfl ?_; refine ar_goto (k := 73) rfl ?_; refine ar_sub (l2 := [(6, vi ((j + 1 : Nat) : Int)), (5, vi (m)), (4, vi (b)), (0, vr (some 69)), (1, vi p), (2, vi u), (3, vi g)]) (tw_s (tw_e 0 rfl (by omega)) (tw_s (tw_g 1 rfl) (tw_s (tw_g 2 rfl) (tw_s (tw_g 7 rfl) (tw_s (tw_g 8 rfl) (tw_s (tw_g 9 rfl) (tw_s (tw_g 10 rfl) tw_s0))))))) ?_; rw [show bstN s p u g (k + 1) j b m = bstN s p u g k (j + 1) b m by rw [bstN, if_neg (by omega)]]; exact ih (j + 1) _ _ I32 (by omega) hs32 hk32 (by omega) (by omega))
                      · refine ar_iload (k := 68) rfl rfl ?_
                        refine ar_goto (k := 69) rfl ?_
                        refine ar_istore (k := 71) (l2 := [(5, _), (4, _), (10, _), (9, _), (8, _), (7, _), (6, _), (0, _), (1, _), (2, _), (3, _)]) rfl (by decide) rfl ?_
                        first
                          | (exfalso; omega)
                          | (refine ar_iinc (k := 72) (l2 := [(6, _), (5, _), (4, _), (10, _), (9, _), (8, _), (7, _), (0, _), (1, _), (2, _), (3, _)]) rfl (by decide) rfl rfl ?_; refine ar_goto (k := 73) rfl ?_; refine ar_sub (l2 := [(6, vi ((j + 1 : Nat) : Int)), (5, vi (rWorth s j u)), (4, vi ((j : Int))), (0, vr (some 69)), (1, vi p), (2, vi u), (3, vi g)]) (tw_s (tw_e 0 rfl (by omega)) (tw_s (tw_g 1 rfl) (tw_s (tw_g 2 rfl) (tw_s (tw_g 7 rfl) (tw_s (tw_g 8 rfl) (tw_s (tw_g 9 rfl) (tw_s (tw_g 10 rfl) tw_s0))))))) ?_; rw [show bstN s p u g (k + 1) j b m = bstN s p u g k (j + 1) j (rWorth s j u) by rw [bstN, if_pos (by refine ⟨by omega, by omega, by omega⟩)]]; exact ih (j + 1) _ _ I32 (by omega) hs32 hk32 (by omega) (by omega))
                          | (refine ar_iinc (k := 72) (l2 := [(6, _), (5, _), (4, _), (10, _), (9, _), (8, _), (7, _), (0, _), (1, _), (2, _), (3, _)]) rfl (by decide) rfl rfl ?_; refine ar_goto (k := 73) rfl ?_; refine ar_sub (l2 := [(6, vi ((j + 1 : Nat) : Int)), (5, vi (m)), (4, vi (b)), (0, vr (some 69)), (1, vi p), (2, vi u), (3, vi g)]) (tw_s (tw_e 0 rfl (by omega)) (tw_s (tw_g 1 rfl) (tw_s (tw_g 2 rfl) (tw_s (tw_g 7 rfl) (tw_s (tw_g 8 rfl) (tw_s (tw_g 9 rfl) (tw_s (tw_g 10 rfl) tw_s0))))))) ?_; rw [show bstN s p u g (k + 1) j b m = bstN s p u g k (j + 1) b m by rw [bstN, if_neg (by omega)]]; exact ih (j + 1) _ _ I32 (by omega) hs32 hk32 (by omega) (by omega))
                    · refine ar_iload (k := 62) rfl rfl ?_
                      refine ar_goto (k := 63) rfl ?_
                      refine ar_istore (k := 65) (l2 := [(4, _), (10, _), (9, _), (8, _), (7, _), (6, _), (5, _), (0, _), (1, _), (2, _), (3, _)]) rfl (by decide) rfl ?_
                      refine ar_iload (k := 66) rfl rfl ?_
                      refine ar_if_eq (k := 67) rfl (by omega) (fun c67 => ?_) (fun c67 => ?_)
                      · refine ar_iload (k := 70) rfl rfl ?_
                        refine ar_istore (k := 71) (l2 := [(5, _), (4, _), (10, _), (9, _), (8, _), (7, _), (6, _), (0, _), (1, _), (2, _), (3, _)]) rfl (by decide) rfl ?_
                        first
                          | (exfalso; omega)
                          | (refine ar_iinc (k := 72) (l2 := [(6, _), (5, _), (4, _), (10, _), (9, _), (8, _), (7, _), (0, _), (1, _), (2, _), (3, _)]) rfl (by decide) rfl rfl ?_; refine ar_goto (k := 73) rfl ?_; refine ar_sub (l2 := [(6, vi ((j + 1 : Nat) : Int)), (5, vi (rWorth s j u)), (4, vi ((j : Int))), (0, vr (some 69)), (1, vi p), (2, vi u), (3, vi g)]) (tw_s (tw_e 0 rfl (by omega)) (tw_s (tw_g 1 rfl) (tw_s (tw_g 2 rfl) (tw_s (tw_g 7 rfl) (tw_s (tw_g 8 rfl) (tw_s (tw_g 9 rfl) (tw_s (tw_g 10 rfl) tw_s0))))))) ?_; rw [show bstN s p u g (k + 1) j b m = bstN s p u g k (j + 1) j (rWorth s j u) by rw [bstN, if_pos (by refine ⟨by omega, by omega, by omega⟩)]]; exact ih (j + 1) _ _ I32 (by omega) hs32 hk32 (by omega) (by omega))
                          | (refine ar_iinc (k := 72) (l2 := [(6, _), (5, _), (4, _), (10, _), (9, _), (8, _), (7, _), (0, _), (1, _), (2, _), (3, _)]) rfl (by decide) rfl rfl ?_; refine ar_goto (k := 73) rfl ?_; refine ar_sub (l2 := [(6, vi ((j + 1 : Nat) : Int)), (5, vi (m)), (4, vi (b)), (0, vr (some 69)), (1, vi p), (2, vi u), (3, vi g)]) (tw_s (tw_e 0 rfl (by omega)) (tw_s (tw_g 1 rfl) (tw_s (tw_g 2 rfl) (tw_s (tw_g 7 rfl) (tw_s (tw_g 8 rfl) (tw_s (tw_g 9 rfl) (tw_s (tw_g 10 rfl) tw_s0))))))) ?_; rw [show bstN s p u g (k + 1) j b m = bstN s p u g k (j + 1) b m by rw [bstN, if_neg (by omega)]]; exact ih (j + 1) _ _ I32 (by omega) hs32 hk32 (by omega) (by omega))
                      · refine ar_iload (k := 68) rfl rfl ?_
                        refine ar_goto (k := 69) rfl ?_
                        refine ar_istore (k := 71) (l2 := [(5, _), (4, _), (10, _), (9, _), (8, _), (7, _), (6, _), (0, _), (1, _), (2, _), (3, _)]) rfl (by decide) rfl ?_
                        first
                          | (exfalso; omega)
                          | (refine ar_iinc (k := 72) (l2 := [(6, _), (5, _), (4, _), (10, _), (9, _), (8, _), (7, _), (0, _), (1, _), (2, _), (3, _)]) rfl (by decide) rfl rfl ?_; refine ar_goto (k := 73) rfl ?_; refine ar_sub (l2 := [(6, vi ((j + 1 : Nat) : Int)), (5, vi (rWorth s j u)), (4, vi ((j : Int))), (0, vr (some 69)), (1, vi p), (2, vi u), (3, vi g)]) (tw_s (tw_e 0 rfl (by omega)) (tw_s (tw_g 1 rfl) (tw_s (tw_g 2 rfl) (tw_s (tw_g 7 rfl) (tw_s (tw_g 8 rfl) (tw_s (tw_g 9 rfl) (tw_s (tw_g 10 rfl) tw_s0))))))) ?_; rw [show bstN s p u g (k + 1) j b m = bstN s p u g k (j + 1) j (rWorth s j u) by rw [bstN, if_pos (by refine ⟨by omega, by omega, by omega⟩)]]; exact ih (j + 1) _ _ I32 (by omega) hs32 hk32 (by omega) (by omega))
                          | (refine ar_iinc (k := 72) (l2 := [(6, _), (5, _), (4, _), (10, _), (9, _), (8, _), (7, _), (0, _), (1, _), (2, _), (3, _)]) rfl (by decide) rfl rfl ?_; refine ar_goto (k := 73) rfl ?_; refine ar_sub (l2 := [(6, vi ((j + 1 : Nat) : Int)), (5, vi (m)), (4, vi (b)), (0, vr (some 69)), (1, vi p), (2, vi u), (3, vi g)]) (tw_s (tw_e 0 rfl (by omega)) (tw_s (tw_g 1 rfl) (tw_s (tw_g 2 rfl) (tw_s (tw_g 7 rfl) (tw_s (tw_g 8 rfl) (tw_s (tw_g 9 rfl) (tw_s (tw_g 10 rfl) tw_s0))))))) ?_; rw [show bstN s p u g (k + 1) j b m = bstN s p u g k (j + 1) b m by rw [bstN, if_neg (by omega)]]; exact ih (j + 1) _ _ I32 (by omega) hs32 hk32 (by omega) (by omega))
                  · refine ar_iconst (k := 56) rfl ?_
                    refine ar_goto (k := 57) rfl ?_
                    refine ar_istore (k := 59) (l2 := [(10, _), (9, _), (8, _), (7, _), (6, _), (5, _), (4, _), (0, _), (1, _), (2, _), (3, _)]) rfl (by decide) rfl ?_
                    refine ar_iload (k := 60) rfl rfl ?_
                    refine ar_if_eq (k := 61) rfl (by omega) (fun c61 => ?_) (fun c61 => ?_)
                    · refine ar_iload (k := 64) rfl rfl ?_
                      refine ar_istore (k := 65) (l2 := [(4, _), (10, _), (9, _), (8, _), (7, _), (6, _), (5, _), (0, _), (1, _), (2, _), (3, _)]) rfl (by decide) rfl ?_
                      refine ar_iload (k := 66) rfl rfl ?_
                      refine ar_if_eq (k := 67) rfl (by omega) (fun c67 => ?_) (fun c67 => ?_)
                      · refine ar_iload (k := 70) rfl rfl ?_
                        refine ar_istore (k := 71) (l2 := [(5, _), (4, _), (10, _), (9, _), (8, _), (7, _), (6, _), (0, _), (1, _), (2, _), (3, _)]) rfl (by decide) rfl ?_
                        first
                          | (exfalso; omega)
                          | (refine ar_iinc (k := 72) (l2 := [(6, _), (5, _), (4, _), (10, _), (9, _), (8, _), (7, _), (0, _), (1, _), (2, _), (3, _)]) rfl (by decide) rfl rfl ?_; refine ar_goto (k := 73) rfl ?_; refine ar_sub (l2 := [(6, vi ((j + 1 : Nat) : Int)), (5, vi (rWorth s j u)), (4, vi ((j : Int))), (0, vr (some 69)), (1, vi p), (2, vi u), (3, vi g)]) (tw_s (tw_e 0 rfl (by omega)) (tw_s (tw_g 1 rfl) (tw_s (tw_g 2 rfl) (tw_s (tw_g 7 rfl) (tw_s (tw_g 8 rfl) (tw_s (tw_g 9 rfl) (tw_s (tw_g 10 rfl) tw_s0))))))) ?_; rw [show bstN s p u g (k + 1) j b m = bstN s p u g k (j + 1) j (rWorth s j u) by rw [bstN, if_pos (by refine ⟨by omega, by omega, by omega⟩)]]; exact ih (j + 1) _ _ I32 (by omega) hs32 hk32 (by omega) (by omega))
                          | (refine ar_iinc (k := 72) (l2 := [(6, _), (5, _), (4, _), (10, _), (9, _), (8, _), (7, _), (0, _), (1, _), (2, _), (3, _)]) rfl (by decide) rfl rfl ?_; refine ar_goto (k := 73) rfl ?_; refine ar_sub (l2 := [(6, vi ((j + 1 : Nat) : Int)), (5, vi (m)), (4, vi (b)), (0, vr (some 69)), (1, vi p), (2, vi u), (3, vi g)]) (tw_s (tw_e 0 rfl (by omega)) (tw_s (tw_g 1 rfl) (tw_s (tw_g 2 rfl) (tw_s (tw_g 7 rfl) (tw_s (tw_g 8 rfl) (tw_s (tw_g 9 rfl) (tw_s (tw_g 10 rfl) tw_s0))))))) ?_; rw [show bstN s p u g (k + 1) j b m = bstN s p u g k (j + 1) b m by rw [bstN, if_neg (by omega)]]; exact ih (j + 1) _ _ I32 (by omega) hs32 hk32 (by omega) (by omega))
                      · refine ar_iload (k := 68) rfl rfl ?_
                        refine ar_goto (k := 69) rfl ?_
                        refine ar_istore (k := 71) (l2 := [(5, _), (4, _), (10, _), (9, _), (8, _), (7, _), (6, _), (0, _), (1, _), (2, _), (3, _)]) rfl (by decide) rfl ?_
                        first
                          | (exfalso; omega)
                          | (refine ar_iinc (k := 72) (l2 := [(6, _), (5, _), (4, _), (10, _), (9, _), (8, _), (7, _), (0, _), (1, _), (2, _), (3, _)]) rfl (by decide) rfl rfl ?_; refine ar_goto (k := 73) rfl ?_; refine ar_sub (l2 := [(6, vi ((j + 1 : Nat) : Int)), (5, vi (rWorth s j u)), (4, vi ((j : Int))), (0, vr (some 69)), (1, vi p), (2, vi u), (3, vi g)]) (tw_s (tw_e 0 rfl (by omega)) (tw_s (tw_g 1 rfl) (tw_s (tw_g 2 rfl) (tw_s (tw_g 7 rfl) (tw_s (tw_g 8 rfl) (tw_s (tw_g 9 rfl) (tw_s (tw_g 10 rfl) tw_s0))))))) ?_; rw [show bstN s p u g (k + 1) j b m = bstN s p u g k (j + 1) j (rWorth s j u) by rw [bstN, if_pos (by refine ⟨by omega, by omega, by omega⟩)]]; exact ih (j + 1) _ _ I32 (by omega) hs32 hk32 (by omega) (by omega))
                          | (refine ar_iinc (k := 72) (l2 := [(6, _), (5, _), (4, _), (10, _), (9, _), (8, _), (7, _), (0, _), (1, _), (2, _), (3, _)]) rfl (by decide) rfl rfl ?_; refine ar_goto (k := 73) rfl ?_; refine ar_sub (l2 := [(6, vi ((j + 1 : Nat) : Int)), (5, vi (m)), (4, vi (b)), (0, vr (some 69)), (1, vi p), (2, vi u), (3, vi g)]) (tw_s (tw_e 0 rfl (by omega)) (tw_s (tw_g 1 rfl) (tw_s (tw_g 2 rfl) (tw_s (tw_g 7 rfl) (tw_s (tw_g 8 rfl) (tw_s (tw_g 9 rfl) (tw_s (tw_g 10 rfl) tw_s0))))))) ?_; rw [show bstN s p u g (k + 1) j b m = bstN s p u g k (j + 1) b m by rw [bstN, if_neg (by omega)]]; exact ih (j + 1) _ _ I32 (by omega) hs32 hk32 (by omega) (by omega))
                    · refine ar_iload (k := 62) rfl rfl ?_
                      refine ar_goto (k := 63) rfl ?_
                      refine ar_istore (k := 65) (l2 := [(4, _), (10, _), (9, _), (8, _), (7, _), (6, _), (5, _), (0, _), (1, _), (2, _), (3, _)]) rfl (by decide) rfl ?_
                      refine ar_iload (k := 66) rfl rfl ?_
                      refine ar_if_eq (k := 67) rfl (by omega) (fun c67 => ?_) (fun c67 => ?_)
                      · refine ar_iload (k := 70) rfl rfl ?_
                        refine ar_istore (k := 71) (l2 := [(5, _), (4, _), (10, _), (9, _), (8, _), (7, _), (6, _), (0, _), (1, _), (2, _), (3, _)]) rfl (by decide) rfl ?_
                        first
                          | (exfalso; omega)
                          | (refine ar_iinc (k := 72) (l2 := [(6, _), (5, _), (4, _), (10, _), (9, _), (8, _), (7, _), (0, _), (1, _), (2, _), (3, _)]) rfl (by decide) rfl rfl ?_; refine ar_goto (k := 73) rfl ?_; refine ar_sub (l2 := [(6, vi ((j + 1 : Nat) : Int)), (5, vi (rWorth s j u)), (4, vi ((j : Int))), (0, vr (some 69)), (1, vi p), (2, vi u), (3, vi g)]) (tw_s (tw_e 0 rfl (by omega)) (tw_s (tw_g 1 rfl) (tw_s (tw_g 2 rfl) (tw_s (tw_g 7 rfl) (tw_s (tw_g 8 rfl) (tw_s (tw_g 9 rfl) (tw_s (tw_g 10 rfl) tw_s0))))))) ?_; rw [show bstN s p u g (k + 1) j b m = bstN s p u g k (j + 1) j (rWorth s j u) by rw [bstN, if_pos (by refine ⟨by omega, by omega, by omega⟩)]]; exact ih (j + 1) _ _ I32 (by omega) hs32 hk32 (by omega) (by omega))
                          | (refine ar_iinc (k := 72) (l2 := [(6, _), (5, _), (4, _), (10, _), (9, _), (8, _), (7, _), (0, _), (1, _), (2, _), (3, _)]) rfl (by decide) rfl rfl ?_; refine ar_goto (k := 73) rfl ?_; refine ar_sub (l2 := [(6, vi ((j + 1 : Nat) : Int)), (5, vi (m)), (4, vi (b)), (0, vr (some 69)), (1, vi p), (2, vi u), (3, vi g)]) (tw_s (tw_e 0 rfl (by omega)) (tw_s (tw_g 1 rfl) (tw_s (tw_g 2 rfl) (tw_s (tw_g 7 rfl) (tw_s (tw_g 8 rfl) (tw_s (tw_g 9 rfl) (tw_s (tw_g 10 rfl) tw_s0))))))) ?_; rw [show bstN s p u g (k + 1) j b m = bstN s p u g k (j + 1) b m by rw [bstN, if_neg (by omega)]]; exact ih (j + 1) _ _ I32 (by omega) hs32 hk32 (by omega) (by omega))
                      · refine ar_iload (k := 68) rfl rfl ?_
                        refine ar_goto (k := 69) rfl ?_
                        refine ar_istore (k := 71) (l2 := [(5, _), (4, _), (10, _), (9, _), (8, _), (7, _), (6, _), (0, _), (1, _), (2, _), (3, _)]) rfl (by decide) rfl ?_
                        first
                          | (exfalso; omega)
                          | (refine ar_iinc (k := 72) (l2 := [(6, _), (5, _), (4, _), (10, _), (9, _), (8, _), (7, _), (0, _), (1, _), (2, _), (3, _)]) rfl (by decide) rfl rfl ?_; refine ar_goto (k := 73) rfl ?_; refine ar_sub (l2 := [(6, vi ((j + 1 : Nat) : Int)), (5, vi (rWorth s j u)), (4, vi ((j : Int))), (0, vr (some 69)), (1, vi p), (2, vi u), (3, vi g)]) (tw_s (tw_e 0 rfl (by omega)) (tw_s (tw_g 1 rfl) (tw_s (tw_g 2 rfl) (tw_s (tw_g 7 rfl) (tw_s (tw_g 8 rfl) (tw_s (tw_g 9 rfl) (tw_s (tw_g 10 rfl) tw_s0))))))) ?_; rw [show bstN s p u g (k + 1) j b m = bstN s p u g k (j + 1) j (rWorth s j u) by rw [bstN, if_pos (by refine ⟨by omega, by omega, by omega⟩)]]; exact ih (j + 1) _ _ I32 (by omega) hs32 hk32 (by omega) (by omega))
                          | (refine ar_iinc (k := 72) (l2 := [(6, _), (5, _), (4, _), (10, _), (9, _), (8, _), (7, _), (0, _), (1, _), (2, _), (3, _)]) rfl (by decide) rfl rfl ?_; refine ar_goto (k := 73) rfl ?_; refine ar_sub (l2 := [(6, vi ((j + 1 : Nat) : Int)), (5, vi (m)), (4, vi (b)), (0, vr (some 69)), (1, vi p), (2, vi u), (3, vi g)]) (tw_s (tw_e 0 rfl (by omega)) (tw_s (tw_g 1 rfl) (tw_s (tw_g 2 rfl) (tw_s (tw_g 7 rfl) (tw_s (tw_g 8 rfl) (tw_s (tw_g 9 rfl) (tw_s (tw_g 10 rfl) tw_s0))))))) ?_; rw [show bstN s p u g (k + 1) j b m = bstN s p u g k (j + 1) b m by rw [bstN, if_neg (by omega)]]; exact ih (j + 1) _ _ I32 (by omega) hs32 hk32 (by omega) (by omega))
theorem c_R_atBest {p u g : Int} (hS : tSt (K, I, Q, n)) (hs : I 70 = s) (hR : RInv s) (hV : RVal s) (p1 : 0 ≤ p ∧ p < 8) (u1 : 0 ≤ u ∧ u ≤ 23) (g1 : g = 0 ∨ g = 1) : tw_R l G 3 mR_atBest [vr (some 69), vi p, vi u, vi g] K I Q n (some (vi (rBest s p u g))) := by
  obtain ⟨h0, h1, h2, h3, h4, h5, h6, hp, hrw, ht, hr, hb, htp, hv⟩ := id hR
  refine tw_intro okR_atBest (Nat.le_of_ble_eq_true rfl) ?_
  refine ar_iconst (k := 0) rfl ?_
  refine ar_istore (k := 1) (l2 := [(4, _), (0, _), (1, _), (2, _), (3, _)]) rfl (by decide) rfl ?_
  refine ar_iconst (k := 2) rfl ?_
  refine ar_istore (k := 3) (l2 := [(5, _), (4, _), (0, _), (1, _), (2, _), (3, _)]) rfl (by decide) rfl ?_
  refine ar_iconst (k := 4) rfl ?_
  refine ar_istore (k := 5) (l2 := [(6, _), (5, _), (4, _), (0, _), (1, _), (2, _), (3, _)]) rfl (by decide) rfl ?_
  refine ar_sub (l2 := [(6, vi ((0 : Nat) : Int)), (5, vi 0), (4, vi (-1)), (0, vr (some 69)), (1, vi p), (2, vi u), (3, vi g)]) (tw_s (tw_e 0 rfl (by rfl)) (tw_s (tw_g 1 rfl) (tw_s (tw_g 2 rfl) (tw_s (tw_g 3 rfl) (tw_s (tw_g 4 rfl) (tw_s (tw_g 5 rfl) (tw_s (tw_g 6 rfl) tw_s0))))))) ?_
  exact l_R_atBest (I := I) hS hR hV p1 u1 g1 _ 0 (-1) 0 I (by omega) hs rk.rf (Or.inl rfl) (by decide)
set_option maxHeartbeats 4000000 in
theorem c_R_atOf {p u : Int} (hS : tSt (K, I, Q, n)) (hs : I 70 = s) (hR : RInv s) (hV : RVal s) (p1 : 0 ≤ p ∧ p < s 0) (u1 : 0 ≤ u ∧ u ≤ 23) : tw_R l G 4 mR_atOf [vr (some 69), vi p, vi u] K I Q n (some (vi (rAt s p u))) := by
  obtain ⟨h0, h1, h2, h3, h4, h5, h6, hp, hrw, ht, hr, hb, htp, hv⟩ := id hR
  have hk : rk I I := rk.rf
  have hw := hp p (by omega) (by omega)
  have hbl := rBell_bd hR
  have hm1 := Int.emod_nonneg u (show rBell s ≠ 0 by omega)
  have hm2 := Int.emod_lt_of_pos u (show 0 < rBell s by omega)
  have a1 := rLeast_bd (p := p) h1.1
  have a2 := rHome_bd (p := p) h1.1
  have a3 := rBest_bd (p := p) (u := u) (g := 0) h1.1
  have a4 := rBest_bd (p := p) (u := u) (g := 1) h1.1
  refine tw_intro okR_atOf (Nat.le_of_ble_eq_true rfl) ?_
  refine ar_aloadn (k := 0) rfl rfl ?_
  refine br_getR (k := 1) rfl (hS.k (by decide)) flR_9_12 (by decide) rfl (hS.r rfl) ?_
  refine ar_bipush (k := 2) rfl (by decide) ?_
  refine ar_iloadn (k := 3) rfl rfl ?_
  refine ar_iadd (k := 4) rfl ?_
  refine br_iads (k := 5) rfl (hS.k (by decide)) (by omega) (by omega) (by decide) hs ?_
  refine ar_istoren (k := 6) (l2 := [(3, _), (0, _), (1, _), (2, _)]) rfl (by decide) rfl ?_
  refine ar_aloadn (k := 7) rfl rfl ?_
  refine ar_iloadn (k := 8) rfl rfl ?_
  refine ar_iloadn (k := 9) rfl rfl ?_
  refine br_callV (k := 10) (as := [_, _]) rfl lvR_141 (hS.k (by decide)) rfl (c_R_isFree hS hs hR (by omega)) rfl (by decide) (by decide) tw_m0 (Nat.le_of_ble_eq_true rfl) ?_
  refine ar_istore (k := 11) (l2 := [(4, _), (3, _), (0, _), (1, _), (2, _)]) rfl (by decide) rfl ?_
  refine ar_aloadn (k := 12) rfl rfl ?_
  refine br_getR (k := 13) rfl (hS.k (by decide)) flR_9_12 (by decide) rfl (hS.r rfl) ?_
  refine ar_bipush (k := 14) rfl (by decide) ?_
  refine ar_iloadn (k := 15) rfl rfl ?_
  refine ar_iadd (k := 16) rfl ?_
  refine br_iads (k := 17) rfl (hS.k (by decide)) (by omega) (by omega) (by decide) hs ?_
  rcases (show s (10 + p) = 1 ∨ s (10 + p) = 2 ∨ s (10 + p) = 3 ∨ s (10 + p) = 4 ∨ s (10 + p) = 5 ∨ s (10 + p) = 6 ∨ (s (10 + p) < 1 ∨ 6 < s (10 + p)) by omega) with q18 | q18 | q18 | q18 | q18 | q18 | q18
  · refine ar_tswIn (k := 18) (t := 64) rfl (by omega) (by omega) (by omega) (by rw [q18]; rfl) (by decide) ?_
    refine ar_iload (k := 19) rfl rfl ?_
    refine ar_if_eq (k := 20) rfl (by omega) (fun c20 => ?_) (fun c20 => ?_)
    · refine ar_iconst (k := 32) rfl ?_
      refine ar_iret (k := 33) rfl rfl rfl (Nat.le_refl _) ?_
      refine ⟨congrArg (fun z => some (vi z)) ?_, I, rfl, hk⟩
      rw [rAt]
      simp only [q18, reduceIte, Int.reduceEq]
      (repeat' split) <;> omega
    · refine ar_iloadn (k := 21) rfl rfl ?_
      refine ar_aloadn (k := 22) rfl rfl ?_
      refine br_callV (k := 23) (as := []) rfl lvR_147 (hS.k (by decide)) rfl (c_R_bell hS hs hR) rfl (by decide) (by decide) tw_m0 (Nat.le_of_ble_eq_true rfl) ?_
      refine ar_irem (k := 24) rfl (by omega) (by omega) (by omega) ?_
      refine tw_top (y := u % rBell s) (by exact Int.tmod_eq_emod_of_nonneg (by omega)) ?_
      refine ar_if_ne (k := 25) rfl (by omega) (fun c25 => ?_) (fun c25 => ?_)
      · refine ar_iconst (k := 32) rfl ?_
        refine ar_iret (k := 33) rfl rfl rfl (Nat.le_refl _) ?_
        refine ⟨congrArg (fun z => some (vi z)) ?_, I, rfl, hk⟩
        rw [rAt]
        simp only [q18, reduceIte, Int.reduceEq]
        (repeat' split) <;> omega
      · refine ar_aloadn (k := 26) rfl rfl ?_
        refine ar_iloadn (k := 27) rfl rfl ?_
        refine ar_iloadn (k := 28) rfl rfl ?_
        refine ar_iconst (k := 29) rfl ?_
        refine br_callVR (k := 30) (as := [_, _, _]) rfl lvR_150 (hS.k (by decide)) rfl (c_R_atBest hS hs hR hV (by omega) (by omega) (by omega)) rfl (by decide) (by decide) tw_m0 (Nat.le_of_ble_eq_true rfl) (fun I30 q30 => ?_)
        have hs30 : I30 70 = s := q30.s.trans hs
        have hk30 := rk.trans hk q30
        refine ar_goto (k := 31) rfl ?_
        refine ar_iret (k := 33) rfl rfl rfl (Nat.le_refl _) ?_
        refine ⟨congrArg (fun z => some (vi z)) ?_, I30, rfl, hk30⟩
        rw [rAt]
        simp only [q18, reduceIte, Int.reduceEq]
        (repeat' split) <;> omega
  · refine ar_tswIn (k := 18) (t := 90) rfl (by omega) (by omega) (by omega) (by rw [q18]; rfl) (by decide) ?_
    refine ar_iload (k := 34) rfl rfl ?_
    refine ar_if_eq (k := 35) rfl (by omega) (fun c35 => ?_) (fun c35 => ?_)
    · refine ar_iconst (k := 40) rfl ?_
      refine ar_iret (k := 41) rfl rfl rfl (Nat.le_refl _) ?_
      refine ⟨congrArg (fun z => some (vi z)) ?_, I, rfl, hk⟩
      rw [rAt]
      simp only [q18, reduceIte, Int.reduceEq]
      (repeat' split) <;> omega
    · refine ar_aloadn (k := 36) rfl rfl ?_
      refine ar_iloadn (k := 37) rfl rfl ?_
      refine br_callV (k := 38) (as := [_]) rfl lvR_154 (hS.k (by decide)) rfl (c_R_atHome hS hs hR (by omega)) rfl (by decide) (by decide) tw_m0 (Nat.le_of_ble_eq_true rfl) ?_
      refine ar_goto (k := 39) rfl ?_
      refine ar_iret (k := 41) rfl rfl rfl (Nat.le_refl _) ?_
      refine ⟨congrArg (fun z => some (vi z)) ?_, I, rfl, hk⟩
      rw [rAt]
      simp only [q18, reduceIte, Int.reduceEq]
      (repeat' split) <;> omega
  · refine ar_tswIn (k := 18) (t := 105) rfl (by omega) (by omega) (by omega) (by rw [q18]; rfl) (by decide) ?_
    refine ar_iload (k := 42) rfl rfl ?_
    refine ar_if_eq (k := 43) rfl (by omega) (fun c43 => ?_) (fun c43 => ?_)
    · refine ar_iconst (k := 50) rfl ?_
      refine ar_iret (k := 51) rfl rfl rfl (Nat.le_refl _) ?_
      refine ⟨congrArg (fun z => some (vi z)) ?_, I, rfl, hk⟩
      rw [rAt]
      simp only [q18, reduceIte, Int.reduceEq]
      (repeat' split) <;> omega
    · refine ar_aloadn (k := 44) rfl rfl ?_
      refine ar_iloadn (k := 45) rfl rfl ?_
      refine ar_iloadn (k := 46) rfl rfl ?_
      refine ar_iconst (k := 47) rfl ?_
      refine br_callVR (k := 48) (as := [_, _, _]) rfl lvR_150 (hS.k (by decide)) rfl (c_R_atBest hS hs hR hV (by omega) (by omega) (by omega)) rfl (by decide) (by decide) tw_m0 (Nat.le_of_ble_eq_true rfl) (fun I48 q48 => ?_)
      have hs48 : I48 70 = s := q48.s.trans hs
      have hk48 := rk.trans hk q48
      refine ar_goto (k := 49) rfl ?_
      refine ar_iret (k := 51) rfl rfl rfl (Nat.le_refl _) ?_
      refine ⟨congrArg (fun z => some (vi z)) ?_, I48, rfl, hk48⟩
      rw [rAt]
      simp only [q18, reduceIte, Int.reduceEq]
      (repeat' split) <;> omega
  · refine ar_tswIn (k := 18) (t := 122) rfl (by omega) (by omega) (by omega) (by rw [q18]; rfl) (by decide) ?_
    refine ar_iload (k := 52) rfl rfl ?_
    refine ar_if_eq (k := 53) rfl (by omega) (fun c53 => ?_) (fun c53 => ?_)
    · refine ar_iconst (k := 65) rfl ?_
      refine ar_istore (k := 66) (l2 := [(5, _), (4, _), (3, _), (0, _), (1, _), (2, _)]) rfl (by decide) rfl ?_
      refine ar_iload (k := 67) rfl rfl ?_
      refine ar_iconst (k := 68) rfl ?_
      refine ar_icmp_ne (k := 69) rfl (by omega) (by omega) (fun c69 => ?_) (fun c69 => ?_)
      · refine ar_iload (k := 81) rfl rfl ?_
        refine ar_iret (k := 82) rfl rfl rfl (Nat.le_refl _) ?_
        refine ⟨congrArg (fun z => some (vi z)) ?_, I, rfl, hk⟩
        rw [rAt]
        simp only [q18, reduceIte, Int.reduceEq]
        (repeat' split) <;> omega
      · refine ar_aloadn (k := 70) rfl rfl ?_
        refine ar_iloadn (k := 71) rfl rfl ?_
        refine br_callV (k := 72) (as := [_]) rfl lvR_120 (hS.k (by decide)) rfl (c_S_isTool hS hs (by omega) h1) rfl (by decide) (by decide) tw_m0 (Nat.le_of_ble_eq_true rfl) ?_
        refine ar_if_eq (k := 73) rfl (by omega) (fun c73 => ?_) (fun c73 => ?_)
        · refine ar_iload (k := 81) rfl rfl ?_
          refine ar_iret (k := 82) rfl rfl rfl (Nat.le_refl _) ?_
          refine ⟨congrArg (fun z => some (vi z)) ?_, I, rfl, hk⟩
          rw [rAt]
          simp only [q18, reduceIte, Int.reduceEq]
          (repeat' split) <;> omega
        · refine ar_aloadn (k := 74) rfl rfl ?_
          refine ar_iloadn (k := 75) rfl rfl ?_
          refine ar_iloadn (k := 76) rfl rfl ?_
          refine br_callV (k := 77) (as := [_, _]) rfl lvR_137 (hS.k (by decide)) rfl (c_R_isFit hS hs hR (by omega) (by omega)) rfl (by decide) (by decide) tw_m0 (Nat.le_of_ble_eq_true rfl) ?_
          refine ar_if_eq (k := 78) rfl (by omega) (fun c78 => ?_) (fun c78 => ?_)
          · refine ar_iload (k := 81) rfl rfl ?_
            refine ar_iret (k := 82) rfl rfl rfl (Nat.le_refl _) ?_
            refine ⟨congrArg (fun z => some (vi z)) ?_, I, rfl, hk⟩
            rw [rAt]
            simp only [q18, reduceIte, Int.reduceEq]
            (repeat' split) <;> omega
          · refine ar_iloadn (k := 79) rfl rfl ?_
            refine ar_goto (k := 80) rfl ?_
            refine ar_iret (k := 82) rfl rfl rfl (Nat.le_refl _) ?_
            refine ⟨congrArg (fun z => some (vi z)) ?_, I, rfl, hk⟩
            rw [rAt]
            simp only [q18, reduceIte, Int.reduceEq]
            (repeat' split) <;> omega
    · refine ar_iloadn (k := 54) rfl rfl ?_
      refine ar_aloadn (k := 55) rfl rfl ?_
      refine br_callV (k := 56) (as := []) rfl lvR_147 (hS.k (by decide)) rfl (c_R_bell hS hs hR) rfl (by decide) (by decide) tw_m0 (Nat.le_of_ble_eq_true rfl) ?_
      refine ar_irem (k := 57) rfl (by omega) (by omega) (by omega) ?_
      refine tw_top (y := u % rBell s) (by exact Int.tmod_eq_emod_of_nonneg (by omega)) ?_
      refine ar_if_ne (k := 58) rfl (by omega) (fun c58 => ?_) (fun c58 => ?_)
      · refine ar_iconst (k := 65) rfl ?_
        refine ar_istore (k := 66) (l2 := [(5, _), (4, _), (3, _), (0, _), (1, _), (2, _)]) rfl (by decide) rfl ?_
        refine ar_iload (k := 67) rfl rfl ?_
        refine ar_iconst (k := 68) rfl ?_
        refine ar_icmp_ne (k := 69) rfl (by omega) (by omega) (fun c69 => ?_) (fun c69 => ?_)
        · refine ar_iload (k := 81) rfl rfl ?_
          refine ar_iret (k := 82) rfl rfl rfl (Nat.le_refl _) ?_
          refine ⟨congrArg (fun z => some (vi z)) ?_, I, rfl, hk⟩
          rw [rAt]
          simp only [q18, reduceIte, Int.reduceEq]
          (repeat' split) <;> omega
        · refine ar_aloadn (k := 70) rfl rfl ?_
          refine ar_iloadn (k := 71) rfl rfl ?_
          refine br_callV (k := 72) (as := [_]) rfl lvR_120 (hS.k (by decide)) rfl (c_S_isTool hS hs (by omega) h1) rfl (by decide) (by decide) tw_m0 (Nat.le_of_ble_eq_true rfl) ?_
          refine ar_if_eq (k := 73) rfl (by omega) (fun c73 => ?_) (fun c73 => ?_)
          · refine ar_iload (k := 81) rfl rfl ?_
            refine ar_iret (k := 82) rfl rfl rfl (Nat.le_refl _) ?_
            refine ⟨congrArg (fun z => some (vi z)) ?_, I, rfl, hk⟩
            rw [rAt]
            simp only [q18, reduceIte, Int.reduceEq]
            (repeat' split) <;> omega
          · refine ar_aloadn (k := 74) rfl rfl ?_
            refine ar_iloadn (k := 75) rfl rfl ?_
            refine ar_iloadn (k := 76) rfl rfl ?_
            refine br_callV (k := 77) (as := [_, _]) rfl lvR_137 (hS.k (by decide)) rfl (c_R_isFit hS hs hR (by omega) (by omega)) rfl (by decide) (by decide) tw_m0 (Nat.le_of_ble_eq_true rfl) ?_
            refine ar_if_eq (k := 78) rfl (by omega) (fun c78 => ?_) (fun c78 => ?_)
            · refine ar_iload (k := 81) rfl rfl ?_
              refine ar_iret (k := 82) rfl rfl rfl (Nat.le_refl _) ?_
              refine ⟨congrArg (fun z => some (vi z)) ?_, I, rfl, hk⟩
              rw [rAt]
              simp only [q18, reduceIte, Int.reduceEq]
              (repeat' split) <;> omega
            · refine ar_iloadn (k := 79) rfl rfl ?_
              refine ar_goto (k := 80) rfl ?_
              refine ar_iret (k := 82) rfl rfl rfl (Nat.le_refl _) ?_
              refine ⟨congrArg (fun z => some (vi z)) ?_, I, rfl, hk⟩
              rw [rAt]
              simp only [q18, reduceIte, Int.reduceEq]
              (repeat' split) <;> omega
      · refine ar_aloadn (k := 59) rfl rfl ?_
        refine ar_iloadn (k := 60) rfl rfl ?_
        refine ar_iloadn (k := 61) rfl rfl ?_
        refine ar_iconst (k := 62) rfl ?_
        refine br_callVR (k := 63) (as := [_, _, _]) rfl lvR_150 (hS.k (by decide)) rfl (c_R_atBest hS hs hR hV (by omega) (by omega) (by omega)) rfl (by decide) (by decide) tw_m0 (Nat.le_of_ble_eq_true rfl) (fun I63 q63 => ?_)
        have hs63 : I63 70 = s := q63.s.trans hs
        have hk63 := rk.trans hk q63
        refine ar_goto (k := 64) rfl ?_
        refine ar_istore (k := 66) (l2 := [(5, _), (4, _), (3, _), (0, _), (1, _), (2, _)]) rfl (by decide) rfl ?_
        refine ar_iload (k := 67) rfl rfl ?_
        refine ar_iconst (k := 68) rfl ?_
        refine ar_icmp_ne (k := 69) rfl (by omega) (by omega) (fun c69 => ?_) (fun c69 => ?_)
        · refine ar_iload (k := 81) rfl rfl ?_
          refine ar_iret (k := 82) rfl rfl rfl (Nat.le_refl _) ?_
          refine ⟨congrArg (fun z => some (vi z)) ?_, I63, rfl, hk63⟩
          rw [rAt]
          simp only [q18, reduceIte, Int.reduceEq]
          (repeat' split) <;> omega
        · refine ar_aloadn (k := 70) rfl rfl ?_
          refine ar_iloadn (k := 71) rfl rfl ?_
          refine br_callV (k := 72) (as := [_]) rfl lvR_120 (hS.k (by decide)) rfl (c_S_isTool hS hs63 (by omega) h1) rfl (by decide) (by decide) tw_m0 (Nat.le_of_ble_eq_true rfl) ?_
          refine ar_if_eq (k := 73) rfl (by omega) (fun c73 => ?_) (fun c73 => ?_)
          · refine ar_iload (k := 81) rfl rfl ?_
            refine ar_iret (k := 82) rfl rfl rfl (Nat.le_refl _) ?_
            refine ⟨congrArg (fun z => some (vi z)) ?_, I63, rfl, hk63⟩
            rw [rAt]
            simp only [q18, reduceIte, Int.reduceEq]
            (repeat' split) <;> omega
          · refine ar_aloadn (k := 74) rfl rfl ?_
            refine ar_iloadn (k := 75) rfl rfl ?_
            refine ar_iloadn (k := 76) rfl rfl ?_
            refine br_callV (k := 77) (as := [_, _]) rfl lvR_137 (hS.k (by decide)) rfl (c_R_isFit hS hs63 hR (by omega) (by omega)) rfl (by decide) (by decide) tw_m0 (Nat.le_of_ble_eq_true rfl) ?_
            refine ar_if_eq (k := 78) rfl (by omega) (fun c78 => ?_) (fun c78 => ?_)
            · refine ar_iload (k := 81) rfl rfl ?_
              refine ar_iret (k := 82) rfl rfl rfl (Nat.le_refl _) ?_
              refine ⟨congrArg (fun z => some (vi z)) ?_, I63, rfl, hk63⟩
              rw [rAt]
              simp only [q18, reduceIte, Int.reduceEq]
              (repeat' split) <;> omega
            · refine ar_iloadn (k := 79) rfl rfl ?_
              refine ar_goto (k := 80) rfl ?_
              refine ar_iret (k := 82) rfl rfl rfl (Nat.le_refl _) ?_
              refine ⟨congrArg (fun z => some (vi z)) ?_, I63, rfl, hk63⟩
              rw [rAt]
              simp only [q18, reduceIte, Int.reduceEq]
              (repeat' split) <;> omega
  · refine ar_tswIn (k := 18) (t := 179) rfl (by omega) (by omega) (by omega) (by rw [q18]; rfl) (by decide) ?_
    refine ar_aloadn (k := 83) rfl rfl ?_
    refine ar_iloadn (k := 84) rfl rfl ?_
    refine ar_iloadn (k := 85) rfl rfl ?_
    refine ar_iloadn (k := 86) rfl rfl ?_
    refine ar_isub (k := 87) rfl ?_
    refine ar_bipush (k := 88) rfl (by decide) ?_
    refine ar_iadd (k := 89) rfl ?_
    refine ar_bipush (k := 90) rfl (by decide) ?_
    refine ar_irem (k := 91) rfl (by omega) (by omega) (by omega) ?_
    refine tw_top (y := (u - s (18 + p) + 24) % 24) (by exact Int.tmod_eq_emod_of_nonneg (by omega)) ?_
    refine br_callV (k := 92) (as := [_, _]) rfl lvR_141 (hS.k (by decide)) rfl (c_R_isFree (u := (u - s (18 + p) + 24) % 24) hS hs hR (by omega)) rfl (by decide) (by decide) tw_m0 (Nat.le_of_ble_eq_true rfl) ?_
    refine ar_if_eq (k := 93) rfl (by omega) (fun c93 => ?_) (fun c93 => ?_)
    · refine ar_iconst (k := 98) rfl ?_
      refine ar_iret (k := 99) rfl rfl rfl (Nat.le_refl _) ?_
      refine ⟨congrArg (fun z => some (vi z)) ?_, I, rfl, hk⟩
      rw [rAt]
      simp only [q18, reduceIte, Int.reduceEq]
      (repeat' split) <;> omega
    · refine ar_aloadn (k := 94) rfl rfl ?_
      refine ar_iloadn (k := 95) rfl rfl ?_
      refine br_callV (k := 96) (as := [_]) rfl lvR_154 (hS.k (by decide)) rfl (c_R_atHome hS hs hR (by omega)) rfl (by decide) (by decide) tw_m0 (Nat.le_of_ble_eq_true rfl) ?_
      refine ar_goto (k := 97) rfl ?_
      refine ar_iret (k := 99) rfl rfl rfl (Nat.le_refl _) ?_
      refine ⟨congrArg (fun z => some (vi z)) ?_, I, rfl, hk⟩
      rw [rAt]
      simp only [q18, reduceIte, Int.reduceEq]
      (repeat' split) <;> omega
  · refine ar_tswIn (k := 18) (t := 206) rfl (by omega) (by omega) (by omega) (by rw [q18]; rfl) (by decide) ?_
    refine ar_aloadn (k := 100) rfl rfl ?_
    refine br_getR (k := 101) rfl (hS.k (by decide)) flR_9_12 (by decide) rfl (hS.r rfl) ?_
    refine ar_bipush (k := 102) rfl (by decide) ?_
    refine ar_iconst (k := 103) rfl ?_
    refine ar_iloadn (k := 104) rfl rfl ?_
    refine ar_imul (k := 105) rfl ?_
    refine ar_iadd (k := 106) rfl ?_
    refine ar_iloadn (k := 107) rfl rfl ?_
    refine ar_iconst (k := 108) rfl ?_
    refine ar_irem (k := 109) rfl (by omega) (by omega) (by omega) ?_
    refine tw_top (y := u % 4) (by exact Int.tmod_eq_emod_of_nonneg (by omega)) ?_
    refine ar_iadd (k := 110) rfl ?_
    refine br_iads (k := 111) rfl (hS.k (by decide)) (by omega) (by omega) (by decide) hs ?_
    have hx := hrw (4 * p + u % 4) (by omega) (by omega)
    rw [← Int.add_assoc] at hx
    refine ar_istore (k := 112) (l2 := [(5, _), (4, _), (3, _), (0, _), (1, _), (2, _)]) rfl (by decide) rfl ?_
    refine ar_iload (k := 113) rfl rfl ?_
    refine ar_if_ne (k := 114) rfl (by omega) (fun c114 => ?_) (fun c114 => ?_)
    · refine ar_aloadn (k := 117) rfl rfl ?_
      refine ar_iload (k := 118) rfl rfl ?_
      refine br_callV (k := 119) (as := [_]) rfl lvR_120 (hS.k (by decide)) rfl (c_S_isTool hS hs (by omega) h1) rfl (by decide) (by decide) tw_m0 (Nat.le_of_ble_eq_true rfl) ?_
      refine ar_if_eq (k := 120) rfl (by omega) (fun c120 => ?_) (fun c120 => ?_)
      · refine ar_aloadn (k := 131) rfl rfl ?_
        refine ar_iloadn (k := 132) rfl rfl ?_
        refine ar_iloadn (k := 133) rfl rfl ?_
        refine ar_iconst (k := 134) rfl ?_
        refine br_callVR (k := 135) (as := [_, _, _]) rfl lvR_150 (hS.k (by decide)) rfl (c_R_atBest hS hs hR hV (by omega) (by omega) (by omega)) rfl (by decide) (by decide) tw_m0 (Nat.le_of_ble_eq_true rfl) (fun I135 q135 => ?_)
        have hs135 : I135 70 = s := q135.s.trans hs
        have hk135 := rk.trans hk q135
        refine ar_iret (k := 136) rfl rfl rfl (Nat.le_refl _) ?_
        refine ⟨congrArg (fun z => some (vi z)) ?_, I135, rfl, hk135⟩
        rw [rAt]
        simp only [q18, reduceIte, Int.reduceEq]
        (repeat' split) <;> omega
      · have hy := ht (s (42 + 4 * p + u % 4)) (by omega) (by omega)
        refine ar_aloadn (k := 121) rfl rfl ?_
        refine br_getR (k := 122) rfl (hS.k (by decide)) flR_9_12 (by decide) rfl (hS.r rfl) ?_
        refine ar_bipush (k := 123) rfl (by decide) ?_
        refine ar_iload (k := 124) rfl rfl ?_
        refine ar_iadd (k := 125) rfl ?_
        refine br_iads (k := 126) rfl (hS.k (by decide)) (by omega) (by omega) (by decide) hs ?_
        refine ar_iloadn (k := 127) rfl rfl ?_
        refine ar_icmp_ne (k := 128) rfl (by omega) (by omega) (fun c128 => ?_) (fun c128 => ?_)
        · refine ar_aloadn (k := 131) rfl rfl ?_
          refine ar_iloadn (k := 132) rfl rfl ?_
          refine ar_iloadn (k := 133) rfl rfl ?_
          refine ar_iconst (k := 134) rfl ?_
          refine br_callVR (k := 135) (as := [_, _, _]) rfl lvR_150 (hS.k (by decide)) rfl (c_R_atBest hS hs hR hV (by omega) (by omega) (by omega)) rfl (by decide) (by decide) tw_m0 (Nat.le_of_ble_eq_true rfl) (fun I135 q135 => ?_)
          have hs135 : I135 70 = s := q135.s.trans hs
          have hk135 := rk.trans hk q135
          refine ar_iret (k := 136) rfl rfl rfl (Nat.le_refl _) ?_
          refine ⟨congrArg (fun z => some (vi z)) ?_, I135, rfl, hk135⟩
          rw [rAt]
          simp only [q18, reduceIte, Int.reduceEq]
          (repeat' split) <;> omega
        · refine ar_iload (k := 129) rfl rfl ?_
          refine ar_goto (k := 130) rfl ?_
          refine ar_iret (k := 136) rfl rfl rfl (Nat.le_refl _) ?_
          refine ⟨congrArg (fun z => some (vi z)) ?_, I, rfl, hk⟩
          rw [rAt]
          simp only [q18, reduceIte, Int.reduceEq]
          (repeat' split) <;> omega
    · refine ar_iconst (k := 115) rfl ?_
      refine ar_goto (k := 116) rfl ?_
      refine ar_iret (k := 136) rfl rfl rfl (Nat.le_refl _) ?_
      refine ⟨congrArg (fun z => some (vi z)) ?_, I, rfl, hk⟩
      rw [rAt]
      simp only [q18, reduceIte, Int.reduceEq]
      (repeat' split) <;> omega
  · refine ar_tswOut (k := 18) (t := 268) rfl (by omega) (by omega) (by decide) ?_
    have q18 : s (10 + p) = 0 := by omega
    refine ar_iload (k := 137) rfl rfl ?_
    refine ar_if_eq (k := 138) rfl (by omega) (fun c138 => ?_) (fun c138 => ?_)
    · refine ar_iconst (k := 143) rfl ?_
      refine ar_iret (k := 144) rfl rfl rfl (Nat.le_refl _) ?_
      refine ⟨congrArg (fun z => some (vi z)) ?_, I, rfl, hk⟩
      rw [rAt]
      simp only [q18, reduceIte, Int.reduceEq]
      (repeat' split) <;> omega
    · refine ar_aloadn (k := 139) rfl rfl ?_
      refine ar_iloadn (k := 140) rfl rfl ?_
      refine br_callV (k := 141) (as := [_]) rfl lvR_144 (hS.k (by decide)) rfl (c_R_atLeast hS hs hR (by omega)) rfl (by decide) (by decide) tw_m0 (Nat.le_of_ble_eq_true rfl) ?_
      refine ar_goto (k := 142) rfl ?_
      refine ar_iret (k := 144) rfl rfl rfl (Nat.le_refl _) ?_
      refine ⟨congrArg (fun z => some (vi z)) ?_, I, rfl, hk⟩
      rw [rAt]
      simp only [q18, reduceIte, Int.reduceEq]
      (repeat' split) <;> omega
theorem c_R_at {p u : Int} (hS : tSt (K, I, Q, n)) (hs : I 70 = s) (hR : RInv s) (hV : RVal s) (tp : tr p) (tu : tr u) : tw_R l G 5 mR_at [vr (some 69), vi p, vi u] K I Q n (some (vi (if (0 ≤ p ∧ p ≤ s 0 - 1) ∧ (0 ≤ u ∧ u ≤ 23) then (if rAt s p u = -1 then -5 else rAt s p u) else -1))) := by
  obtain ⟨h0, h1, h2, h3, h4, h5, h6, hp, hrw, ht, hr, hb, htp, hv⟩ := id hR
  have hk : rk I I := rk.rf
  have hb2 := rAt_bd (p := p) (u := u) h1.1
  refine tw_intro okR_at (Nat.le_of_ble_eq_true rfl) ?_
  refine ar_aloadn (k := 0) rfl rfl ?_
  refine ar_iloadn (k := 1) rfl rfl ?_
  refine br_callV (k := 2) (as := [_]) rfl lvR_115 (hS.k (by decide)) rfl (c_S_isPerson hS hs (by omega) h0) rfl (by decide) (by decide) tw_m0 (Nat.le_of_ble_eq_true rfl) ?_
  refine ar_if_eq (k := 3) rfl (by omega) (fun c3 => ?_) (fun c3 => ?_)
  · refine ar_iconst (k := 7) rfl ?_
    refine ar_iret (k := 8) rfl rfl rfl (Nat.le_refl _) ?_
    exact ⟨congrArg (fun z => some (vi z)) (by omega), I, rfl, hk⟩
  · refine ar_iloadn (k := 4) rfl rfl ?_
    refine br_callS (k := 5) (as := [_]) rfl lsR_130 (c_R_isHour (by omega)) rfl (by decide) (by decide) tw_m0 (Nat.le_of_ble_eq_true rfl) ?_
    refine ar_if_ne (k := 6) rfl (by omega) (fun c6 => ?_) (fun c6 => ?_)
    · refine ar_aloadn (k := 9) rfl rfl ?_
      refine ar_iloadn (k := 10) rfl rfl ?_
      refine ar_iloadn (k := 11) rfl rfl ?_
      refine br_callVR (k := 12) (as := [_, _]) rfl lvR_157 (hS.k (by decide)) rfl (c_R_atOf hS hs hR hV (by omega) (by omega)) rfl (by decide) (by decide) tw_m0 (Nat.le_of_ble_eq_true rfl) (fun I12 q12 => ?_)
      have hs12 : I12 70 = s := q12.s.trans hs
      have hk12 := rk.trans hk q12
      refine ar_istoren (k := 13) (l2 := [(3, _), (0, _), (1, _), (2, _)]) rfl (by decide) rfl ?_
      refine ar_iloadn (k := 14) rfl rfl ?_
      refine ar_iconst (k := 15) rfl ?_
      refine ar_icmp_ne (k := 16) rfl (by omega) (by omega) (fun c16 => ?_) (fun c16 => ?_)
      · refine ar_iloadn (k := 19) rfl rfl ?_
        refine ar_iret (k := 20) rfl rfl rfl (Nat.le_refl _) ?_
        exact ⟨congrArg (fun z => some (vi z)) (by omega), I12, rfl, hk12⟩
      · refine ar_bipush (k := 17) rfl (by decide) ?_
        refine ar_goto (k := 18) rfl ?_
        refine ar_iret (k := 20) rfl rfl rfl (Nat.le_refl _) ?_
        exact ⟨congrArg (fun z => some (vi z)) (by omega), I12, rfl, hk12⟩
    · refine ar_iconst (k := 7) rfl ?_
      refine ar_iret (k := 8) rfl rfl rfl (Nat.le_refl _) ?_
      exact ⟨congrArg (fun z => some (vi z)) (by omega), I, rfl, hk⟩
end RE
end
section
def orV (g : Nat → Int) : Nat → Nat → Int → Int
  | 0, _, a => a
  | k + 1, j, a => orV g k (j + 1) (bOr a (g j))
def smV (g : Nat → Int) : Nat → Nat → Int → Int
  | 0, _, a => a
  | k + 1, j, a => smV g k (j + 1) (a + g j)
/-- which tools are worked at -/
def rWork (s : Int → Int) (u : Int) : Int := orV (fun p => if rAt s p u = -1 then 0 else bShl 1 (rAt s p u)) (s 0).toNat 0 0
abbrev rGoP (s : Int → Int) (t w : Int) : Prop := s (94 + t) ≠ -1 ∧ bAnd (bShr w t) 1 = 1 ∧ bAnd (bShr w (s (94 + t))) 1 = 1 ∧ s (104 + t) = 0 ∧ s (104 + s (94 + t)) = 0
def rGoing (s : Int → Int) (u : Int) : Int := orV (fun t => if rGoP s t (rWork s u) ∧ (t : Int) < s (94 + (t : Int)) then bShl 1 t else 0) (s 1).toNat 0 0
def rWait (s : Int → Int) (u : Int) : Int := orV (fun t => if bAnd (bShr (rWork s u) t) 1 = 1 ∧ ¬ rGoP s t (rWork s u) then bShl 1 t else 0) (s 1).toNat 0 0
def rGone (s : Int → Int) (t : Int) : Int := orV (fun u => if rGoP s t (rWork s u) then bShl 1 u else 0) 24 0 0
section RF
variable {l : Launch} {G : tG} {K : Nat → Nat × Nat} {I : Nat → Int → Int} {Q : Nat → Int → Option Nat} {n : Nat} {s : Int → Int}
theorem l_R_workedAt {u : Int} (hS : tSt (K, I, Q, n)) (hR : RInv s) (hV : RVal s) (u1 : 0 ≤ u ∧ u ≤ 23) : ∀ (k : Nat) (j : Nat) (a : Int) (J : Nat → Int → Int), j + k = (s 0).toNat → J 70 = s → rk I J → tw_AW l G mR_workedAt 5 0 0 n 0 (fun r h' => r = some (vi (orV (fun p => if rAt s p u = -1 then 0 else bShl 1 (rAt s p u)) k j a)) ∧ ∃ L, h' = (K, L, Q, n) ∧ rk I L) 4 [(3, vi (j : Int)), (2, vi a), (0, vr (some 69)), (1, vi u)] [] (K, J, Q, n) := by
  obtain ⟨h0, h1, h2, h3, h4, h5, h6, hp, hrw, ht, hr, hb, htp, hv⟩ := id hR
  intro k
  induction k with
  | zero =>
    intro j a J hj hs hk
    refine ar_iloadn (k := 4) rfl rfl ?_
    refine ar_aloadn (k := 5) rfl rfl ?_
    refine br_getR (k := 6) rfl (hS.k (by decide)) flR_9_12 (by decide) rfl (hS.r rfl) ?_
    refine ar_iconst (k := 7) rfl ?_
    refine br_iads (k := 8) rfl (hS.k (by decide)) (by omega) (by omega) (by decide) hs ?_
    refine ar_icmp_ge (k := 9) rfl (by omega) (by omega) (fun c9 => ?_) (fun c9 => ?_)
    · refine ar_iloadn (k := 28) rfl rfl ?_
      refine ar_iret (k := 29) rfl rfl rfl (Nat.le_refl _) ?_
      exact ⟨rfl, J, rfl, hk⟩
    · exfalso; omega
  | succ k ih =>
    intro j a J hj hs hk
    refine ar_iloadn (k := 4) rfl rfl ?_
    refine ar_aloadn (k := 5) rfl rfl ?_
    refine br_getR (k := 6) rfl (hS.k (by decide)) flR_9_12 (by decide) rfl (hS.r rfl) ?_
    refine ar_iconst (k := 7) rfl ?_
    refine br_iads (k := 8) rfl (hS.k (by decide)) (by omega) (by omega) (by decide) hs ?_
    refine ar_icmp_ge (k := 9) rfl (by omega) (by omega) (fun c9 => ?_) (fun c9 => ?_)
    · exfalso; omega
    · refine ar_aloadn (k := 10) rfl rfl ?_
      refine ar_iloadn (k := 11) rfl rfl ?_
      refine ar_iloadn (k := 12) rfl rfl ?_
      refine br_callVR (k := 13) (as := [_, _]) rfl lvR_157 (hS.k (by decide)) rfl (c_R_atOf hS hs hR hV (by omega) (by omega)) rfl (by decide) (by decide) tw_m0 (Nat.le_of_ble_eq_true rfl) (fun I13 q13 => ?_)
      have hs13 : I13 70 = s := q13.s.trans hs
      have hk13 := rk.trans hk q13
      have hb2 := rAt_bd (p := (j : Int)) (u := u) h1.1
      refine ar_istore (k := 14) (l2 := [(4, _), (3, _), (2, _), (0, _), (1, _)]) rfl (by decide) rfl ?_
      refine ar_iloadn (k := 15) rfl rfl ?_
      refine ar_iload (k := 16) rfl rfl ?_
      refine ar_iconst (k := 17) rfl ?_
      refine ar_icmp_ne (k := 18) rfl (by omega) (by omega) (fun c18 => ?_) (fun c18 => ?_)
      · refine ar_iconst (k := 21) rfl ?_
        refine ar_iload (k := 22) rfl rfl ?_
        refine ar_ishl (k := 23) rfl ?_
        refine tw_top (y := (fun p => if rAt s p u = -1 then 0 else bShl 1 (rAt s p u)) j) (by show _ = (if rAt s (j : Int) u = -1 then 0 else bShl 1 (rAt s (j : Int) u)); (repeat' split) <;> first | rfl | (exfalso; omega)) ?_
        refine ar_ior (k := 24) rfl ?_
        refine ar_istoren (k := 25) (l2 := [(2, _), (4, _), (3, _), (0, _), (1, _)]) rfl (by decide) rfl ?_
        refine ar_iinc (k := 26) (l2 := [(3, _), (2, _), (4, _), (0, _), (1, _)]) rfl (by decide) rfl rfl ?_
        refine ar_goto (k := 27) rfl ?_
        refine ar_sub (l2 := [(3, vi ((j + 1 : Nat) : Int)), (2, vi (bOr a ((fun p => if rAt s p u = -1 then 0 else bShl 1 (rAt s p u)) j))), (0, vr (some 69)), (1, vi u)]) (tw_s (tw_e 0 rfl (by omega)) (tw_s (tw_e 1 rfl (by rfl)) (tw_s (tw_g 3 rfl) (tw_s (tw_g 4 rfl) tw_s0)))) ?_
        exact ih (j + 1) _ I13 (by omega) hs13 hk13
      · refine ar_iconst (k := 19) rfl ?_
        refine ar_goto (k := 20) rfl ?_
        refine tw_top (y := (fun p => if rAt s p u = -1 then 0 else bShl 1 (rAt s p u)) j) (by show _ = (if rAt s (j : Int) u = -1 then 0 else bShl 1 (rAt s (j : Int) u)); (repeat' split) <;> first | rfl | (exfalso; omega)) ?_
        refine ar_ior (k := 24) rfl ?_
        refine ar_istoren (k := 25) (l2 := [(2, _), (4, _), (3, _), (0, _), (1, _)]) rfl (by decide) rfl ?_
        refine ar_iinc (k := 26) (l2 := [(3, _), (2, _), (4, _), (0, _), (1, _)]) rfl (by decide) rfl rfl ?_
        refine ar_goto (k := 27) rfl ?_
        refine ar_sub (l2 := [(3, vi ((j + 1 : Nat) : Int)), (2, vi (bOr a ((fun p => if rAt s p u = -1 then 0 else bShl 1 (rAt s p u)) j))), (0, vr (some 69)), (1, vi u)]) (tw_s (tw_e 0 rfl (by omega)) (tw_s (tw_e 1 rfl (by rfl)) (tw_s (tw_g 3 rfl) (tw_s (tw_g 4 rfl) tw_s0)))) ?_
        exact ih (j + 1) _ I13 (by omega) hs13 hk13
theorem c_R_workedAt {u : Int} (hS : tSt (K, I, Q, n)) (hs : I 70 = s) (hR : RInv s) (hV : RVal s) (u1 : 0 ≤ u ∧ u ≤ 23) : tw_R l G 5 mR_workedAt [vr (some 69), vi u] K I Q n (some (vi (rWork s u))) := by
  obtain ⟨h0, h1, h2, h3, h4, h5, h6, hp, hrw, ht, hr, hb, htp, hv⟩ := id hR
  refine tw_intro okR_workedAt (Nat.le_of_ble_eq_true rfl) ?_
  refine ar_iconst (k := 0) rfl ?_
  refine ar_istoren (k := 1) (l2 := [(2, _), (0, _), (1, _)]) rfl (by decide) rfl ?_
  refine ar_iconst (k := 2) rfl ?_
  refine ar_istoren (k := 3) (l2 := [(3, _), (2, _), (0, _), (1, _)]) rfl (by decide) rfl ?_
  refine ar_sub (l2 := [(3, vi ((0 : Nat) : Int)), (2, vi 0), (0, vr (some 69)), (1, vi u)]) (tw_s (tw_e 0 rfl (by rfl)) (tw_s (tw_g 1 rfl) (tw_s (tw_g 2 rfl) (tw_s (tw_g 3 rfl) tw_s0)))) ?_
  exact l_R_workedAt (I := I) hS hR hV u1 _ 0 0 I (by omega) hs rk.rf
theorem c_R_doesGo {t w : Int} (hS : tSt (K, I, Q, n)) (hs : I 70 = s) (hR : RInv s) (t1 : 0 ≤ t ∧ t < s 1) : tw_F l G 1 0 0 mR_doesGo [vr (some 69), vi t, vi w] (K, I, Q, n) (some (vi (if rGoP s t w then 1 else 0))) (K, I, Q, n) := by
  obtain ⟨h0, h1, h2, h3, h4, h5, h6, hp, hrw, ht, hr, hb, htp, hv⟩ := id hR
  have hw := ht t (by omega) (by omega)
  have b1 := bAnd1 (bShr w t)
  have b2 := bAnd1 (bShr w (s (94 + t)))
  refine tw_intro okR_doesGo (Nat.le_of_ble_eq_true rfl) ?_
  refine ar_aloadn (k := 0) rfl rfl ?_
  refine br_getR (k := 1) rfl (hS.k (by decide)) flR_9_12 (by decide) rfl (hS.r rfl) ?_
  refine ar_bipush (k := 2) rfl (by decide) ?_
  refine ar_iloadn (k := 3) rfl rfl ?_
  refine ar_iadd (k := 4) rfl ?_
  refine br_iads (k := 5) rfl (hS.k (by decide)) (by omega) (by omega) (by decide) hs ?_
  refine ar_istoren (k := 6) (l2 := [(3, _), (0, _), (1, _), (2, _)]) rfl (by decide) rfl ?_
  refine ar_iloadn (k := 7) rfl rfl ?_
  refine ar_iconst (k := 8) rfl ?_
  refine ar_icmp_eq (k := 9) rfl (by omega) (by omega) (fun c9 => ?_) (fun c9 => ?_)
  · refine ar_iconst (k := 40) rfl ?_
    refine ar_zret (k := 41) rfl rfl (by omega) rfl (Nat.le_refl _) ?_
    exact ⟨congrArg (fun z => some (vi z)) (by omega), rfl⟩
  · have w2 := ht (s (94 + t)) (by omega) (by omega)
    refine ar_iloadn (k := 10) rfl rfl ?_
    refine ar_iloadn (k := 11) rfl rfl ?_
    refine ar_ishr (k := 12) rfl ?_
    refine ar_iconst (k := 13) rfl ?_
    refine ar_iand (k := 14) rfl ?_
    refine ar_iconst (k := 15) rfl ?_
    refine ar_icmp_ne (k := 16) rfl (by omega) (by omega) (fun c16 => ?_) (fun c16 => ?_)
    · refine ar_iconst (k := 40) rfl ?_
      refine ar_zret (k := 41) rfl rfl (by omega) rfl (Nat.le_refl _) ?_
      exact ⟨congrArg (fun z => some (vi z)) (by omega), rfl⟩
    · refine ar_iloadn (k := 17) rfl rfl ?_
      refine ar_iloadn (k := 18) rfl rfl ?_
      refine ar_ishr (k := 19) rfl ?_
      refine ar_iconst (k := 20) rfl ?_
      refine ar_iand (k := 21) rfl ?_
      refine ar_iconst (k := 22) rfl ?_
      refine ar_icmp_ne (k := 23) rfl (by omega) (by omega) (fun c23 => ?_) (fun c23 => ?_)
      · refine ar_iconst (k := 40) rfl ?_
        refine ar_zret (k := 41) rfl rfl (by omega) rfl (Nat.le_refl _) ?_
        exact ⟨congrArg (fun z => some (vi z)) (by omega), rfl⟩
      · refine ar_aloadn (k := 24) rfl rfl ?_
        refine br_getR (k := 25) rfl (hS.k (by decide)) flR_9_12 (by decide) rfl (hS.r rfl) ?_
        refine ar_bipush (k := 26) rfl (by decide) ?_
        refine ar_iloadn (k := 27) rfl rfl ?_
        refine ar_iadd (k := 28) rfl ?_
        refine br_iads (k := 29) rfl (hS.k (by decide)) (by omega) (by omega) (by decide) hs ?_
        refine ar_if_ne (k := 30) rfl (by omega) (fun c30 => ?_) (fun c30 => ?_)
        · refine ar_iconst (k := 40) rfl ?_
          refine ar_zret (k := 41) rfl rfl (by omega) rfl (Nat.le_refl _) ?_
          exact ⟨congrArg (fun z => some (vi z)) (by omega), rfl⟩
        · refine ar_aloadn (k := 31) rfl rfl ?_
          refine br_getR (k := 32) rfl (hS.k (by decide)) flR_9_12 (by decide) rfl (hS.r rfl) ?_
          refine ar_bipush (k := 33) rfl (by decide) ?_
          refine ar_iloadn (k := 34) rfl rfl ?_
          refine ar_iadd (k := 35) rfl ?_
          refine br_iads (k := 36) rfl (hS.k (by decide)) (by omega) (by omega) (by decide) hs ?_
          refine ar_if_ne (k := 37) rfl (by omega) (fun c37 => ?_) (fun c37 => ?_)
          · refine ar_iconst (k := 40) rfl ?_
            refine ar_zret (k := 41) rfl rfl (by omega) rfl (Nat.le_refl _) ?_
            exact ⟨congrArg (fun z => some (vi z)) (by omega), rfl⟩
          · refine ar_iconst (k := 38) rfl ?_
            refine ar_goto (k := 39) rfl ?_
            refine ar_zret (k := 41) rfl rfl (by omega) rfl (Nat.le_refl _) ?_
            exact ⟨congrArg (fun z => some (vi z)) (by omega), rfl⟩
theorem l_R_going {u : Int} (hS : tSt (K, I, Q, n)) (hR : RInv s) (hV : RVal s) : ∀ (k : Nat) (j : Nat) (a : Int) (J : Nat → Int → Int), j + k = (s 1).toNat → J 70 = s → rk I J → tw_AW l G mR_going 6 0 0 n 0 (fun r h' => r = some (vi (orV (fun t => if rGoP s t (rWork s u) ∧ (t : Int) < s (94 + (t : Int)) then bShl 1 t else 0) k j a)) ∧ ∃ L, h' = (K, L, Q, n) ∧ rk I L) 11 [(4, vi (j : Int)), (3, vi a), (2, vi (rWork s u)), (0, vr (some 69)), (1, vi u)] [] (K, J, Q, n) := by
  obtain ⟨h0, h1, h2, h3, h4, h5, h6, hp, hrw, ht, hr, hb, htp, hv⟩ := id hR
  intro k
  induction k with
  | zero =>
    intro j a J hj hs hk
    refine ar_iload (k := 8) rfl rfl ?_
    refine ar_aloadn (k := 9) rfl rfl ?_
    refine br_getR (k := 10) rfl (hS.k (by decide)) flR_9_12 (by decide) rfl (hS.r rfl) ?_
    refine ar_iconst (k := 11) rfl ?_
    refine br_iads (k := 12) rfl (hS.k (by decide)) (by omega) (by omega) (by decide) hs ?_
    refine ar_icmp_ge (k := 13) rfl (by omega) (by omega) (fun c13 => ?_) (fun c13 => ?_)
    · refine ar_iloadn (k := 37) rfl rfl ?_
      refine ar_iret (k := 38) rfl rfl rfl (Nat.le_refl _) ?_
      exact ⟨rfl, J, rfl, hk⟩
    · exfalso; omega
  | succ k ih =>
    intro j a J hj hs hk
    refine ar_iload (k := 8) rfl rfl ?_
    refine ar_aloadn (k := 9) rfl rfl ?_
    refine br_getR (k := 10) rfl (hS.k (by decide)) flR_9_12 (by decide) rfl (hS.r rfl) ?_
    refine ar_iconst (k := 11) rfl ?_
    refine br_iads (k := 12) rfl (hS.k (by decide)) (by omega) (by omega) (by decide) hs ?_
    refine ar_icmp_ge (k := 13) rfl (by omega) (by omega) (fun c13 => ?_) (fun c13 => ?_)
    · exfalso; omega
    · have hw := ht j (by omega) (by omega)
      refine ar_iloadn (k := 14) rfl rfl ?_
      refine ar_aloadn (k := 15) rfl rfl ?_
      refine ar_iload (k := 16) rfl rfl ?_
      refine ar_iloadn (k := 17) rfl rfl ?_
      refine br_callV (k := 18) (as := [_, _]) rfl lvR_163 (hS.k (by decide)) rfl (c_R_doesGo hS hs hR (by omega)) rfl (by decide) (by decide) tw_m0 (Nat.le_of_ble_eq_true rfl) ?_
      refine ar_if_eq (k := 19) rfl (by omega) (fun c19 => ?_) (fun c19 => ?_)
      · refine ar_iconst (k := 32) rfl ?_
        refine tw_top (y := (fun t => if rGoP s t (rWork s u) ∧ (t : Int) < s (94 + (t : Int)) then bShl 1 t else 0) j) (by show _ = (if _ then _ else _); (repeat' split) <;> first | rfl | (exfalso; omega)) ?_
        refine ar_ior (k := 33) rfl ?_
        refine ar_istoren (k := 34) (l2 := [(3, _), (4, _), (2, _), (0, _), (1, _)]) rfl (by decide) rfl ?_
        refine ar_iinc (k := 35) (l2 := [(4, _), (3, _), (2, _), (0, _), (1, _)]) rfl (by decide) rfl rfl ?_
        refine ar_goto (k := 36) rfl ?_
        refine ar_sub (l2 := [(4, vi ((j + 1 : Nat) : Int)), (3, vi (bOr a ((fun t => if rGoP s t (rWork s u) ∧ (t : Int) < s (94 + (t : Int)) then bShl 1 t else 0) j))), (2, vi (rWork s u)), (0, vr (some 69)), (1, vi u)]) (tw_s (tw_e 0 rfl (by omega)) (tw_s (tw_e 1 rfl (by rfl)) (tw_s (tw_g 2 rfl) (tw_s (tw_g 3 rfl) (tw_s (tw_g 4 rfl) tw_s0))))) ?_
        exact ih (j + 1) _ J (by omega) hs hk
      · refine ar_aloadn (k := 20) rfl rfl ?_
        refine br_getR (k := 21) rfl (hS.k (by decide)) flR_9_12 (by decide) rfl (hS.r rfl) ?_
        refine ar_bipush (k := 22) rfl (by decide) ?_
        refine ar_iload (k := 23) rfl rfl ?_
        refine ar_iadd (k := 24) rfl ?_
        refine br_iads (k := 25) rfl (hS.k (by decide)) (by omega) (by omega) (by decide) hs ?_
        refine ar_iload (k := 26) rfl rfl ?_
        refine ar_icmp_le (k := 27) rfl (by omega) (by omega) (fun c27 => ?_) (fun c27 => ?_)
        · refine ar_iconst (k := 32) rfl ?_
          refine tw_top (y := (fun t => if rGoP s t (rWork s u) ∧ (t : Int) < s (94 + (t : Int)) then bShl 1 t else 0) j) (by show _ = (if _ then _ else _); (repeat' split) <;> first | rfl | (exfalso; omega)) ?_
          refine ar_ior (k := 33) rfl ?_
          refine ar_istoren (k := 34) (l2 := [(3, _), (4, _), (2, _), (0, _), (1, _)]) rfl (by decide) rfl ?_
          refine ar_iinc (k := 35) (l2 := [(4, _), (3, _), (2, _), (0, _), (1, _)]) rfl (by decide) rfl rfl ?_
          refine ar_goto (k := 36) rfl ?_
          refine ar_sub (l2 := [(4, vi ((j + 1 : Nat) : Int)), (3, vi (bOr a ((fun t => if rGoP s t (rWork s u) ∧ (t : Int) < s (94 + (t : Int)) then bShl 1 t else 0) j))), (2, vi (rWork s u)), (0, vr (some 69)), (1, vi u)]) (tw_s (tw_e 0 rfl (by omega)) (tw_s (tw_e 1 rfl (by rfl)) (tw_s (tw_g 2 rfl) (tw_s (tw_g 3 rfl) (tw_s (tw_g 4 rfl) tw_s0))))) ?_
          exact ih (j + 1) _ J (by omega) hs hk
        · refine ar_iconst (k := 28) rfl ?_
          refine ar_iload (k := 29) rfl rfl ?_
          refine ar_ishl (k := 30) rfl ?_
          refine ar_goto (k := 31) rfl ?_
          refine tw_top (y := (fun t => if rGoP s t (rWork s u) ∧ (t : Int) < s (94 + (t : Int)) then bShl 1 t else 0) j) (by show _ = (if _ then _ else _); (repeat' split) <;> first | rfl | (exfalso; omega)) ?_
          refine ar_ior (k := 33) rfl ?_
          refine ar_istoren (k := 34) (l2 := [(3, _), (4, _), (2, _), (0, _), (1, _)]) rfl (by decide) rfl ?_
          refine ar_iinc (k := 35) (l2 := [(4, _), (3, _), (2, _), (0, _), (1, _)]) rfl (by decide) rfl rfl ?_
          refine ar_goto (k := 36) rfl ?_
          refine ar_sub (l2 := [(4, vi ((j + 1 : Nat) : Int)), (3, vi (bOr a ((fun t => if rGoP s t (rWork s u) ∧ (t : Int) < s (94 + (t : Int)) then bShl 1 t else 0) j))), (2, vi (rWork s u)), (0, vr (some 69)), (1, vi u)]) (tw_s (tw_e 0 rfl (by omega)) (tw_s (tw_e 1 rfl (by rfl)) (tw_s (tw_g 2 rfl) (tw_s (tw_g 3 rfl) (tw_s (tw_g 4 rfl) tw_s0))))) ?_
          exact ih (j + 1) _ J (by omega) hs hk
theorem c_R_going {u : Int} (hS : tSt (K, I, Q, n)) (hs : I 70 = s) (hR : RInv s) (hV : RVal s) (u1 : 0 ≤ u ∧ u ≤ 23) : tw_R l G 6 mR_going [vr (some 69), vi u] K I Q n (some (vi (rGoing s u))) := by
  obtain ⟨h0, h1, h2, h3, h4, h5, h6, hp, hrw, ht, hr, hb, htp, hv⟩ := id hR
  have hk : rk I I := rk.rf
  refine tw_intro okR_going (Nat.le_of_ble_eq_true rfl) ?_
  refine ar_aloadn (k := 0) rfl rfl ?_
  refine ar_iloadn (k := 1) rfl rfl ?_
  refine br_callVR (k := 2) (as := [_]) rfl lvR_160 (hS.k (by decide)) rfl (c_R_workedAt hS hs hR hV (by omega)) rfl (by decide) (by decide) tw_m0 (Nat.le_of_ble_eq_true rfl) (fun I2 q2 => ?_)
  have hs2 : I2 70 = s := q2.s.trans hs
  have hk2 := rk.trans hk q2
  refine ar_istoren (k := 3) (l2 := [(2, _), (0, _), (1, _)]) rfl (by decide) rfl ?_
  refine ar_iconst (k := 4) rfl ?_
  refine ar_istoren (k := 5) (l2 := [(3, _), (2, _), (0, _), (1, _)]) rfl (by decide) rfl ?_
  refine ar_iconst (k := 6) rfl ?_
  refine ar_istore (k := 7) (l2 := [(4, _), (3, _), (2, _), (0, _), (1, _)]) rfl (by decide) rfl ?_
  refine ar_sub (l2 := [(4, vi ((0 : Nat) : Int)), (3, vi 0), (2, vi (rWork s u)), (0, vr (some 69)), (1, vi u)]) (tw_s (tw_e 0 rfl (by rfl)) (tw_s (tw_g 1 rfl) (tw_s (tw_g 2 rfl) (tw_s (tw_g 3 rfl) (tw_s (tw_g 4 rfl) tw_s0))))) ?_
  exact l_R_going (I := I) hS hR hV _ 0 0 I2 (by omega) hs2 hk2
theorem l_R_waiting {u : Int} (hS : tSt (K, I, Q, n)) (hR : RInv s) (hV : RVal s) : ∀ (k : Nat) (j : Nat) (a : Int) (J : Nat → Int → Int), j + k = (s 1).toNat → J 70 = s → rk I J → tw_AW l G mR_waiting 6 0 0 n 0 (fun r h' => r = some (vi (orV (fun t => if bAnd (bShr (rWork s u) t) 1 = 1 ∧ ¬ rGoP s t (rWork s u) then bShl 1 t else 0) k j a)) ∧ ∃ L, h' = (K, L, Q, n) ∧ rk I L) 11 [(4, vi (j : Int)), (3, vi a), (2, vi (rWork s u)), (0, vr (some 69)), (1, vi u)] [] (K, J, Q, n) := by
  obtain ⟨h0, h1, h2, h3, h4, h5, h6, hp, hrw, ht, hr, hb, htp, hv⟩ := id hR
  intro k
  induction k with
  | zero =>
    intro j a J hj hs hk
    refine ar_iload (k := 8) rfl rfl ?_
    refine ar_aloadn (k := 9) rfl rfl ?_
    refine br_getR (k := 10) rfl (hS.k (by decide)) flR_9_12 (by decide) rfl (hS.r rfl) ?_
    refine ar_iconst (k := 11) rfl ?_
    refine br_iads (k := 12) rfl (hS.k (by decide)) (by omega) (by omega) (by decide) hs ?_
    refine ar_icmp_ge (k := 13) rfl (by omega) (by omega) (fun c13 => ?_) (fun c13 => ?_)
    · refine ar_iloadn (k := 36) rfl rfl ?_
      refine ar_iret (k := 37) rfl rfl rfl (Nat.le_refl _) ?_
      exact ⟨rfl, J, rfl, hk⟩
    · exfalso; omega
  | succ k ih =>
    intro j a J hj hs hk
    refine ar_iload (k := 8) rfl rfl ?_
    refine ar_aloadn (k := 9) rfl rfl ?_
    refine br_getR (k := 10) rfl (hS.k (by decide)) flR_9_12 (by decide) rfl (hS.r rfl) ?_
    refine ar_iconst (k := 11) rfl ?_
    refine br_iads (k := 12) rfl (hS.k (by decide)) (by omega) (by omega) (by decide) hs ?_
    refine ar_icmp_ge (k := 13) rfl (by omega) (by omega) (fun c13 => ?_) (fun c13 => ?_)
    · exfalso; omega
    · have hw := ht j (by omega) (by omega)
      have b1 := bAnd1 (bShr (rWork s u) (j : Int))
      refine ar_iloadn (k := 14) rfl rfl ?_
      refine ar_iloadn (k := 15) rfl rfl ?_
      refine ar_iload (k := 16) rfl rfl ?_
      refine ar_ishr (k := 17) rfl ?_
      refine ar_iconst (k := 18) rfl ?_
      refine ar_iand (k := 19) rfl ?_
      refine ar_iconst (k := 20) rfl ?_
      refine ar_icmp_ne (k := 21) rfl (by omega) (by omega) (fun c21 => ?_) (fun c21 => ?_)
      · refine ar_iconst (k := 31) rfl ?_
        refine tw_top (y := (fun t => if bAnd (bShr (rWork s u) t) 1 = 1 ∧ ¬ rGoP s t (rWork s u) then bShl 1 t else 0) j) (by show _ = (if _ then _ else _); (repeat' split) <;> first | rfl | (exfalso; omega)) ?_
        refine ar_ior (k := 32) rfl ?_
        refine ar_istoren (k := 33) (l2 := [(3, _), (4, _), (2, _), (0, _), (1, _)]) rfl (by decide) rfl ?_
        refine ar_iinc (k := 34) (l2 := [(4, _), (3, _), (2, _), (0, _), (1, _)]) rfl (by decide) rfl rfl ?_
        refine ar_goto (k := 35) rfl ?_
        refine ar_sub (l2 := [(4, vi ((j + 1 : Nat) : Int)), (3, vi (bOr a ((fun t => if bAnd (bShr (rWork s u) t) 1 = 1 ∧ ¬ rGoP s t (rWork s u) then bShl 1 t else 0) j))), (2, vi (rWork s u)), (0, vr (some 69)), (1, vi u)]) (tw_s (tw_e 0 rfl (by omega)) (tw_s (tw_e 1 rfl (by rfl)) (tw_s (tw_g 2 rfl) (tw_s (tw_g 3 rfl) (tw_s (tw_g 4 rfl) tw_s0))))) ?_
        exact ih (j + 1) _ J (by omega) hs hk
      · refine ar_aloadn (k := 22) rfl rfl ?_
        refine ar_iload (k := 23) rfl rfl ?_
        refine ar_iloadn (k := 24) rfl rfl ?_
        refine br_callV (k := 25) (as := [_, _]) rfl lvR_163 (hS.k (by decide)) rfl (c_R_doesGo hS hs hR (by omega)) rfl (by decide) (by decide) tw_m0 (Nat.le_of_ble_eq_true rfl) ?_
        refine ar_if_ne (k := 26) rfl (by omega) (fun c26 => ?_) (fun c26 => ?_)
        · refine ar_iconst (k := 31) rfl ?_
          refine tw_top (y := (fun t => if bAnd (bShr (rWork s u) t) 1 = 1 ∧ ¬ rGoP s t (rWork s u) then bShl 1 t else 0) j) (by show _ = (if _ then _ else _); (repeat' split) <;> first | rfl | (exfalso; omega)) ?_
          refine ar_ior (k := 32) rfl ?_
          refine ar_istoren (k := 33) (l2 := [(3, _), (4, _), (2, _), (0, _), (1, _)]) rfl (by decide) rfl ?_
          refine ar_iinc (k := 34) (l2 := [(4, _), (3, _), (2, _), (0, _), (1, _)]) rfl (by decide) rfl rfl ?_
          refine ar_goto (k := 35) rfl ?_
          refine ar_sub (l2 := [(4, vi ((j + 1 : Nat) : Int)), (3, vi (bOr a ((fun t => if bAnd (bShr (rWork s u) t) 1 = 1 ∧ ¬ rGoP s t (rWork s u) then bShl 1 t else 0) j))), (2, vi (rWork s u)), (0, vr (some 69)), (1, vi u)]) (tw_s (tw_e 0 rfl (by omega)) (tw_s (tw_e 1 rfl (by rfl)) (tw_s (tw_g 2 rfl) (tw_s (tw_g 3 rfl) (tw_s (tw_g 4 rfl) tw_s0))))) ?_
          exact ih (j + 1) _ J (by omega) hs hk
        · refine ar_iconst (k := 27) rfl ?_
          refine ar_iload (k := 28) rfl rfl ?_
          refine ar_ishl (k := 29) rfl ?_
          refine ar_goto (k := 30) rfl ?_
          refine tw_top (y := (fun t => if bAnd (bShr (rWork s u) t) 1 = 1 ∧ ¬ rGoP s t (rWork s u) then bShl 1 t else 0) j) (by show _ = (if _ then _ else _); (repeat' split) <;> first | rfl | (exfalso; omega)) ?_
          refine ar_ior (k := 32) rfl ?_
          refine ar_istoren (k := 33) (l2 := [(3, _), (4, _), (2, _), (0, _), (1, _)]) rfl (by decide) rfl ?_
          refine ar_iinc (k := 34) (l2 := [(4, _), (3, _), (2, _), (0, _), (1, _)]) rfl (by decide) rfl rfl ?_
          refine ar_goto (k := 35) rfl ?_
          refine ar_sub (l2 := [(4, vi ((j + 1 : Nat) : Int)), (3, vi (bOr a ((fun t => if bAnd (bShr (rWork s u) t) 1 = 1 ∧ ¬ rGoP s t (rWork s u) then bShl 1 t else 0) j))), (2, vi (rWork s u)), (0, vr (some 69)), (1, vi u)]) (tw_s (tw_e 0 rfl (by omega)) (tw_s (tw_e 1 rfl (by rfl)) (tw_s (tw_g 2 rfl) (tw_s (tw_g 3 rfl) (tw_s (tw_g 4 rfl) tw_s0))))) ?_
          exact ih (j + 1) _ J (by omega) hs hk
theorem c_R_waiting {u : Int} (hS : tSt (K, I, Q, n)) (hs : I 70 = s) (hR : RInv s) (hV : RVal s) (u1 : 0 ≤ u ∧ u ≤ 23) : tw_R l G 6 mR_waiting [vr (some 69), vi u] K I Q n (some (vi (rWait s u))) := by
  obtain ⟨h0, h1, h2, h3, h4, h5, h6, hp, hrw, ht, hr, hb, htp, hv⟩ := id hR
  have hk : rk I I := rk.rf
  refine tw_intro okR_waiting (Nat.le_of_ble_eq_true rfl) ?_
  refine ar_aloadn (k := 0) rfl rfl ?_
  refine ar_iloadn (k := 1) rfl rfl ?_
  refine br_callVR (k := 2) (as := [_]) rfl lvR_160 (hS.k (by decide)) rfl (c_R_workedAt hS hs hR hV (by omega)) rfl (by decide) (by decide) tw_m0 (Nat.le_of_ble_eq_true rfl) (fun I2 q2 => ?_)
  have hs2 : I2 70 = s := q2.s.trans hs
  have hk2 := rk.trans hk q2
  refine ar_istoren (k := 3) (l2 := [(2, _), (0, _), (1, _)]) rfl (by decide) rfl ?_
  refine ar_iconst (k := 4) rfl ?_
  refine ar_istoren (k := 5) (l2 := [(3, _), (2, _), (0, _), (1, _)]) rfl (by decide) rfl ?_
  refine ar_iconst (k := 6) rfl ?_
  refine ar_istore (k := 7) (l2 := [(4, _), (3, _), (2, _), (0, _), (1, _)]) rfl (by decide) rfl ?_
  refine ar_sub (l2 := [(4, vi ((0 : Nat) : Int)), (3, vi 0), (2, vi (rWork s u)), (0, vr (some 69)), (1, vi u)]) (tw_s (tw_e 0 rfl (by rfl)) (tw_s (tw_g 1 rfl) (tw_s (tw_g 2 rfl) (tw_s (tw_g 3 rfl) (tw_s (tw_g 4 rfl) tw_s0))))) ?_
  exact l_R_waiting (I := I) hS hR hV _ 0 0 I2 (by omega) hs2 hk2
theorem l_R_of {t w : Int} (hS : tSt (K, I, Q, n)) (hR : RInv s) (hV : RVal s) (t1 : 0 ≤ t ∧ t < s 1) : ∀ (k : Nat) (j : Nat) (a : Int) (J : Nat → Int → Int), j + k = 24 → J 70 = s → rk I J → tw_AW l G mR_of 6 0 0 n 0 (fun r h' => r = some (vi (orV (fun u => if rGoP s t (rWork s u) then bShl 1 u else 0) k j a)) ∧ ∃ L, h' = (K, L, Q, n) ∧ rk I L) 61 [(4, vi (j : Int)), (3, vi a), (0, vr (some 69)), (1, vi t), (2, vi w)] [] (K, J, Q, n) := by
  obtain ⟨h0, h1, h2, h3, h4, h5, h6, hp, hrw, ht, hr, hb, htp, hv⟩ := id hR
  intro k
  induction k with
  | zero =>
    intro j a J hj hs hk
    refine ar_iload (k := 39) rfl rfl ?_
    refine ar_bipush (k := 40) rfl (by decide) ?_
    refine ar_icmp_ge (k := 41) rfl (by omega) (by omega) (fun c41 => ?_) (fun c41 => ?_)
    · refine ar_iloadn (k := 59) rfl rfl ?_
      refine ar_iret (k := 60) rfl rfl rfl (Nat.le_refl _) ?_
      exact ⟨rfl, J, rfl, hk⟩
    · exfalso; omega
  | succ k ih =>
    intro j a J hj hs hk
    refine ar_iload (k := 39) rfl rfl ?_
    refine ar_bipush (k := 40) rfl (by decide) ?_
    refine ar_icmp_ge (k := 41) rfl (by omega) (by omega) (fun c41 => ?_) (fun c41 => ?_)
    · exfalso; omega
    · refine ar_iloadn (k := 42) rfl rfl ?_
      refine ar_aloadn (k := 43) rfl rfl ?_
      refine ar_iloadn (k := 44) rfl rfl ?_
      refine ar_aloadn (k := 45) rfl rfl ?_
      refine ar_iload (k := 46) rfl rfl ?_
      refine br_callVR (k := 47) (as := [_]) rfl lvR_160 (hS.k (by decide)) rfl (c_R_workedAt hS hs hR hV (by omega)) rfl (by decide) (by decide) tw_m0 (Nat.le_of_ble_eq_true rfl) (fun I47 q47 => ?_)
      have hs47 : I47 70 = s := q47.s.trans hs
      have hk47 := rk.trans hk q47
      refine br_callV (k := 48) (as := [_, _]) rfl lvR_163 (hS.k (by decide)) rfl (c_R_doesGo hS hs47 hR (by omega)) rfl (by decide) (by decide) tw_m0 (Nat.le_of_ble_eq_true rfl) ?_
      refine ar_if_eq (k := 49) rfl (by omega) (fun c49 => ?_) (fun c49 => ?_)
      · refine ar_iconst (k := 54) rfl ?_
        refine tw_top (y := (fun u => if rGoP s t (rWork s u) then bShl 1 u else 0) j) (by show _ = (if _ then _ else _); (repeat' split) <;> first | rfl | (exfalso; omega)) ?_
        refine ar_ior (k := 55) rfl ?_
        refine ar_istoren (k := 56) (l2 := [(3, _), (4, _), (0, _), (1, _), (2, _)]) rfl (by decide) rfl ?_
        refine ar_iinc (k := 57) (l2 := [(4, _), (3, _), (0, _), (1, _), (2, _)]) rfl (by decide) rfl rfl ?_
        refine ar_goto (k := 58) rfl ?_
        refine ar_sub (l2 := [(4, vi ((j + 1 : Nat) : Int)), (3, vi (bOr a ((fun u => if rGoP s t (rWork s u) then bShl 1 u else 0) j))), (0, vr (some 69)), (1, vi t), (2, vi w)]) (tw_s (tw_e 0 rfl (by omega)) (tw_s (tw_e 1 rfl (by rfl)) (tw_s (tw_g 2 rfl) (tw_s (tw_g 3 rfl) (tw_s (tw_g 4 rfl) tw_s0))))) ?_
        exact ih (j + 1) _ I47 (by omega) hs47 hk47
      · refine ar_iconst (k := 50) rfl ?_
        refine ar_iload (k := 51) rfl rfl ?_
        refine ar_ishl (k := 52) rfl ?_
        refine ar_goto (k := 53) rfl ?_
        refine tw_top (y := (fun u => if rGoP s t (rWork s u) then bShl 1 u else 0) j) (by show _ = (if _ then _ else _); (repeat' split) <;> first | rfl | (exfalso; omega)) ?_
        refine ar_ior (k := 55) rfl ?_
        refine ar_istoren (k := 56) (l2 := [(3, _), (4, _), (0, _), (1, _), (2, _)]) rfl (by decide) rfl ?_
        refine ar_iinc (k := 57) (l2 := [(4, _), (3, _), (0, _), (1, _), (2, _)]) rfl (by decide) rfl rfl ?_
        refine ar_goto (k := 58) rfl ?_
        refine ar_sub (l2 := [(4, vi ((j + 1 : Nat) : Int)), (3, vi (bOr a ((fun u => if rGoP s t (rWork s u) then bShl 1 u else 0) j))), (0, vr (some 69)), (1, vi t), (2, vi w)]) (tw_s (tw_e 0 rfl (by omega)) (tw_s (tw_e 1 rfl (by rfl)) (tw_s (tw_g 2 rfl) (tw_s (tw_g 3 rfl) (tw_s (tw_g 4 rfl) tw_s0))))) ?_
        exact ih (j + 1) _ I47 (by omega) hs47 hk47
theorem c_R_of {t w : Int} (hS : tSt (K, I, Q, n)) (hs : I 70 = s) (hR : RInv s) (hV : RVal s) (tt : tr t) (tw : tr w) : tw_R l G 6 mR_of [vr (some 69), vi t, vi w] K I Q n (some (vi (if ¬ ((0 ≤ t ∧ t ≤ s 1 - 1) ∧ (0 ≤ w ∧ w ≤ 4)) then -1 else if w < 4 then (if w = 2 ∧ s (74 + 10 * w + t) = -1 then -5 else s (74 + 10 * w + t)) else rGone s t))) := by
  obtain ⟨h0, h1, h2, h3, h4, h5, h6, hp, hrw, ht, hr, hb, htp, hv⟩ := id hR
  have hk : rk I I := rk.rf
  refine tw_intro okR_of (Nat.le_of_ble_eq_true rfl) ?_
  refine ar_aloadn (k := 0) rfl rfl ?_
  refine ar_iloadn (k := 1) rfl rfl ?_
  refine br_callV (k := 2) (as := [_]) rfl lvR_120 (hS.k (by decide)) rfl (c_S_isTool hS hs (by omega) h1) rfl (by decide) (by decide) tw_m0 (Nat.le_of_ble_eq_true rfl) ?_
  refine ar_if_eq (k := 3) rfl (by omega) (fun c3 => ?_) (fun c3 => ?_)
  · refine ar_iconst (k := 9) rfl ?_
    refine ar_iret (k := 10) rfl rfl rfl (Nat.le_refl _) ?_
    exact ⟨congrArg (fun z => some (vi z)) (by omega), I, rfl, hk⟩
  · refine ar_iloadn (k := 4) rfl rfl ?_
    refine ar_iconst (k := 5) rfl ?_
    refine ar_iconst (k := 6) rfl ?_
    refine br_callS (k := 7) (as := [_, _, _]) rfl lsR_38 (c_R_in (by omega) (by omega) (by omega)) rfl (by decide) (by decide) tw_m0 (Nat.le_of_ble_eq_true rfl) ?_
    refine ar_if_ne (k := 8) rfl (by omega) (fun c8 => ?_) (fun c8 => ?_)
    · refine ar_iloadn (k := 11) rfl rfl ?_
      refine ar_iconst (k := 12) rfl ?_
      refine ar_icmp_ge (k := 13) rfl (by omega) (by omega) (fun c13 => ?_) (fun c13 => ?_)
      · refine ar_iconst (k := 35) rfl ?_
        refine ar_istoren (k := 36) (l2 := [(3, _), (0, _), (1, _), (2, _)]) rfl (by decide) rfl ?_
        refine ar_iconst (k := 37) rfl ?_
        refine ar_istore (k := 38) (l2 := [(4, _), (3, _), (0, _), (1, _), (2, _)]) rfl (by decide) rfl ?_
        refine ar_sub (l2 := [(4, vi ((0 : Nat) : Int)), (3, vi 0), (0, vr (some 69)), (1, vi t), (2, vi w)]) (tw_s (tw_e 0 rfl (by rfl)) (tw_s (tw_g 1 rfl) (tw_s (tw_g 2 rfl) (tw_s (tw_g 3 rfl) (tw_s (tw_g 4 rfl) tw_s0))))) ?_
        rw [show (if ¬ ((0 ≤ t ∧ t ≤ s 1 - 1) ∧ (0 ≤ w ∧ w ≤ 4)) then -1 else if w < 4 then (if w = 2 ∧ s (74 + 10 * w + t) = -1 then -5 else s (74 + 10 * w + t)) else rGone s t) = rGone s t by rw [if_neg (by omega), if_neg (by omega)]]
        exact l_R_of (I := I) hS hR hV (by omega) _ 0 0 I (by omega) hs hk
      · have hw := ht t (by omega) (by omega)
        have hx : -1 ≤ s (74 + 10 * w + t) ∧ s (74 + 10 * w + t) ≤ 10 := by
          rcases (show w = 0 ∨ w = 1 ∨ w = 2 ∨ w = 3 by omega) with rfl | rfl | rfl | rfl
          · rw [show (74 : Int) + 10 * 0 + t = 74 + t by omega]; omega
          · rw [show (74 : Int) + 10 * 1 + t = 84 + t by omega]; omega
          · rw [show (74 : Int) + 10 * 2 + t = 94 + t by omega]; omega
          · rw [show (74 : Int) + 10 * 3 + t = 104 + t by omega]; omega
        refine ar_aloadn (k := 14) rfl rfl ?_
        refine br_getR (k := 15) rfl (hS.k (by decide)) flR_9_12 (by decide) rfl (hS.r rfl) ?_
        refine ar_bipush (k := 16) rfl (by decide) ?_
        refine ar_bipush (k := 17) rfl (by decide) ?_
        refine ar_iloadn (k := 18) rfl rfl ?_
        refine ar_imul (k := 19) rfl ?_
        refine ar_iadd (k := 20) rfl ?_
        refine ar_iloadn (k := 21) rfl rfl ?_
        refine ar_iadd (k := 22) rfl ?_
        refine br_iads (k := 23) rfl (hS.k (by decide)) (by omega) (by omega) (by decide) hs ?_
        refine ar_istoren (k := 24) (l2 := [(3, _), (0, _), (1, _), (2, _)]) rfl (by decide) rfl ?_
        refine ar_iloadn (k := 25) rfl rfl ?_
        refine ar_iconst (k := 26) rfl ?_
        refine ar_icmp_ne (k := 27) rfl (by omega) (by omega) (fun c27 => ?_) (fun c27 => ?_)
        · refine ar_iloadn (k := 33) rfl rfl ?_
          refine ar_iret (k := 34) rfl rfl rfl (Nat.le_refl _) ?_
          exact ⟨congrArg (fun z => some (vi z)) (by omega), I, rfl, hk⟩
        · refine ar_iloadn (k := 28) rfl rfl ?_
          refine ar_iconst (k := 29) rfl ?_
          refine ar_icmp_ne (k := 30) rfl (by omega) (by omega) (fun c30 => ?_) (fun c30 => ?_)
          · refine ar_iloadn (k := 33) rfl rfl ?_
            refine ar_iret (k := 34) rfl rfl rfl (Nat.le_refl _) ?_
            exact ⟨congrArg (fun z => some (vi z)) (by omega), I, rfl, hk⟩
          · refine ar_bipush (k := 31) rfl (by decide) ?_
            refine ar_goto (k := 32) rfl ?_
            refine ar_iret (k := 34) rfl rfl rfl (Nat.le_refl _) ?_
            exact ⟨congrArg (fun z => some (vi z)) (by omega), I, rfl, hk⟩
    · refine ar_iconst (k := 9) rfl ?_
      refine ar_iret (k := 10) rfl rfl rfl (Nat.le_refl _) ?_
      exact ⟨congrArg (fun z => some (vi z)) (by omega), I, rfl, hk⟩
end RF
end
section
abbrev rCanP (s : Int → Int) (t u g : Int) : Prop := (t ≤ s (94 + t) ∧ s (104 + t) ≠ 1 ∧ s (104 + s (94 + t)) ≠ 1) ∧ s (84 + t) ≠ s (84 + s (94 + t)) ∧ rFreeP s (s (84 + t)) u ∧ rFreeP s (s (84 + s (94 + t))) u ∧ bAnd (bShr g (s (84 + t))) 1 = 0 ∧ bAnd (bShr g (s (84 + s (94 + t)))) 1 = 0
/-- all sets from tool t on (k tools): the most worth, its set, the most pairs -/
def rSets (s : Int → Int) (u : Int) : Nat → Nat → Int → Int → Int → Int → Int × Int × Int → Int × Int × Int
  | 0, _, e, _, w, m, M => (if w > M.1 ∨ (w = M.1 ∧ e < M.2.1) then w else M.1, if w > M.1 ∨ (w = M.1 ∧ e < M.2.1) then e else M.2.1, if m > M.2.2 then m else M.2.2)
  | k + 1, t, e, g, w, m, M => if rCanP s t u g then rSets s u k (t + 1) (bOr e (bShl 1 t)) (bOr (bOr g (bShl 1 (s (84 + (t : Int))))) (bShl 1 (s (84 + s (94 + (t : Int)))))) (w + rWorth s t u) (m + 1) (rSets s u k (t + 1) e g w m M) else rSets s u k (t + 1) e g w m M
theorem tr_toInt (x : Int32) : tr x.toInt := ⟨by have := x.le_toInt; omega, by have := x.toInt_lt; omega⟩
theorem tr_bOr (x y : Int) : tr (bOr x y) := tr_toInt _
abbrev rMb (M : Int × Int × Int) : Prop := (-500000 ≤ M.1 ∧ M.1 ≤ 500000) ∧ tr M.2.1 ∧ (0 ≤ M.2.2 ∧ M.2.2 ≤ 20)
theorem rSets_bd {s : Int → Int} {u : Int} (hR : RInv s) (hV : RVal s) : ∀ (k t : Nat) (e g w m : Int) (M : Int × Int × Int), t + k ≤ 10 → tr e → (-42000 * (t : Int) ≤ w ∧ w ≤ 42000 * (t : Int)) → (0 ≤ m ∧ m ≤ t) → rMb M → rMb (rSets s u k t e g w m M)
  | 0, t, e, g, w, m, M, h, he, hw, hm, hM => by
    obtain ⟨a, b, c⟩ := M
    simp only [rSets, rMb] at *
    refine ⟨?_, ?_, ?_⟩
    · split <;> omega
    · split
      · exact he
      · exact hM.2.1
    · split <;> omega
  | k + 1, t, e, g, w, m, M, h, he, hw, hm, hM => by
    have h1 := rSets_bd (u := u) hR hV k (t + 1) e g w m M (by omega) he (by omega) (by omega) hM
    rw [rSets]
    split
    · have hb := rWorth_bd (t := (t : Int)) (u := u) hR hV
      exact rSets_bd hR hV k (t + 1) _ _ _ _ _ (by omega) (tr_bOr _ _) (by omega) (by omega) h1
    · exact h1
def rMost (s : Int → Int) (u : Int) : Int × Int × Int := rSets s u (s 1).toNat 0 0 0 0 0 (0, 0, 0)
section RG
variable {l : Launch} {G : tG} {K : Nat → Nat × Nat} {I : Nat → Int → Int} {Q : Nat → Int → Option Nat} {n : Nat} {s : Int → Int}
theorem c_R_can {t u g : Int} (hS : tSt (K, I, Q, n)) (hs : I 70 = s) (hR : RInv s) (t1 : 0 ≤ t ∧ t < s 1) : tw_F l G 2 0 0 mR_can [vr (some 69), vi t, vi u, vi g] (K, I, Q, n) (some (vi (if rCanP s t u g then 1 else 0))) (K, I, Q, n) := by
  obtain ⟨h0, h1, h2, h3, h4, h5, h6, hp, hrw, ht, hr, hb, htp, hv⟩ := id hR
  have hw := ht t (by omega) (by omega)
  have b1 := bAnd1 (bShr g (s (84 + t)))
  have b2 := bAnd1 (bShr g (s (84 + s (94 + t))))
  refine tw_intro okR_can (Nat.le_of_ble_eq_true rfl) ?_
  refine ar_aloadn (k := 0) rfl rfl ?_
  refine br_getR (k := 1) rfl (hS.k (by decide)) flR_9_12 (by decide) rfl (hS.r rfl) ?_
  refine ar_bipush (k := 2) rfl (by decide) ?_
  refine ar_iloadn (k := 3) rfl rfl ?_
  refine ar_iadd (k := 4) rfl ?_
  refine br_iads (k := 5) rfl (hS.k (by decide)) (by omega) (by omega) (by decide) hs ?_
  refine ar_istore (k := 6) (l2 := [(4, _), (0, _), (1, _), (2, _), (3, _)]) rfl (by decide) rfl ?_
  refine ar_iload (k := 7) rfl rfl ?_
  refine ar_iloadn (k := 8) rfl rfl ?_
  refine ar_icmp_lt (k := 9) rfl (by omega) (by omega) (fun c9 => ?_) (fun c9 => ?_)
  · refine ar_iconst (k := 26) rfl ?_
    refine ar_zret (k := 27) rfl rfl (by omega) rfl (Nat.le_refl _) ?_
    exact ⟨congrArg (fun z => some (vi z)) (by omega), rfl⟩
  · have w2 := ht (s (94 + t)) (by omega) (by omega)
    refine ar_aloadn (k := 10) rfl rfl ?_
    refine br_getR (k := 11) rfl (hS.k (by decide)) flR_9_12 (by decide) rfl (hS.r rfl) ?_
    refine ar_bipush (k := 12) rfl (by decide) ?_
    refine ar_iloadn (k := 13) rfl rfl ?_
    refine ar_iadd (k := 14) rfl ?_
    refine br_iads (k := 15) rfl (hS.k (by decide)) (by omega) (by omega) (by decide) hs ?_
    refine ar_iconst (k := 16) rfl ?_
    refine ar_icmp_eq (k := 17) rfl (by omega) (by omega) (fun c17 => ?_) (fun c17 => ?_)
    · refine ar_iconst (k := 26) rfl ?_
      refine ar_zret (k := 27) rfl rfl (by omega) rfl (Nat.le_refl _) ?_
      exact ⟨congrArg (fun z => some (vi z)) (by omega), rfl⟩
    · refine ar_aloadn (k := 18) rfl rfl ?_
      refine br_getR (k := 19) rfl (hS.k (by decide)) flR_9_12 (by decide) rfl (hS.r rfl) ?_
      refine ar_bipush (k := 20) rfl (by decide) ?_
      refine ar_iload (k := 21) rfl rfl ?_
      refine ar_iadd (k := 22) rfl ?_
      refine br_iads (k := 23) rfl (hS.k (by decide)) (by omega) (by omega) (by decide) hs ?_
      refine ar_iconst (k := 24) rfl ?_
      refine ar_icmp_ne (k := 25) rfl (by omega) (by omega) (fun c25 => ?_) (fun c25 => ?_)
      · refine ar_aloadn (k := 28) rfl rfl ?_
        refine br_getR (k := 29) rfl (hS.k (by decide)) flR_9_12 (by decide) rfl (hS.r rfl) ?_
        refine ar_bipush (k := 30) rfl (by decide) ?_
        refine ar_iloadn (k := 31) rfl rfl ?_
        refine ar_iadd (k := 32) rfl ?_
        refine br_iads (k := 33) rfl (hS.k (by decide)) (by omega) (by omega) (by decide) hs ?_
        refine ar_istore (k := 34) (l2 := [(5, _), (4, _), (0, _), (1, _), (2, _), (3, _)]) rfl (by decide) rfl ?_
        refine ar_aloadn (k := 35) rfl rfl ?_
        refine br_getR (k := 36) rfl (hS.k (by decide)) flR_9_12 (by decide) rfl (hS.r rfl) ?_
        refine ar_bipush (k := 37) rfl (by decide) ?_
        refine ar_iload (k := 38) rfl rfl ?_
        refine ar_iadd (k := 39) rfl ?_
        refine br_iads (k := 40) rfl (hS.k (by decide)) (by omega) (by omega) (by decide) hs ?_
        refine ar_istore (k := 41) (l2 := [(6, _), (5, _), (4, _), (0, _), (1, _), (2, _), (3, _)]) rfl (by decide) rfl ?_
        refine ar_iload (k := 42) rfl rfl ?_
        refine ar_iload (k := 43) rfl rfl ?_
        refine ar_icmp_eq (k := 44) rfl (by omega) (by omega) (fun c44 => ?_) (fun c44 => ?_)
        · refine ar_iconst (k := 69) rfl ?_
          refine ar_zret (k := 70) rfl rfl (by omega) rfl (Nat.le_refl _) ?_
          exact ⟨congrArg (fun z => some (vi z)) (by omega), rfl⟩
        · refine ar_aloadn (k := 45) rfl rfl ?_
          refine ar_iload (k := 46) rfl rfl ?_
          refine ar_iloadn (k := 47) rfl rfl ?_
          refine br_callV (k := 48) (as := [_, _]) rfl lvR_141 (hS.k (by decide)) rfl (c_R_isFree hS hs hR (by omega)) rfl (by decide) (by decide) tw_m0 (Nat.le_of_ble_eq_true rfl) ?_
          refine ar_if_eq (k := 49) rfl (by omega) (fun c49 => ?_) (fun c49 => ?_)
          · refine ar_iconst (k := 69) rfl ?_
            refine ar_zret (k := 70) rfl rfl (by omega) rfl (Nat.le_refl _) ?_
            exact ⟨congrArg (fun z => some (vi z)) (by omega), rfl⟩
          · refine ar_aloadn (k := 50) rfl rfl ?_
            refine ar_iload (k := 51) rfl rfl ?_
            refine ar_iloadn (k := 52) rfl rfl ?_
            refine br_callV (k := 53) (as := [_, _]) rfl lvR_141 (hS.k (by decide)) rfl (c_R_isFree hS hs hR (by omega)) rfl (by decide) (by decide) tw_m0 (Nat.le_of_ble_eq_true rfl) ?_
            refine ar_if_eq (k := 54) rfl (by omega) (fun c54 => ?_) (fun c54 => ?_)
            · refine ar_iconst (k := 69) rfl ?_
              refine ar_zret (k := 70) rfl rfl (by omega) rfl (Nat.le_refl _) ?_
              exact ⟨congrArg (fun z => some (vi z)) (by omega), rfl⟩
            · refine ar_iloadn (k := 55) rfl rfl ?_
              refine ar_iload (k := 56) rfl rfl ?_
              refine ar_ishr (k := 57) rfl ?_
              refine ar_iconst (k := 58) rfl ?_
              refine ar_iand (k := 59) rfl ?_
              refine ar_if_ne (k := 60) rfl (by omega) (fun c60 => ?_) (fun c60 => ?_)
              · refine ar_iconst (k := 69) rfl ?_
                refine ar_zret (k := 70) rfl rfl (by omega) rfl (Nat.le_refl _) ?_
                exact ⟨congrArg (fun z => some (vi z)) (by omega), rfl⟩
              · refine ar_iloadn (k := 61) rfl rfl ?_
                refine ar_iload (k := 62) rfl rfl ?_
                refine ar_ishr (k := 63) rfl ?_
                refine ar_iconst (k := 64) rfl ?_
                refine ar_iand (k := 65) rfl ?_
                refine ar_if_ne (k := 66) rfl (by omega) (fun c66 => ?_) (fun c66 => ?_)
                · refine ar_iconst (k := 69) rfl ?_
                  refine ar_zret (k := 70) rfl rfl (by omega) rfl (Nat.le_refl _) ?_
                  exact ⟨congrArg (fun z => some (vi z)) (by omega), rfl⟩
                · refine ar_iconst (k := 67) rfl ?_
                  refine ar_goto (k := 68) rfl ?_
                  refine ar_zret (k := 70) rfl rfl (by omega) rfl (Nat.le_refl _) ?_
                  exact ⟨congrArg (fun z => some (vi z)) (by omega), rfl⟩
      · refine ar_iconst (k := 26) rfl ?_
        refine ar_zret (k := 27) rfl rfl (by omega) rfl (Nat.le_refl _) ?_
        exact ⟨congrArg (fun z => some (vi z)) (by omega), rfl⟩
theorem c_R_setsFrom {u : Int} {K : Nat → Nat × Nat} {Q : Nat → Int → Option Nat} {n : Nat} (hR : RInv s) (hV : RVal s) (u1 : 0 ≤ u ∧ u ≤ 23) : ∀ (k t : Nat) (e g w m : Int) (I : Nat → Int → Int), tSt (K, I, Q, n) → I 70 = s → t + k = (s 1).toNat → tr e → (-42000 * (t : Int) ≤ w ∧ w ≤ 42000 * (t : Int)) → (0 ≤ m ∧ m ≤ t) → rMb (I 69 11, I 69 12, I 69 13) → tw_M l G (4 + k) 0 0 mR_setsFrom [vr (some 69), vi (t : Int), vi u, vi e, vi g, vi w, vi m] (K, I, Q, n) (fun r h' => r = none ∧ ∃ J, h' = (K, J, Q, n) ∧ rq I J ∧ (J 69 11, J 69 12, J 69 13) = rSets s u k t e g w m (I 69 11, I 69 12, I 69 13)) := by
  obtain ⟨h0, h1, h2, h3, h4, h5, h6, hp, hrw, ht, hr, hb, htp, hv⟩ := id hR
  intro k
  induction k with
  | zero =>
    intro t e g w m I hS hs hj he hw hm hM
    have hk : rq I I := rq.rf
    have hM1 : -500000 ≤ I 69 11 ∧ I 69 11 ≤ 500000 := hM.1
    have hM2 : tr (I 69 12) := hM.2.1
    have hM3 : 0 ≤ I 69 13 ∧ I 69 13 ≤ 20 := hM.2.2
    refine tw_intro okR_setsFrom (Nat.le_of_ble_eq_true rfl) ?_
    refine ar_iloadn (k := 0) rfl rfl ?_
    refine ar_aloadn (k := 1) rfl rfl ?_
    refine br_getR (k := 2) rfl (hS.k (by decide)) flR_9_12 (by decide) rfl (hS.r rfl) ?_
    refine ar_iconst (k := 3) rfl ?_
    refine br_iads (k := 4) rfl (hS.k (by decide)) (by omega) (by omega) (by decide) hs ?_
    refine ar_icmp_ne (k := 5) rfl (by omega) (by omega) (fun c5 => ?_) (fun c5 => ?_)
    · exfalso; omega
    · refine ar_iload (k := 6) rfl rfl ?_
      refine ar_aloadn (k := 7) rfl rfl ?_
      refine br_getI (k := 8) rfl (hS.k (by decide)) flR_166_12 (by decide) rfl ?_
      refine tw_top (y := I 69 11) rfl ?_
      refine ar_icmp_gt (k := 9) rfl (by omega) (by omega) (fun c9 => ?_) (fun c9 => ?_)
      · refine ar_iconst (k := 18) rfl ?_
        refine ar_goto (k := 19) rfl ?_
        refine ar_istore (k := 21) (l2 := [(7, _), (0, _), (1, _), (2, _), (3, _), (4, _), (5, _), (6, _)]) rfl (by decide) rfl ?_
        refine ar_aloadn (k := 22) rfl rfl ?_
        refine ar_iload (k := 23) rfl rfl ?_
        refine ar_if_eq (k := 24) rfl (by omega) (fun c24 => ?_) (fun c24 => ?_)
        · refine ar_aloadn (k := 27) rfl rfl ?_
          refine br_getI (k := 28) rfl (hS.k (by decide)) flR_166_12 (by decide) rfl ?_
          refine tw_top (y := I 69 11) rfl ?_
          refine br_putIJ (k := 29) rfl (hS.k (by decide)) flR_166_12 (by decide) rfl (fun _ _ _ q => by cases q; exact ⟨rfl, rfl⟩) (fun I29 e29 => ?_)
          change _ = uI _ 69 11 _ at e29
          have hs29 : I29 70 = s := by rw [e29]; exact hs
          have hk29 := rq.f hk (by decide) e29
          refine ar_aloadn (k := 30) rfl rfl ?_
          refine ar_iload (k := 31) rfl rfl ?_
          refine ar_if_eq (k := 32) rfl (by omega) (fun c32 => ?_) (fun c32 => ?_)
          · refine ar_aloadn (k := 35) rfl rfl ?_
            refine br_getI (k := 36) rfl (hS.k (by decide)) flR_169_12 (by decide) rfl ?_
            refine tw_top (y := I 69 12) (by rw [e29, uI_at, if_neg (by decide)]; rfl) ?_
            refine br_putIJ (k := 37) rfl (hS.k (by decide)) flR_169_12 (by decide) rfl (fun _ _ _ q => by cases q; exact ⟨rfl, rfl⟩) (fun I37 e37 => ?_)
            change _ = uI _ 69 12 _ at e37
            have hs37 : I37 70 = s := by rw [e37]; exact hs29
            have hk37 := rq.f hk29 (by decide) e37
            refine ar_aloadn (k := 38) rfl rfl ?_
            refine ar_iload (k := 39) rfl rfl ?_
            refine ar_aloadn (k := 40) rfl rfl ?_
            refine br_getI (k := 41) rfl (hS.k (by decide)) flR_172_12 (by decide) rfl ?_
            refine tw_top (y := I 69 13) (by rw [e37, uI_at, if_neg (by decide), e29, uI_at, if_neg (by decide)]; rfl) ?_
            refine ar_icmp_le (k := 42) rfl (by omega) (by omega) (fun c42 => ?_) (fun c42 => ?_)
            · refine ar_aloadn (k := 45) rfl rfl ?_
              refine br_getI (k := 46) rfl (hS.k (by decide)) flR_172_12 (by decide) rfl ?_
              refine tw_top (y := I 69 13) (by rw [e37, uI_at, if_neg (by decide), e29, uI_at, if_neg (by decide)]; rfl) ?_
              refine br_putIJ (k := 47) rfl (hS.k (by decide)) flR_172_12 (by decide) rfl (fun _ _ _ q => by cases q; exact ⟨rfl, rfl⟩) (fun I47 e47 => ?_)
              change _ = uI _ 69 13 _ at e47
              have hs47 : I47 70 = s := by rw [e47]; exact hs37
              have hk47 := rq.f hk37 (by decide) e47
              refine ar_ret (k := 48) rfl rfl rfl (Nat.le_refl _) ?_
              first
                | (exfalso; omega)
                | (refine ⟨rfl, I47, rfl, hk47, ?_⟩; rw [e47, e37, e29]; simp only [rSets, uI_at, Int.reduceEq, reduceIte, Prod.mk.injEq]; refine ⟨?_, ?_, ?_⟩ <;> omega)
            · refine ar_iload (k := 43) rfl rfl ?_
              refine ar_goto (k := 44) rfl ?_
              refine br_putIJ (k := 47) rfl (hS.k (by decide)) flR_172_12 (by decide) rfl (fun _ _ _ q => by cases q; exact ⟨rfl, rfl⟩) (fun I47 e47 => ?_)
              change _ = uI _ 69 13 _ at e47
              have hs47 : I47 70 = s := by rw [e47]; exact hs37
              have hk47 := rq.f hk37 (by decide) e47
              refine ar_ret (k := 48) rfl rfl rfl (Nat.le_refl _) ?_
              first
                | (exfalso; omega)
                | (refine ⟨rfl, I47, rfl, hk47, ?_⟩; rw [e47, e37, e29]; simp only [rSets, uI_at, Int.reduceEq, reduceIte, Prod.mk.injEq]; refine ⟨?_, ?_, ?_⟩ <;> omega)
          · refine ar_iloadn (k := 33) rfl rfl ?_
            refine ar_goto (k := 34) rfl ?_
            refine br_putIJ (k := 37) rfl (hS.k (by decide)) flR_169_12 (by decide) rfl (fun _ _ _ q => by cases q; exact ⟨rfl, rfl⟩) (fun I37 e37 => ?_)
            change _ = uI _ 69 12 _ at e37
            have hs37 : I37 70 = s := by rw [e37]; exact hs29
            have hk37 := rq.f hk29 (by decide) e37
            refine ar_aloadn (k := 38) rfl rfl ?_
            refine ar_iload (k := 39) rfl rfl ?_
            refine ar_aloadn (k := 40) rfl rfl ?_
            refine br_getI (k := 41) rfl (hS.k (by decide)) flR_172_12 (by decide) rfl ?_
            refine tw_top (y := I 69 13) (by rw [e37, uI_at, if_neg (by decide), e29, uI_at, if_neg (by decide)]; rfl) ?_
            refine ar_icmp_le (k := 42) rfl (by omega) (by omega) (fun c42 => ?_) (fun c42 => ?_)
            · refine ar_aloadn (k := 45) rfl rfl ?_
              refine br_getI (k := 46) rfl (hS.k (by decide)) flR_172_12 (by decide) rfl ?_
              refine tw_top (y := I 69 13) (by rw [e37, uI_at, if_neg (by decide), e29, uI_at, if_neg (by decide)]; rfl) ?_
              refine br_putIJ (k := 47) rfl (hS.k (by decide)) flR_172_12 (by decide) rfl (fun _ _ _ q => by cases q; exact ⟨rfl, rfl⟩) (fun I47 e47 => ?_)
              change _ = uI _ 69 13 _ at e47
              have hs47 : I47 70 = s := by rw [e47]; exact hs37
              have hk47 := rq.f hk37 (by decide) e47
              refine ar_ret (k := 48) rfl rfl rfl (Nat.le_refl _) ?_
              first
                | (exfalso; omega)
                | (refine ⟨rfl, I47, rfl, hk47, ?_⟩; rw [e47, e37, e29]; simp only [rSets, uI_at, Int.reduceEq, reduceIte, Prod.mk.injEq]; refine ⟨?_, ?_, ?_⟩ <;> omega)
            · refine ar_iload (k := 43) rfl rfl ?_
              refine ar_goto (k := 44) rfl ?_
              refine br_putIJ (k := 47) rfl (hS.k (by decide)) flR_172_12 (by decide) rfl (fun _ _ _ q => by cases q; exact ⟨rfl, rfl⟩) (fun I47 e47 => ?_)
              change _ = uI _ 69 13 _ at e47
              have hs47 : I47 70 = s := by rw [e47]; exact hs37
              have hk47 := rq.f hk37 (by decide) e47
              refine ar_ret (k := 48) rfl rfl rfl (Nat.le_refl _) ?_
              first
                | (exfalso; omega)
                | (refine ⟨rfl, I47, rfl, hk47, ?_⟩; rw [e47, e37, e29]; simp only [rSets, uI_at, Int.reduceEq, reduceIte, Prod.mk.injEq]; refine ⟨?_, ?_, ?_⟩ <;> omega)
        · refine ar_iload (k := 25) rfl rfl ?_
          refine ar_goto (k := 26) rfl ?_
          refine br_putIJ (k := 29) rfl (hS.k (by decide)) flR_166_12 (by decide) rfl (fun _ _ _ q => by cases q; exact ⟨rfl, rfl⟩) (fun I29 e29 => ?_)
          change _ = uI _ 69 11 _ at e29
          have hs29 : I29 70 = s := by rw [e29]; exact hs
          have hk29 := rq.f hk (by decide) e29
          refine ar_aloadn (k := 30) rfl rfl ?_
          refine ar_iload (k := 31) rfl rfl ?_
          refine ar_if_eq (k := 32) rfl (by omega) (fun c32 => ?_) (fun c32 => ?_)
          · refine ar_aloadn (k := 35) rfl rfl ?_
            refine br_getI (k := 36) rfl (hS.k (by decide)) flR_169_12 (by decide) rfl ?_
            refine tw_top (y := I 69 12) (by rw [e29, uI_at, if_neg (by decide)]; rfl) ?_
            refine br_putIJ (k := 37) rfl (hS.k (by decide)) flR_169_12 (by decide) rfl (fun _ _ _ q => by cases q; exact ⟨rfl, rfl⟩) (fun I37 e37 => ?_)
            change _ = uI _ 69 12 _ at e37
            have hs37 : I37 70 = s := by rw [e37]; exact hs29
            have hk37 := rq.f hk29 (by decide) e37
            refine ar_aloadn (k := 38) rfl rfl ?_
            refine ar_iload (k := 39) rfl rfl ?_
            refine ar_aloadn (k := 40) rfl rfl ?_
            refine br_getI (k := 41) rfl (hS.k (by decide)) flR_172_12 (by decide) rfl ?_
            refine tw_top (y := I 69 13) (by rw [e37, uI_at, if_neg (by decide), e29, uI_at, if_neg (by decide)]; rfl) ?_
            refine ar_icmp_le (k := 42) rfl (by omega) (by omega) (fun c42 => ?_) (fun c42 => ?_)
            · refine ar_aloadn (k := 45) rfl rfl ?_
              refine br_getI (k := 46) rfl (hS.k (by decide)) flR_172_12 (by decide) rfl ?_
              refine tw_top (y := I 69 13) (by rw [e37, uI_at, if_neg (by decide), e29, uI_at, if_neg (by decide)]; rfl) ?_
              refine br_putIJ (k := 47) rfl (hS.k (by decide)) flR_172_12 (by decide) rfl (fun _ _ _ q => by cases q; exact ⟨rfl, rfl⟩) (fun I47 e47 => ?_)
              change _ = uI _ 69 13 _ at e47
              have hs47 : I47 70 = s := by rw [e47]; exact hs37
              have hk47 := rq.f hk37 (by decide) e47
              refine ar_ret (k := 48) rfl rfl rfl (Nat.le_refl _) ?_
              first
                | (exfalso; omega)
                | (refine ⟨rfl, I47, rfl, hk47, ?_⟩; rw [e47, e37, e29]; simp only [rSets, uI_at, Int.reduceEq, reduceIte, Prod.mk.injEq]; refine ⟨?_, ?_, ?_⟩ <;> omega)
            · refine ar_iload (k := 43) rfl rfl ?_
              refine ar_goto (k := 44) rfl ?_
              refine br_putIJ (k := 47) rfl (hS.k (by decide)) flR_172_12 (by decide) rfl (fun _ _ _ q => by cases q; exact ⟨rfl, rfl⟩) (fun I47 e47 => ?_)
              change _ = uI _ 69 13 _ at e47
              have hs47 : I47 70 = s := by rw [e47]; exact hs37
              have hk47 := rq.f hk37 (by decide) e47
              refine ar_ret (k := 48) rfl rfl rfl (Nat.le_refl _) ?_
              first
                | (exfalso; omega)
                | (refine ⟨rfl, I47, rfl, hk47, ?_⟩; rw [e47, e37, e29]; simp only [rSets, uI_at, Int.reduceEq, reduceIte, Prod.mk.injEq]; refine ⟨?_, ?_, ?_⟩ <;> omega)
          · refine ar_iloadn (k := 33) rfl rfl ?_
            refine ar_goto (k := 34) rfl ?_
            refine br_putIJ (k := 37) rfl (hS.k (by decide)) flR_169_12 (by decide) rfl (fun _ _ _ q => by cases q; exact ⟨rfl, rfl⟩) (fun I37 e37 => ?_)
            change _ = uI _ 69 12 _ at e37
            have hs37 : I37 70 = s := by rw [e37]; exact hs29
            have hk37 := rq.f hk29 (by decide) e37
            refine ar_aloadn (k := 38) rfl rfl ?_
            refine ar_iload (k := 39) rfl rfl ?_
            refine ar_aloadn (k := 40) rfl rfl ?_
            refine br_getI (k := 41) rfl (hS.k (by decide)) flR_172_12 (by decide) rfl ?_
            refine tw_top (y := I 69 13) (by rw [e37, uI_at, if_neg (by decide), e29, uI_at, if_neg (by decide)]; rfl) ?_
            refine ar_icmp_le (k := 42) rfl (by omega) (by omega) (fun c42 => ?_) (fun c42 => ?_)
            · refine ar_aloadn (k := 45) rfl rfl ?_
              refine br_getI (k := 46) rfl (hS.k (by decide)) flR_172_12 (by decide) rfl ?_
              refine tw_top (y := I 69 13) (by rw [e37, uI_at, if_neg (by decide), e29, uI_at, if_neg (by decide)]; rfl) ?_
              refine br_putIJ (k := 47) rfl (hS.k (by decide)) flR_172_12 (by decide) rfl (fun _ _ _ q => by cases q; exact ⟨rfl, rfl⟩) (fun I47 e47 => ?_)
              change _ = uI _ 69 13 _ at e47
              have hs47 : I47 70 = s := by rw [e47]; exact hs37
              have hk47 := rq.f hk37 (by decide) e47
              refine ar_ret (k := 48) rfl rfl rfl (Nat.le_refl _) ?_
              first
                | (exfalso; omega)
                | (refine ⟨rfl, I47, rfl, hk47, ?_⟩; rw [e47, e37, e29]; simp only [rSets, uI_at, Int.reduceEq, reduceIte, Prod.mk.injEq]; refine ⟨?_, ?_, ?_⟩ <;> omega)
            · refine ar_iload (k := 43) rfl rfl ?_
              refine ar_goto (k := 44) rfl ?_
              refine br_putIJ (k := 47) rfl (hS.k (by decide)) flR_172_12 (by decide) rfl (fun _ _ _ q => by cases q; exact ⟨rfl, rfl⟩) (fun I47 e47 => ?_)
              change _ = uI _ 69 13 _ at e47
              have hs47 : I47 70 = s := by rw [e47]; exact hs37
              have hk47 := rq.f hk37 (by decide) e47
              refine ar_ret (k := 48) rfl rfl rfl (Nat.le_refl _) ?_
              first
                | (exfalso; omega)
                | (refine ⟨rfl, I47, rfl, hk47, ?_⟩; rw [e47, e37, e29]; simp only [rSets, uI_at, Int.reduceEq, reduceIte, Prod.mk.injEq]; refine ⟨?_, ?_, ?_⟩ <;> omega)
      · refine ar_iload (k := 10) rfl rfl ?_
        refine ar_aloadn (k := 11) rfl rfl ?_
        refine br_getI (k := 12) rfl (hS.k (by decide)) flR_166_12 (by decide) rfl ?_
        refine tw_top (y := I 69 11) rfl ?_
        refine ar_icmp_ne (k := 13) rfl (by omega) (by omega) (fun c13 => ?_) (fun c13 => ?_)
        · refine ar_iconst (k := 20) rfl ?_
          refine ar_istore (k := 21) (l2 := [(7, _), (0, _), (1, _), (2, _), (3, _), (4, _), (5, _), (6, _)]) rfl (by decide) rfl ?_
          refine ar_aloadn (k := 22) rfl rfl ?_
          refine ar_iload (k := 23) rfl rfl ?_
          refine ar_if_eq (k := 24) rfl (by omega) (fun c24 => ?_) (fun c24 => ?_)
          · refine ar_aloadn (k := 27) rfl rfl ?_
            refine br_getI (k := 28) rfl (hS.k (by decide)) flR_166_12 (by decide) rfl ?_
            refine tw_top (y := I 69 11) rfl ?_
            refine br_putIJ (k := 29) rfl (hS.k (by decide)) flR_166_12 (by decide) rfl (fun _ _ _ q => by cases q; exact ⟨rfl, rfl⟩) (fun I29 e29 => ?_)
            change _ = uI _ 69 11 _ at e29
            have hs29 : I29 70 = s := by rw [e29]; exact hs
            have hk29 := rq.f hk (by decide) e29
            refine ar_aloadn (k := 30) rfl rfl ?_
            refine ar_iload (k := 31) rfl rfl ?_
            refine ar_if_eq (k := 32) rfl (by omega) (fun c32 => ?_) (fun c32 => ?_)
            · refine ar_aloadn (k := 35) rfl rfl ?_
              refine br_getI (k := 36) rfl (hS.k (by decide)) flR_169_12 (by decide) rfl ?_
              refine tw_top (y := I 69 12) (by rw [e29, uI_at, if_neg (by decide)]; rfl) ?_
              refine br_putIJ (k := 37) rfl (hS.k (by decide)) flR_169_12 (by decide) rfl (fun _ _ _ q => by cases q; exact ⟨rfl, rfl⟩) (fun I37 e37 => ?_)
              change _ = uI _ 69 12 _ at e37
              have hs37 : I37 70 = s := by rw [e37]; exact hs29
              have hk37 := rq.f hk29 (by decide) e37
              refine ar_aloadn (k := 38) rfl rfl ?_
              refine ar_iload (k := 39) rfl rfl ?_
              refine ar_aloadn (k := 40) rfl rfl ?_
              refine br_getI (k := 41) rfl (hS.k (by decide)) flR_172_12 (by decide) rfl ?_
              refine tw_top (y := I 69 13) (by rw [e37, uI_at, if_neg (by decide), e29, uI_at, if_neg (by decide)]; rfl) ?_
              refine ar_icmp_le (k := 42) rfl (by omega) (by omega) (fun c42 => ?_) (fun c42 => ?_)
              · refine ar_aloadn (k := 45) rfl rfl ?_
                refine br_getI (k := 46) rfl (hS.k (by decide)) flR_172_12 (by decide) rfl ?_
                refine tw_top (y := I 69 13) (by rw [e37, uI_at, if_neg (by decide), e29, uI_at, if_neg (by decide)]; rfl) ?_
                refine br_putIJ (k := 47) rfl (hS.k (by decide)) flR_172_12 (by decide) rfl (fun _ _ _ q => by cases q; exact ⟨rfl, rfl⟩) (fun I47 e47 => ?_)
                change _ = uI _ 69 13 _ at e47
                have hs47 : I47 70 = s := by rw [e47]; exact hs37
                have hk47 := rq.f hk37 (by decide) e47
                refine ar_ret (k := 48) rfl rfl rfl (Nat.le_refl _) ?_
                first
                  | (exfalso; omega)
                  | (refine ⟨rfl, I47, rfl, hk47, ?_⟩; rw [e47, e37, e29]; simp only [rSets, uI_at, Int.reduceEq, reduceIte, Prod.mk.injEq]; refine ⟨?_, ?_, ?_⟩ <;> omega)
              · refine ar_iload (k := 43) rfl rfl ?_
                refine ar_goto (k := 44) rfl ?_
                refine br_putIJ (k := 47) rfl (hS.k (by decide)) flR_172_12 (by decide) rfl (fun _ _ _ q => by cases q; exact ⟨rfl, rfl⟩) (fun I47 e47 => ?_)
                change _ = uI _ 69 13 _ at e47
                have hs47 : I47 70 = s := by rw [e47]; exact hs37
                have hk47 := rq.f hk37 (by decide) e47
                refine ar_ret (k := 48) rfl rfl rfl (Nat.le_refl _) ?_
                first
                  | (exfalso; omega)
                  | (refine ⟨rfl, I47, rfl, hk47, ?_⟩; rw [e47, e37, e29]; simp only [rSets, uI_at, Int.reduceEq, reduceIte, Prod.mk.injEq]; refine ⟨?_, ?_, ?_⟩ <;> omega)
            · refine ar_iloadn (k := 33) rfl rfl ?_
              refine ar_goto (k := 34) rfl ?_
              refine br_putIJ (k := 37) rfl (hS.k (by decide)) flR_169_12 (by decide) rfl (fun _ _ _ q => by cases q; exact ⟨rfl, rfl⟩) (fun I37 e37 => ?_)
              change _ = uI _ 69 12 _ at e37
              have hs37 : I37 70 = s := by rw [e37]; exact hs29
              have hk37 := rq.f hk29 (by decide) e37
              refine ar_aloadn (k := 38) rfl rfl ?_
              refine ar_iload (k := 39) rfl rfl ?_
              refine ar_aloadn (k := 40) rfl rfl ?_
              refine br_getI (k := 41) rfl (hS.k (by decide)) flR_172_12 (by decide) rfl ?_
              refine tw_top (y := I 69 13) (by rw [e37, uI_at, if_neg (by decide), e29, uI_at, if_neg (by decide)]; rfl) ?_
              refine ar_icmp_le (k := 42) rfl (by omega) (by omega) (fun c42 => ?_) (fun c42 => ?_)
              · refine ar_aloadn (k := 45) rfl rfl ?_
                refine br_getI (k := 46) rfl (hS.k (by decide)) flR_172_12 (by decide) rfl ?_
                refine tw_top (y := I 69 13) (by rw [e37, uI_at, if_neg (by decide), e29, uI_at, if_neg (by decide)]; rfl) ?_
                refine br_putIJ (k := 47) rfl (hS.k (by decide)) flR_172_12 (by decide) rfl (fun _ _ _ q => by cases q; exact ⟨rfl, rfl⟩) (fun I47 e47 => ?_)
                change _ = uI _ 69 13 _ at e47
                have hs47 : I47 70 = s := by rw [e47]; exact hs37
                have hk47 := rq.f hk37 (by decide) e47
                refine ar_ret (k := 48) rfl rfl rfl (Nat.le_refl _) ?_
                first
                  | (exfalso; omega)
                  | (refine ⟨rfl, I47, rfl, hk47, ?_⟩; rw [e47, e37, e29]; simp only [rSets, uI_at, Int.reduceEq, reduceIte, Prod.mk.injEq]; refine ⟨?_, ?_, ?_⟩ <;> omega)
              · refine ar_iload (k := 43) rfl rfl ?_
                refine ar_goto (k := 44) rfl ?_
                refine br_putIJ (k := 47) rfl (hS.k (by decide)) flR_172_12 (by decide) rfl (fun _ _ _ q => by cases q; exact ⟨rfl, rfl⟩) (fun I47 e47 => ?_)
                change _ = uI _ 69 13 _ at e47
                have hs47 : I47 70 = s := by rw [e47]; exact hs37
                have hk47 := rq.f hk37 (by decide) e47
                refine ar_ret (k := 48) rfl rfl rfl (Nat.le_refl _) ?_
                first
                  | (exfalso; omega)
                  | (refine ⟨rfl, I47, rfl, hk47, ?_⟩; rw [e47, e37, e29]; simp only [rSets, uI_at, Int.reduceEq, reduceIte, Prod.mk.injEq]; refine ⟨?_, ?_, ?_⟩ <;> omega)
          · refine ar_iload (k := 25) rfl rfl ?_
            refine ar_goto (k := 26) rfl ?_
            refine br_putIJ (k := 29) rfl (hS.k (by decide)) flR_166_12 (by decide) rfl (fun _ _ _ q => by cases q; exact ⟨rfl, rfl⟩) (fun I29 e29 => ?_)
            change _ = uI _ 69 11 _ at e29
            have hs29 : I29 70 = s := by rw [e29]; exact hs
            have hk29 := rq.f hk (by decide) e29
            refine ar_aloadn (k := 30) rfl rfl ?_
            refine ar_iload (k := 31) rfl rfl ?_
            refine ar_if_eq (k := 32) rfl (by omega) (fun c32 => ?_) (fun c32 => ?_)
            · refine ar_aloadn (k := 35) rfl rfl ?_
              refine br_getI (k := 36) rfl (hS.k (by decide)) flR_169_12 (by decide) rfl ?_
              refine tw_top (y := I 69 12) (by rw [e29, uI_at, if_neg (by decide)]; rfl) ?_
              refine br_putIJ (k := 37) rfl (hS.k (by decide)) flR_169_12 (by decide) rfl (fun _ _ _ q => by cases q; exact ⟨rfl, rfl⟩) (fun I37 e37 => ?_)
              change _ = uI _ 69 12 _ at e37
              have hs37 : I37 70 = s := by rw [e37]; exact hs29
              have hk37 := rq.f hk29 (by decide) e37
              refine ar_aloadn (k := 38) rfl rfl ?_
              refine ar_iload (k := 39) rfl rfl ?_
              refine ar_aloadn (k := 40) rfl rfl ?_
              refine br_getI (k := 41) rfl (hS.k (by decide)) flR_172_12 (by decide) rfl ?_
              refine tw_top (y := I 69 13) (by rw [e37, uI_at, if_neg (by decide), e29, uI_at, if_neg (by decide)]; rfl) ?_
              refine ar_icmp_le (k := 42) rfl (by omega) (by omega) (fun c42 => ?_) (fun c42 => ?_)
              · refine ar_aloadn (k := 45) rfl rfl ?_
                refine br_getI (k := 46) rfl (hS.k (by decide)) flR_172_12 (by decide) rfl ?_
                refine tw_top (y := I 69 13) (by rw [e37, uI_at, if_neg (by decide), e29, uI_at, if_neg (by decide)]; rfl) ?_
                refine br_putIJ (k := 47) rfl (hS.k (by decide)) flR_172_12 (by decide) rfl (fun _ _ _ q => by cases q; exact ⟨rfl, rfl⟩) (fun I47 e47 => ?_)
                change _ = uI _ 69 13 _ at e47
                have hs47 : I47 70 = s := by rw [e47]; exact hs37
                have hk47 := rq.f hk37 (by decide) e47
                refine ar_ret (k := 48) rfl rfl rfl (Nat.le_refl _) ?_
                first
                  | (exfalso; omega)
                  | (refine ⟨rfl, I47, rfl, hk47, ?_⟩; rw [e47, e37, e29]; simp only [rSets, uI_at, Int.reduceEq, reduceIte, Prod.mk.injEq]; refine ⟨?_, ?_, ?_⟩ <;> omega)
              · refine ar_iload (k := 43) rfl rfl ?_
                refine ar_goto (k := 44) rfl ?_
                refine br_putIJ (k := 47) rfl (hS.k (by decide)) flR_172_12 (by decide) rfl (fun _ _ _ q => by cases q; exact ⟨rfl, rfl⟩) (fun I47 e47 => ?_)
                change _ = uI _ 69 13 _ at e47
                have hs47 : I47 70 = s := by rw [e47]; exact hs37
                have hk47 := rq.f hk37 (by decide) e47
                refine ar_ret (k := 48) rfl rfl rfl (Nat.le_refl _) ?_
                first
                  | (exfalso; omega)
                  | (refine ⟨rfl, I47, rfl, hk47, ?_⟩; rw [e47, e37, e29]; simp only [rSets, uI_at, Int.reduceEq, reduceIte, Prod.mk.injEq]; refine ⟨?_, ?_, ?_⟩ <;> omega)
            · refine ar_iloadn (k := 33) rfl rfl ?_
              refine ar_goto (k := 34) rfl ?_
              refine br_putIJ (k := 37) rfl (hS.k (by decide)) flR_169_12 (by decide) rfl (fun _ _ _ q => by cases q; exact ⟨rfl, rfl⟩) (fun I37 e37 => ?_)
              change _ = uI _ 69 12 _ at e37
              have hs37 : I37 70 = s := by rw [e37]; exact hs29
              have hk37 := rq.f hk29 (by decide) e37
              refine ar_aloadn (k := 38) rfl rfl ?_
              refine ar_iload (k := 39) rfl rfl ?_
              refine ar_aloadn (k := 40) rfl rfl ?_
              refine br_getI (k := 41) rfl (hS.k (by decide)) flR_172_12 (by decide) rfl ?_
              refine tw_top (y := I 69 13) (by rw [e37, uI_at, if_neg (by decide), e29, uI_at, if_neg (by decide)]; rfl) ?_
              refine ar_icmp_le (k := 42) rfl (by omega) (by omega) (fun c42 => ?_) (fun c42 => ?_)
              · refine ar_aloadn (k := 45) rfl rfl ?_
                refine br_getI (k := 46) rfl (hS.k (by decide)) flR_172_12 (by decide) rfl ?_
                refine tw_top (y := I 69 13) (by rw [e37, uI_at, if_neg (by decide), e29, uI_at, if_neg (by decide)]; rfl) ?_
                refine br_putIJ (k := 47) rfl (hS.k (by decide)) flR_172_12 (by decide) rfl (fun _ _ _ q => by cases q; exact ⟨rfl, rfl⟩) (fun I47 e47 => ?_)
                change _ = uI _ 69 13 _ at e47
                have hs47 : I47 70 = s := by rw [e47]; exact hs37
                have hk47 := rq.f hk37 (by decide) e47
                refine ar_ret (k := 48) rfl rfl rfl (Nat.le_refl _) ?_
                first
                  | (exfalso; omega)
                  | (refine ⟨rfl, I47, rfl, hk47, ?_⟩; rw [e47, e37, e29]; simp only [rSets, uI_at, Int.reduceEq, reduceIte, Prod.mk.injEq]; refine ⟨?_, ?_, ?_⟩ <;> omega)
              · refine ar_iload (k := 43) rfl rfl ?_
                refine ar_goto (k := 44) rfl ?_
                refine br_putIJ (k := 47) rfl (hS.k (by decide)) flR_172_12 (by decide) rfl (fun _ _ _ q => by cases q; exact ⟨rfl, rfl⟩) (fun I47 e47 => ?_)
                change _ = uI _ 69 13 _ at e47
                have hs47 : I47 70 = s := by rw [e47]; exact hs37
                have hk47 := rq.f hk37 (by decide) e47
                refine ar_ret (k := 48) rfl rfl rfl (Nat.le_refl _) ?_
                first
                  | (exfalso; omega)
                  | (refine ⟨rfl, I47, rfl, hk47, ?_⟩; rw [e47, e37, e29]; simp only [rSets, uI_at, Int.reduceEq, reduceIte, Prod.mk.injEq]; refine ⟨?_, ?_, ?_⟩ <;> omega)
        · refine ar_iloadn (k := 14) rfl rfl ?_
          refine ar_aloadn (k := 15) rfl rfl ?_
          refine br_getI (k := 16) rfl (hS.k (by decide)) flR_169_12 (by decide) rfl ?_
          refine tw_top (y := I 69 12) rfl ?_
          refine ar_icmp_ge (k := 17) rfl (by omega) (by omega) (fun c17 => ?_) (fun c17 => ?_)
          · refine ar_iconst (k := 20) rfl ?_
            refine ar_istore (k := 21) (l2 := [(7, _), (0, _), (1, _), (2, _), (3, _), (4, _), (5, _), (6, _)]) rfl (by decide) rfl ?_
            refine ar_aloadn (k := 22) rfl rfl ?_
            refine ar_iload (k := 23) rfl rfl ?_
            refine ar_if_eq (k := 24) rfl (by omega) (fun c24 => ?_) (fun c24 => ?_)
            · refine ar_aloadn (k := 27) rfl rfl ?_
              refine br_getI (k := 28) rfl (hS.k (by decide)) flR_166_12 (by decide) rfl ?_
              refine tw_top (y := I 69 11) rfl ?_
              refine br_putIJ (k := 29) rfl (hS.k (by decide)) flR_166_12 (by decide) rfl (fun _ _ _ q => by cases q; exact ⟨rfl, rfl⟩) (fun I29 e29 => ?_)
              change _ = uI _ 69 11 _ at e29
              have hs29 : I29 70 = s := by rw [e29]; exact hs
              have hk29 := rq.f hk (by decide) e29
              refine ar_aloadn (k := 30) rfl rfl ?_
              refine ar_iload (k := 31) rfl rfl ?_
              refine ar_if_eq (k := 32) rfl (by omega) (fun c32 => ?_) (fun c32 => ?_)
              · refine ar_aloadn (k := 35) rfl rfl ?_
                refine br_getI (k := 36) rfl (hS.k (by decide)) flR_169_12 (by decide) rfl ?_
                refine tw_top (y := I 69 12) (by rw [e29, uI_at, if_neg (by decide)]; rfl) ?_
                refine br_putIJ (k := 37) rfl (hS.k (by decide)) flR_169_12 (by decide) rfl (fun _ _ _ q => by cases q; exact ⟨rfl, rfl⟩) (fun I37 e37 => ?_)
                change _ = uI _ 69 12 _ at e37
                have hs37 : I37 70 = s := by rw [e37]; exact hs29
                have hk37 := rq.f hk29 (by decide) e37
                refine ar_aloadn (k := 38) rfl rfl ?_
                refine ar_iload (k := 39) rfl rfl ?_
                refine ar_aloadn (k := 40) rfl rfl ?_
                refine br_getI (k := 41) rfl (hS.k (by decide)) flR_172_12 (by decide) rfl ?_
                refine tw_top (y := I 69 13) (by rw [e37, uI_at, if_neg (by decide), e29, uI_at, if_neg (by decide)]; rfl) ?_
                refine ar_icmp_le (k := 42) rfl (by omega) (by omega) (fun c42 => ?_) (fun c42 => ?_)
                · refine ar_aloadn (k := 45) rfl rfl ?_
                  refine br_getI (k := 46) rfl (hS.k (by decide)) flR_172_12 (by decide) rfl ?_
                  refine tw_top (y := I 69 13) (by rw [e37, uI_at, if_neg (by decide), e29, uI_at, if_neg (by decide)]; rfl) ?_
                  refine br_putIJ (k := 47) rfl (hS.k (by decide)) flR_172_12 (by decide) rfl (fun _ _ _ q => by cases q; exact ⟨rfl, rfl⟩) (fun I47 e47 => ?_)
                  change _ = uI _ 69 13 _ at e47
                  have hs47 : I47 70 = s := by rw [e47]; exact hs37
                  have hk47 := rq.f hk37 (by decide) e47
                  refine ar_ret (k := 48) rfl rfl rfl (Nat.le_refl _) ?_
                  first
                    | (exfalso; omega)
                    | (refine ⟨rfl, I47, rfl, hk47, ?_⟩; rw [e47, e37, e29]; simp only [rSets, uI_at, Int.reduceEq, reduceIte, Prod.mk.injEq]; refine ⟨?_, ?_, ?_⟩ <;> omega)
                · refine ar_iload (k := 43) rfl rfl ?_
                  refine ar_goto (k := 44) rfl ?_
                  refine br_putIJ (k := 47) rfl (hS.k (by decide)) flR_172_12 (by decide) rfl (fun _ _ _ q => by cases q; exact ⟨rfl, rfl⟩) (fun I47 e47 => ?_)
                  change _ = uI _ 69 13 _ at e47
                  have hs47 : I47 70 = s := by rw [e47]; exact hs37
                  have hk47 := rq.f hk37 (by decide) e47
                  refine ar_ret (k := 48) rfl rfl rfl (Nat.le_refl _) ?_
                  first
                    | (exfalso; omega)
                    | (refine ⟨rfl, I47, rfl, hk47, ?_⟩; rw [e47, e37, e29]; simp only [rSets, uI_at, Int.reduceEq, reduceIte, Prod.mk.injEq]; refine ⟨?_, ?_, ?_⟩ <;> omega)
              · refine ar_iloadn (k := 33) rfl rfl ?_
                refine ar_goto (k := 34) rfl ?_
                refine br_putIJ (k := 37) rfl (hS.k (by decide)) flR_169_12 (by decide) rfl (fun _ _ _ q => by cases q; exact ⟨rfl, rfl⟩) (fun I37 e37 => ?_)
                change _ = uI _ 69 12 _ at e37
                have hs37 : I37 70 = s := by rw [e37]; exact hs29
                have hk37 := rq.f hk29 (by decide) e37
                refine ar_aloadn (k := 38) rfl rfl ?_
                refine ar_iload (k := 39) rfl rfl ?_
                refine ar_aloadn (k := 40) rfl rfl ?_
                refine br_getI (k := 41) rfl (hS.k (by decide)) flR_172_12 (by decide) rfl ?_
                refine tw_top (y := I 69 13) (by rw [e37, uI_at, if_neg (by decide), e29, uI_at, if_neg (by decide)]; rfl) ?_
                refine ar_icmp_le (k := 42) rfl (by omega) (by omega) (fun c42 => ?_) (fun c42 => ?_)
                · refine ar_aloadn (k := 45) rfl rfl ?_
                  refine br_getI (k := 46) rfl (hS.k (by decide)) flR_172_12 (by decide) rfl ?_
                  refine tw_top (y := I 69 13) (by rw [e37, uI_at, if_neg (by decide), e29, uI_at, if_neg (by decide)]; rfl) ?_
                  refine br_putIJ (k := 47) rfl (hS.k (by decide)) flR_172_12 (by decide) rfl (fun _ _ _ q => by cases q; exact ⟨rfl, rfl⟩) (fun I47 e47 => ?_)
                  change _ = uI _ 69 13 _ at e47
                  have hs47 : I47 70 = s := by rw [e47]; exact hs37
                  have hk47 := rq.f hk37 (by decide) e47
                  refine ar_ret (k := 48) rfl rfl rfl (Nat.le_refl _) ?_
                  first
                    | (exfalso; omega)
                    | (refine ⟨rfl, I47, rfl, hk47, ?_⟩; rw [e47, e37, e29]; simp only [rSets, uI_at, Int.reduceEq, reduceIte, Prod.mk.injEq]; refine ⟨?_, ?_, ?_⟩ <;> omega)
                · refine ar_iload (k := 43) rfl rfl ?_
                  refine ar_goto (k := 44) rfl ?_
                  refine br_putIJ (k := 47) rfl (hS.k (by decide)) flR_172_12 (by decide) rfl (fun _ _ _ q => by cases q; exact ⟨rfl, rfl⟩) (fun I47 e47 => ?_)
                  change _ = uI _ 69 13 _ at e47
                  have hs47 : I47 70 = s := by rw [e47]; exact hs37
                  have hk47 := rq.f hk37 (by decide) e47
                  refine ar_ret (k := 48) rfl rfl rfl (Nat.le_refl _) ?_
                  first
                    | (exfalso; omega)
                    | (refine ⟨rfl, I47, rfl, hk47, ?_⟩; rw [e47, e37, e29]; simp only [rSets, uI_at, Int.reduceEq, reduceIte, Prod.mk.injEq]; refine ⟨?_, ?_, ?_⟩ <;> omega)
            · refine ar_iload (k := 25) rfl rfl ?_
              refine ar_goto (k := 26) rfl ?_
              refine br_putIJ (k := 29) rfl (hS.k (by decide)) flR_166_12 (by decide) rfl (fun _ _ _ q => by cases q; exact ⟨rfl, rfl⟩) (fun I29 e29 => ?_)
              change _ = uI _ 69 11 _ at e29
              have hs29 : I29 70 = s := by rw [e29]; exact hs
              have hk29 := rq.f hk (by decide) e29
              refine ar_aloadn (k := 30) rfl rfl ?_
              refine ar_iload (k := 31) rfl rfl ?_
              refine ar_if_eq (k := 32) rfl (by omega) (fun c32 => ?_) (fun c32 => ?_)
              · refine ar_aloadn (k := 35) rfl rfl ?_
                refine br_getI (k := 36) rfl (hS.k (by decide)) flR_169_12 (by decide) rfl ?_
                refine tw_top (y := I 69 12) (by rw [e29, uI_at, if_neg (by decide)]; rfl) ?_
                refine br_putIJ (k := 37) rfl (hS.k (by decide)) flR_169_12 (by decide) rfl (fun _ _ _ q => by cases q; exact ⟨rfl, rfl⟩) (fun I37 e37 => ?_)
                change _ = uI _ 69 12 _ at e37
                have hs37 : I37 70 = s := by rw [e37]; exact hs29
                have hk37 := rq.f hk29 (by decide) e37
                refine ar_aloadn (k := 38) rfl rfl ?_
                refine ar_iload (k := 39) rfl rfl ?_
                refine ar_aloadn (k := 40) rfl rfl ?_
                refine br_getI (k := 41) rfl (hS.k (by decide)) flR_172_12 (by decide) rfl ?_
                refine tw_top (y := I 69 13) (by rw [e37, uI_at, if_neg (by decide), e29, uI_at, if_neg (by decide)]; rfl) ?_
                refine ar_icmp_le (k := 42) rfl (by omega) (by omega) (fun c42 => ?_) (fun c42 => ?_)
                · refine ar_aloadn (k := 45) rfl rfl ?_
                  refine br_getI (k := 46) rfl (hS.k (by decide)) flR_172_12 (by decide) rfl ?_
                  refine tw_top (y := I 69 13) (by rw [e37, uI_at, if_neg (by decide), e29, uI_at, if_neg (by decide)]; rfl) ?_
                  refine br_putIJ (k := 47) rfl (hS.k (by decide)) flR_172_12 (by decide) rfl (fun _ _ _ q => by cases q; exact ⟨rfl, rfl⟩) (fun I47 e47 => ?_)
                  change _ = uI _ 69 13 _ at e47
                  have hs47 : I47 70 = s := by rw [e47]; exact hs37
                  have hk47 := rq.f hk37 (by decide) e47
                  refine ar_ret (k := 48) rfl rfl rfl (Nat.le_refl _) ?_
                  first
                    | (exfalso; omega)
                    | (refine ⟨rfl, I47, rfl, hk47, ?_⟩; rw [e47, e37, e29]; simp only [rSets, uI_at, Int.reduceEq, reduceIte, Prod.mk.injEq]; refine ⟨?_, ?_, ?_⟩ <;> omega)
                · refine ar_iload (k := 43) rfl rfl ?_
                  refine ar_goto (k := 44) rfl ?_
                  refine br_putIJ (k := 47) rfl (hS.k (by decide)) flR_172_12 (by decide) rfl (fun _ _ _ q => by cases q; exact ⟨rfl, rfl⟩) (fun I47 e47 => ?_)
                  change _ = uI _ 69 13 _ at e47
                  have hs47 : I47 70 = s := by rw [e47]; exact hs37
                  have hk47 := rq.f hk37 (by decide) e47
                  refine ar_ret (k := 48) rfl rfl rfl (Nat.le_refl _) ?_
                  first
                    | (exfalso; omega)
                    | (refine ⟨rfl, I47, rfl, hk47, ?_⟩; rw [e47, e37, e29]; simp only [rSets, uI_at, Int.reduceEq, reduceIte, Prod.mk.injEq]; refine ⟨?_, ?_, ?_⟩ <;> omega)
              · refine ar_iloadn (k := 33) rfl rfl ?_
                refine ar_goto (k := 34) rfl ?_
                refine br_putIJ (k := 37) rfl (hS.k (by decide)) flR_169_12 (by decide) rfl (fun _ _ _ q => by cases q; exact ⟨rfl, rfl⟩) (fun I37 e37 => ?_)
                change _ = uI _ 69 12 _ at e37
                have hs37 : I37 70 = s := by rw [e37]; exact hs29
                have hk37 := rq.f hk29 (by decide) e37
                refine ar_aloadn (k := 38) rfl rfl ?_
                refine ar_iload (k := 39) rfl rfl ?_
                refine ar_aloadn (k := 40) rfl rfl ?_
                refine br_getI (k := 41) rfl (hS.k (by decide)) flR_172_12 (by decide) rfl ?_
                refine tw_top (y := I 69 13) (by rw [e37, uI_at, if_neg (by decide), e29, uI_at, if_neg (by decide)]; rfl) ?_
                refine ar_icmp_le (k := 42) rfl (by omega) (by omega) (fun c42 => ?_) (fun c42 => ?_)
                · refine ar_aloadn (k := 45) rfl rfl ?_
                  refine br_getI (k := 46) rfl (hS.k (by decide)) flR_172_12 (by decide) rfl ?_
                  refine tw_top (y := I 69 13) (by rw [e37, uI_at, if_neg (by decide), e29, uI_at, if_neg (by decide)]; rfl) ?_
                  refine br_putIJ (k := 47) rfl (hS.k (by decide)) flR_172_12 (by decide) rfl (fun _ _ _ q => by cases q; exact ⟨rfl, rfl⟩) (fun I47 e47 => ?_)
                  change _ = uI _ 69 13 _ at e47
                  have hs47 : I47 70 = s := by rw [e47]; exact hs37
                  have hk47 := rq.f hk37 (by decide) e47
                  refine ar_ret (k := 48) rfl rfl rfl (Nat.le_refl _) ?_
                  first
                    | (exfalso; omega)
                    | (refine ⟨rfl, I47, rfl, hk47, ?_⟩; rw [e47, e37, e29]; simp only [rSets, uI_at, Int.reduceEq, reduceIte, Prod.mk.injEq]; refine ⟨?_, ?_, ?_⟩ <;> omega)
                · refine ar_iload (k := 43) rfl rfl ?_
                  refine ar_goto (k := 44) rfl ?_
                  refine br_putIJ (k := 47) rfl (hS.k (by decide)) flR_172_12 (by decide) rfl (fun _ _ _ q => by cases q; exact ⟨rfl, rfl⟩) (fun I47 e47 => ?_)
                  change _ = uI _ 69 13 _ at e47
                  have hs47 : I47 70 = s := by rw [e47]; exact hs37
                  have hk47 := rq.f hk37 (by decide) e47
                  refine ar_ret (k := 48) rfl rfl rfl (Nat.le_refl _) ?_
                  first
                    | (exfalso; omega)
                    | (refine ⟨rfl, I47, rfl, hk47, ?_⟩; rw [e47, e37, e29]; simp only [rSets, uI_at, Int.reduceEq, reduceIte, Prod.mk.injEq]; refine ⟨?_, ?_, ?_⟩ <;> omega)
          · refine ar_iconst (k := 18) rfl ?_
            refine ar_goto (k := 19) rfl ?_
            refine ar_istore (k := 21) (l2 := [(7, _), (0, _), (1, _), (2, _), (3, _), (4, _), (5, _), (6, _)]) rfl (by decide) rfl ?_
            refine ar_aloadn (k := 22) rfl rfl ?_
            refine ar_iload (k := 23) rfl rfl ?_
            refine ar_if_eq (k := 24) rfl (by omega) (fun c24 => ?_) (fun c24 => ?_)
            · refine ar_aloadn (k := 27) rfl rfl ?_
              refine br_getI (k := 28) rfl (hS.k (by decide)) flR_166_12 (by decide) rfl ?_
              refine tw_top (y := I 69 11) rfl ?_
              refine br_putIJ (k := 29) rfl (hS.k (by decide)) flR_166_12 (by decide) rfl (fun _ _ _ q => by cases q; exact ⟨rfl, rfl⟩) (fun I29 e29 => ?_)
              change _ = uI _ 69 11 _ at e29
              have hs29 : I29 70 = s := by rw [e29]; exact hs
              have hk29 := rq.f hk (by decide) e29
              refine ar_aloadn (k := 30) rfl rfl ?_
              refine ar_iload (k := 31) rfl rfl ?_
              refine ar_if_eq (k := 32) rfl (by omega) (fun c32 => ?_) (fun c32 => ?_)
              · refine ar_aloadn (k := 35) rfl rfl ?_
                refine br_getI (k := 36) rfl (hS.k (by decide)) flR_169_12 (by decide) rfl ?_
                refine tw_top (y := I 69 12) (by rw [e29, uI_at, if_neg (by decide)]; rfl) ?_
                refine br_putIJ (k := 37) rfl (hS.k (by decide)) flR_169_12 (by decide) rfl (fun _ _ _ q => by cases q; exact ⟨rfl, rfl⟩) (fun I37 e37 => ?_)
                change _ = uI _ 69 12 _ at e37
                have hs37 : I37 70 = s := by rw [e37]; exact hs29
                have hk37 := rq.f hk29 (by decide) e37
                refine ar_aloadn (k := 38) rfl rfl ?_
                refine ar_iload (k := 39) rfl rfl ?_
                refine ar_aloadn (k := 40) rfl rfl ?_
                refine br_getI (k := 41) rfl (hS.k (by decide)) flR_172_12 (by decide) rfl ?_
                refine tw_top (y := I 69 13) (by rw [e37, uI_at, if_neg (by decide), e29, uI_at, if_neg (by decide)]; rfl) ?_
                refine ar_icmp_le (k := 42) rfl (by omega) (by omega) (fun c42 => ?_) (fun c42 => ?_)
                · refine ar_aloadn (k := 45) rfl rfl ?_
                  refine br_getI (k := 46) rfl (hS.k (by decide)) flR_172_12 (by decide) rfl ?_
                  refine tw_top (y := I 69 13) (by rw [e37, uI_at, if_neg (by decide), e29, uI_at, if_neg (by decide)]; rfl) ?_
                  refine br_putIJ (k := 47) rfl (hS.k (by decide)) flR_172_12 (by decide) rfl (fun _ _ _ q => by cases q; exact ⟨rfl, rfl⟩) (fun I47 e47 => ?_)
                  change _ = uI _ 69 13 _ at e47
                  have hs47 : I47 70 = s := by rw [e47]; exact hs37
                  have hk47 := rq.f hk37 (by decide) e47
                  refine ar_ret (k := 48) rfl rfl rfl (Nat.le_refl _) ?_
                  first
                    | (exfalso; omega)
                    | (refine ⟨rfl, I47, rfl, hk47, ?_⟩; rw [e47, e37, e29]; simp only [rSets, uI_at, Int.reduceEq, reduceIte, Prod.mk.injEq]; refine ⟨?_, ?_, ?_⟩ <;> omega)
                · refine ar_iload (k := 43) rfl rfl ?_
                  refine ar_goto (k := 44) rfl ?_
                  refine br_putIJ (k := 47) rfl (hS.k (by decide)) flR_172_12 (by decide) rfl (fun _ _ _ q => by cases q; exact ⟨rfl, rfl⟩) (fun I47 e47 => ?_)
                  change _ = uI _ 69 13 _ at e47
                  have hs47 : I47 70 = s := by rw [e47]; exact hs37
                  have hk47 := rq.f hk37 (by decide) e47
                  refine ar_ret (k := 48) rfl rfl rfl (Nat.le_refl _) ?_
                  first
                    | (exfalso; omega)
                    | (refine ⟨rfl, I47, rfl, hk47, ?_⟩; rw [e47, e37, e29]; simp only [rSets, uI_at, Int.reduceEq, reduceIte, Prod.mk.injEq]; refine ⟨?_, ?_, ?_⟩ <;> omega)
              · refine ar_iloadn (k := 33) rfl rfl ?_
                refine ar_goto (k := 34) rfl ?_
                refine br_putIJ (k := 37) rfl (hS.k (by decide)) flR_169_12 (by decide) rfl (fun _ _ _ q => by cases q; exact ⟨rfl, rfl⟩) (fun I37 e37 => ?_)
                change _ = uI _ 69 12 _ at e37
                have hs37 : I37 70 = s := by rw [e37]; exact hs29
                have hk37 := rq.f hk29 (by decide) e37
                refine ar_aloadn (k := 38) rfl rfl ?_
                refine ar_iload (k := 39) rfl rfl ?_
                refine ar_aloadn (k := 40) rfl rfl ?_
                refine br_getI (k := 41) rfl (hS.k (by decide)) flR_172_12 (by decide) rfl ?_
                refine tw_top (y := I 69 13) (by rw [e37, uI_at, if_neg (by decide), e29, uI_at, if_neg (by decide)]; rfl) ?_
                refine ar_icmp_le (k := 42) rfl (by omega) (by omega) (fun c42 => ?_) (fun c42 => ?_)
                · refine ar_aloadn (k := 45) rfl rfl ?_
                  refine br_getI (k := 46) rfl (hS.k (by decide)) flR_172_12 (by decide) rfl ?_
                  refine tw_top (y := I 69 13) (by rw [e37, uI_at, if_neg (by decide), e29, uI_at, if_neg (by decide)]; rfl) ?_
                  refine br_putIJ (k := 47) rfl (hS.k (by decide)) flR_172_12 (by decide) rfl (fun _ _ _ q => by cases q; exact ⟨rfl, rfl⟩) (fun I47 e47 => ?_)
                  change _ = uI _ 69 13 _ at e47
                  have hs47 : I47 70 = s := by rw [e47]; exact hs37
                  have hk47 := rq.f hk37 (by decide) e47
                  refine ar_ret (k := 48) rfl rfl rfl (Nat.le_refl _) ?_
                  first
                    | (exfalso; omega)
                    | (refine ⟨rfl, I47, rfl, hk47, ?_⟩; rw [e47, e37, e29]; simp only [rSets, uI_at, Int.reduceEq, reduceIte, Prod.mk.injEq]; refine ⟨?_, ?_, ?_⟩ <;> omega)
                · refine ar_iload (k := 43) rfl rfl ?_
                  refine ar_goto (k := 44) rfl ?_
                  refine br_putIJ (k := 47) rfl (hS.k (by decide)) flR_172_12 (by decide) rfl (fun _ _ _ q => by cases q; exact ⟨rfl, rfl⟩) (fun I47 e47 => ?_)
                  change _ = uI _ 69 13 _ at e47
                  have hs47 : I47 70 = s := by rw [e47]; exact hs37
                  have hk47 := rq.f hk37 (by decide) e47
                  refine ar_ret (k := 48) rfl rfl rfl (Nat.le_refl _) ?_
                  first
                    | (exfalso; omega)
                    | (refine ⟨rfl, I47, rfl, hk47, ?_⟩; rw [e47, e37, e29]; simp only [rSets, uI_at, Int.reduceEq, reduceIte, Prod.mk.injEq]; refine ⟨?_, ?_, ?_⟩ <;> omega)
            · refine ar_iload (k := 25) rfl rfl ?_
              refine ar_goto (k := 26) rfl ?_
              refine br_putIJ (k := 29) rfl (hS.k (by decide)) flR_166_12 (by decide) rfl (fun _ _ _ q => by cases q; exact ⟨rfl, rfl⟩) (fun I29 e29 => ?_)
              change _ = uI _ 69 11 _ at e29
              have hs29 : I29 70 = s := by rw [e29]; exact hs
              have hk29 := rq.f hk (by decide) e29
              refine ar_aloadn (k := 30) rfl rfl ?_
              refine ar_iload (k := 31) rfl rfl ?_
              refine ar_if_eq (k := 32) rfl (by omega) (fun c32 => ?_) (fun c32 => ?_)
              · refine ar_aloadn (k := 35) rfl rfl ?_
                refine br_getI (k := 36) rfl (hS.k (by decide)) flR_169_12 (by decide) rfl ?_
                refine tw_top (y := I 69 12) (by rw [e29, uI_at, if_neg (by decide)]; rfl) ?_
                refine br_putIJ (k := 37) rfl (hS.k (by decide)) flR_169_12 (by decide) rfl (fun _ _ _ q => by cases q; exact ⟨rfl, rfl⟩) (fun I37 e37 => ?_)
                change _ = uI _ 69 12 _ at e37
                have hs37 : I37 70 = s := by rw [e37]; exact hs29
                have hk37 := rq.f hk29 (by decide) e37
                refine ar_aloadn (k := 38) rfl rfl ?_
                refine ar_iload (k := 39) rfl rfl ?_
                refine ar_aloadn (k := 40) rfl rfl ?_
                refine br_getI (k := 41) rfl (hS.k (by decide)) flR_172_12 (by decide) rfl ?_
                refine tw_top (y := I 69 13) (by rw [e37, uI_at, if_neg (by decide), e29, uI_at, if_neg (by decide)]; rfl) ?_
                refine ar_icmp_le (k := 42) rfl (by omega) (by omega) (fun c42 => ?_) (fun c42 => ?_)
                · refine ar_aloadn (k := 45) rfl rfl ?_
                  refine br_getI (k := 46) rfl (hS.k (by decide)) flR_172_12 (by decide) rfl ?_
                  refine tw_top (y := I 69 13) (by rw [e37, uI_at, if_neg (by decide), e29, uI_at, if_neg (by decide)]; rfl) ?_
                  refine br_putIJ (k := 47) rfl (hS.k (by decide)) flR_172_12 (by decide) rfl (fun _ _ _ q => by cases q; exact ⟨rfl, rfl⟩) (fun I47 e47 => ?_)
                  change _ = uI _ 69 13 _ at e47
                  have hs47 : I47 70 = s := by rw [e47]; exact hs37
                  have hk47 := rq.f hk37 (by decide) e47
                  refine ar_ret (k := 48) rfl rfl rfl (Nat.le_refl _) ?_
                  first
                    | (exfalso; omega)
                    | (refine ⟨rfl, I47, rfl, hk47, ?_⟩; rw [e47, e37, e29]; simp only [rSets, uI_at, Int.reduceEq, reduceIte, Prod.mk.injEq]; refine ⟨?_, ?_, ?_⟩ <;> omega)
                · refine ar_iload (k := 43) rfl rfl ?_
                  refine ar_goto (k := 44) rfl ?_
                  refine br_putIJ (k := 47) rfl (hS.k (by decide)) flR_172_12 (by decide) rfl (fun _ _ _ q => by cases q; exact ⟨rfl, rfl⟩) (fun I47 e47 => ?_)
                  change _ = uI _ 69 13 _ at e47
                  have hs47 : I47 70 = s := by rw [e47]; exact hs37
                  have hk47 := rq.f hk37 (by decide) e47
                  refine ar_ret (k := 48) rfl rfl rfl (Nat.le_refl _) ?_
                  first
                    | (exfalso; omega)
                    | (refine ⟨rfl, I47, rfl, hk47, ?_⟩; rw [e47, e37, e29]; simp only [rSets, uI_at, Int.reduceEq, reduceIte, Prod.mk.injEq]; refine ⟨?_, ?_, ?_⟩ <;> omega)
              · refine ar_iloadn (k := 33) rfl rfl ?_
                refine ar_goto (k := 34) rfl ?_
                refine br_putIJ (k := 37) rfl (hS.k (by decide)) flR_169_12 (by decide) rfl (fun _ _ _ q => by cases q; exact ⟨rfl, rfl⟩) (fun I37 e37 => ?_)
                change _ = uI _ 69 12 _ at e37
                have hs37 : I37 70 = s := by rw [e37]; exact hs29
                have hk37 := rq.f hk29 (by decide) e37
                refine ar_aloadn (k := 38) rfl rfl ?_
                refine ar_iload (k := 39) rfl rfl ?_
                refine ar_aloadn (k := 40) rfl rfl ?_
                refine br_getI (k := 41) rfl (hS.k (by decide)) flR_172_12 (by decide) rfl ?_
                refine tw_top (y := I 69 13) (by rw [e37, uI_at, if_neg (by decide), e29, uI_at, if_neg (by decide)]; rfl) ?_
                refine ar_icmp_le (k := 42) rfl (by omega) (by omega) (fun c42 => ?_) (fun c42 => ?_)
                · refine ar_aloadn (k := 45) rfl rfl ?_
                  refine br_getI (k := 46) rfl (hS.k (by decide)) flR_172_12 (by decide) rfl ?_
                  refine tw_top (y := I 69 13) (by rw [e37, uI_at, if_neg (by decide), e29, uI_at, if_neg (by decide)]; rfl) ?_
                  refine br_putIJ (k := 47) rfl (hS.k (by decide)) flR_172_12 (by decide) rfl (fun _ _ _ q => by cases q; exact ⟨rfl, rfl⟩) (fun I47 e47 => ?_)
                  change _ = uI _ 69 13 _ at e47
                  have hs47 : I47 70 = s := by rw [e47]; exact hs37
                  have hk47 := rq.f hk37 (by decide) e47
                  refine ar_ret (k := 48) rfl rfl rfl (Nat.le_refl _) ?_
                  first
                    | (exfalso; omega)
                    | (refine ⟨rfl, I47, rfl, hk47, ?_⟩; rw [e47, e37, e29]; simp only [rSets, uI_at, Int.reduceEq, reduceIte, Prod.mk.injEq]; refine ⟨?_, ?_, ?_⟩ <;> omega)
                · refine ar_iload (k := 43) rfl rfl ?_
                  refine ar_goto (k := 44) rfl ?_
                  refine br_putIJ (k := 47) rfl (hS.k (by decide)) flR_172_12 (by decide) rfl (fun _ _ _ q => by cases q; exact ⟨rfl, rfl⟩) (fun I47 e47 => ?_)
                  change _ = uI _ 69 13 _ at e47
                  have hs47 : I47 70 = s := by rw [e47]; exact hs37
                  have hk47 := rq.f hk37 (by decide) e47
                  refine ar_ret (k := 48) rfl rfl rfl (Nat.le_refl _) ?_
                  first
                    | (exfalso; omega)
                    | (refine ⟨rfl, I47, rfl, hk47, ?_⟩; rw [e47, e37, e29]; simp only [rSets, uI_at, Int.reduceEq, reduceIte, Prod.mk.injEq]; refine ⟨?_, ?_, ?_⟩ <;> omega)
  | succ k ih =>
    intro t e g w m I hS hs hj he hw hm hM
    have hk : rq I I := rq.rf
    have hwt := ht t (by omega) (by omega)
    have hB := rSets_bd (s := s) (u := u) hR hV k (t + 1) e g w m (I 69 11, I 69 12, I 69 13) (by omega) he (by omega) (by omega) hM
    have hbw := rWorth_bd (t := (t : Int)) (u := u) hR hV
    refine tw_intro okR_setsFrom (Nat.le_of_ble_eq_true rfl) ?_
    refine ar_iloadn (k := 0) rfl rfl ?_
    refine ar_aloadn (k := 1) rfl rfl ?_
    refine br_getR (k := 2) rfl (hS.k (by decide)) flR_9_12 (by decide) rfl (hS.r rfl) ?_
    refine ar_iconst (k := 3) rfl ?_
    refine br_iads (k := 4) rfl (hS.k (by decide)) (by omega) (by omega) (by decide) hs ?_
    refine ar_icmp_ne (k := 5) rfl (by omega) (by omega) (fun c5 => ?_) (fun c5 => ?_)
    · refine ar_aloadn (k := 49) rfl rfl ?_
      refine ar_iloadn (k := 50) rfl rfl ?_
      refine ar_iconst (k := 51) rfl ?_
      refine ar_iadd (k := 52) rfl ?_
      refine ar_iloadn (k := 53) rfl rfl ?_
      refine ar_iloadn (k := 54) rfl rfl ?_
      refine ar_iload (k := 55) rfl rfl ?_
      refine ar_iload (k := 56) rfl rfl ?_
      refine ar_iload (k := 57) rfl rfl ?_
      refine ar_callV (k := 58) (as := [vi ((t + 1 : Nat) : Int), vi u, vi e, vi g, vi w, vi m]) rfl lvR_175 (hS.k (by decide)) rfl (ih (t + 1) e g w m I hS hs (by omega) he (by omega) (by omega) hM) rfl (by omega) (by decide) tw_m0 (Nat.le_of_ble_eq_true rfl) (fun r h' hp => ?_)
      obtain ⟨rfl, I58, rfl, q58, hX⟩ := hp
      have hs58 : I58 70 = s := q58.s.trans hs
      have hS58 : tSt (K, I58, Q, n) := hS
      have hM58 : rMb (I58 69 11, I58 69 12, I58 69 13) := by rw [hX]; exact hB
      refine ar_aloadn (k := 59) rfl rfl ?_
      refine ar_iloadn (k := 60) rfl rfl ?_
      refine ar_iloadn (k := 61) rfl rfl ?_
      refine ar_iload (k := 62) rfl rfl ?_
      refine br_callV (k := 63) (as := [_, _, _]) rfl lvR_179 (hS.k (by decide)) rfl (c_R_can hS58 hs58 hR (by omega)) rfl (by omega) (by decide) tw_m0 (Nat.le_of_ble_eq_true rfl) ?_
      refine ar_if_eq (k := 64) rfl (by omega) (fun c64 => ?_) (fun c64 => ?_)
      · refine ar_ret (k := 109) rfl rfl rfl (Nat.le_refl _) ?_
        refine ⟨rfl, I58, rfl, q58, ?_⟩
        rw [hX, rSets, if_neg (by omega)]
      · refine ar_aloadn (k := 65) rfl rfl ?_
        refine ar_iloadn (k := 66) rfl rfl ?_
        refine ar_iconst (k := 67) rfl ?_
        refine ar_iadd (k := 68) rfl ?_
        refine ar_iloadn (k := 69) rfl rfl ?_
        refine ar_iloadn (k := 70) rfl rfl ?_
        refine ar_iconst (k := 71) rfl ?_
        refine ar_iloadn (k := 72) rfl rfl ?_
        refine ar_ishl (k := 73) rfl ?_
        refine ar_ior (k := 74) rfl ?_
        refine ar_iload (k := 75) rfl rfl ?_
        refine ar_iconst (k := 76) rfl ?_
        have hw2 := ht (s (94 + (t : Int))) (by omega) (by omega)
        refine ar_aloadn (k := 77) rfl rfl ?_
        refine br_getR (k := 78) rfl (hS.k (by decide)) flR_9_12 (by decide) rfl (hS.r rfl) ?_
        refine ar_bipush (k := 79) rfl (by decide) ?_
        refine ar_iloadn (k := 80) rfl rfl ?_
        refine ar_iadd (k := 81) rfl ?_
        refine br_iads (k := 82) rfl (hS.k (by decide)) (by omega) (by omega) (by decide) hs58 ?_
        refine ar_ishl (k := 83) rfl ?_
        refine ar_ior (k := 84) rfl ?_
        refine ar_iconst (k := 85) rfl ?_
        refine ar_aloadn (k := 86) rfl rfl ?_
        refine br_getR (k := 87) rfl (hS.k (by decide)) flR_9_12 (by decide) rfl (hS.r rfl) ?_
        refine ar_bipush (k := 88) rfl (by decide) ?_
        refine ar_aloadn (k := 89) rfl rfl ?_
        refine br_getR (k := 90) rfl (hS.k (by decide)) flR_9_12 (by decide) rfl (hS.r rfl) ?_
        refine ar_bipush (k := 91) rfl (by decide) ?_
        refine ar_iloadn (k := 92) rfl rfl ?_
        refine ar_iadd (k := 93) rfl ?_
        refine br_iads (k := 94) rfl (hS.k (by decide)) (by omega) (by omega) (by decide) hs58 ?_
        refine ar_iadd (k := 95) rfl ?_
        refine br_iads (k := 96) rfl (hS.k (by decide)) (by omega) (by omega) (by decide) hs58 ?_
        refine ar_ishl (k := 97) rfl ?_
        refine ar_ior (k := 98) rfl ?_
        refine ar_iload (k := 99) rfl rfl ?_
        refine ar_aloadn (k := 100) rfl rfl ?_
        refine ar_iloadn (k := 101) rfl rfl ?_
        refine ar_iloadn (k := 102) rfl rfl ?_
        refine br_callVR (k := 103) (as := [_, _]) rfl lvR_133 (hS.k (by decide)) rfl (c_R_worthOf hS58 hs58 hR hV (by omega) (by omega) (by omega)) rfl (by omega) (by decide) tw_m0 (Nat.le_of_ble_eq_true rfl) (fun I103 q103 => ?_)
        have hs103 : I103 70 = s := q103.s.trans hs58
        have hk103 := rq.trans q58 q103.q
        refine ar_iadd (k := 104) rfl ?_
        refine ar_iload (k := 105) rfl rfl ?_
        refine ar_iconst (k := 106) rfl ?_
        refine ar_iadd (k := 107) rfl ?_
        refine ar_callV (k := 108) (as := [vi ((t + 1 : Nat) : Int), vi u, vi (bOr e (bShl 1 (t : Int))), vi (bOr (bOr g (bShl 1 (s (84 + (t : Int))))) (bShl 1 (s (84 + s (94 + (t : Int)))))), vi (w + rWorth s t u), vi (m + 1)]) rfl lvR_175 (hS.k (by decide)) rfl (ih (t + 1) _ _ _ _ I103 hS hs103 (by omega) (tr_bOr _ _) (by omega) (by omega) (by rw [q103 69 (by decide) (by decide)]; exact hM58)) rfl (by omega) (by decide) tw_m0 (Nat.le_of_ble_eq_true rfl) (fun r h' hp => ?_)
        obtain ⟨rfl, I108, rfl, q108, hX2⟩ := hp
        refine ar_ret (k := 109) rfl rfl rfl (Nat.le_refl _) ?_
        refine ⟨rfl, I108, rfl, rq.trans hk103 q108, ?_⟩
        rw [hX2, rSets, if_pos (by omega), q103 69 (by decide) (by decide), hX]
    · exfalso; omega
theorem c_R_looksForMost {u : Int} (hS : tSt (K, I, Q, n)) (hs : I 70 = s) (hR : RInv s) (hV : RVal s) (u1 : 0 ≤ u ∧ u ≤ 23) : tw_M l G 15 0 0 mR_looksForMost [vr (some 69), vi u] (K, I, Q, n) (fun r h' => r = none ∧ ∃ J, h' = (K, J, Q, n) ∧ rq I J ∧ (J 69 11, J 69 12, J 69 13) = rMost s u) := by
  obtain ⟨h0, h1, h2, h3, h4, h5, h6, hp, hrw, ht, hr, hb, htp, hv⟩ := id hR
  have hk : rq I I := rq.rf
  refine tw_intro okR_looksForMost (Nat.le_of_ble_eq_true rfl) ?_
  refine ar_aloadn (k := 0) rfl rfl ?_
  refine ar_iconst (k := 1) rfl ?_
  refine br_putIJ (k := 2) rfl (hS.k (by decide)) flR_166_12 (by decide) rfl (fun _ _ _ q => by cases q; exact ⟨rfl, rfl⟩) (fun I2 e2 => ?_)
  change _ = uI _ 69 11 _ at e2
  have hs2 : I2 70 = s := by rw [e2]; exact hs
  have hk2 := rq.f hk (by decide) e2
  refine ar_aloadn (k := 3) rfl rfl ?_
  refine ar_iconst (k := 4) rfl ?_
  refine br_putIJ (k := 5) rfl (hS.k (by decide)) flR_169_12 (by decide) rfl (fun _ _ _ q => by cases q; exact ⟨rfl, rfl⟩) (fun I5 e5 => ?_)
  change _ = uI _ 69 12 _ at e5
  have hs5 : I5 70 = s := by rw [e5]; exact hs2
  have hk5 := rq.f hk2 (by decide) e5
  refine ar_aloadn (k := 6) rfl rfl ?_
  refine ar_iconst (k := 7) rfl ?_
  refine br_putIJ (k := 8) rfl (hS.k (by decide)) flR_172_12 (by decide) rfl (fun _ _ _ q => by cases q; exact ⟨rfl, rfl⟩) (fun I8 e8 => ?_)
  change _ = uI _ 69 13 _ at e8
  have hs8 : I8 70 = s := by rw [e8]; exact hs5
  have hk8 := rq.f hk5 (by decide) e8
  refine ar_aloadn (k := 9) rfl rfl ?_
  refine ar_iconst (k := 10) rfl ?_
  refine ar_iloadn (k := 11) rfl rfl ?_
  refine ar_iconst (k := 12) rfl ?_
  refine ar_iconst (k := 13) rfl ?_
  refine ar_iconst (k := 14) rfl ?_
  refine ar_iconst (k := 15) rfl ?_
  refine ar_callV (k := 16) (as := [vi ((0 : Nat) : Int), vi u, vi 0, vi 0, vi 0, vi 0]) rfl lvR_175 (hS.k (by decide)) rfl (c_R_setsFrom hR hV u1 (s 1).toNat 0 0 0 0 0 I8 hS hs8 (by omega) (by decide) (by omega) (by omega) (by rw [e8, e5, e2]; simp only [uI_at, Int.reduceEq, reduceIte]; decide)) rfl (by omega) (by decide) tw_m0 (Nat.le_of_ble_eq_true rfl) (fun r h' hp => ?_)
  obtain ⟨rfl, I16, rfl, q16, hX⟩ := hp
  refine ar_ret (k := 17) rfl rfl rfl (Nat.le_refl _) ?_
  refine ⟨rfl, I16, rfl, rq.trans hk8 q16, ?_⟩
  rw [hX, rMost]
  congr 1
  rw [e8, e5, e2]
  simp only [uI_at, Int.reduceEq, reduceIte]
end RG
end
section
def rBestDay (s : Int → Int) : Int := smV (fun u => (rMost s u).1) 24 0 0
def rCnt (x : Int) : Int := smV (fun j => bAnd (bShr x j) 1) 10 0 0
/-- what the pairs that go are worth, in an hour -/
def rHourW (s : Int → Int) (u a : Int) : Int := smV (fun t => if bAnd (bShr (rGoing s u) t) 1 = 1 then rWorth s t u else 0) (s 1).toNat 0 a
def rAllW (s : Int → Int) : Nat → Nat → Int → Int
  | 0, _, a => a
  | k + 1, j, a => rAllW s k (j + 1) (rHourW s j a)
def rAllWait (s : Int → Int) : Int := smV (fun u => rCnt (rWait s u)) 24 0 0
theorem smV_bd {g : Nat → Int} {B : Int} (hB : ∀ j, -B ≤ g j ∧ g j ≤ B) : ∀ (k j : Nat) (a : Int), a - B * (k : Int) ≤ smV g k j a ∧ smV g k j a ≤ a + B * (k : Int)
  | 0, j, a => by simp [smV]
  | k + 1, j, a => by
    have h1 := smV_bd hB k (j + 1) (a + g j)
    have h2 := hB j
    rw [smV, show ((k + 1 : Nat) : Int) = (k : Int) + 1 by omega, Int.mul_add, Int.mul_one]
    omega
theorem rMost_bd {s : Int → Int} {u : Int} (hR : RInv s) (hV : RVal s) : rMb (rMost s u) := by
  have h1 := hR.2.1
  exact rSets_bd hR hV _ _ _ _ _ _ _ (by omega) (by decide) (by omega) (by omega) (by decide)
theorem rBestDay_bd {s : Int → Int} (hR : RInv s) (hV : RVal s) : -12000000 ≤ rBestDay s ∧ rBestDay s ≤ 12000000 := by
  have := smV_bd (g := fun u => (rMost s u).1) (B := 500000) (fun j => (rMost_bd (u := (j : Int)) hR hV).1) 24 0 0
  unfold rBestDay
  omega
section RH
variable {l : Launch} {G : tG} {K : Nat → Nat × Nat} {I : Nat → Int → Int} {Q : Nat → Int → Option Nat} {n : Nat} {s : Int → Int}
theorem l_R_count1 {h : tH} {x : Int} : ∀ (k j : Nat) (a : Int), j + k = 10 → tw_AW l G mR_count1 1 0 0 h.2.2.2 0 (tw_fn (some (vi (smV (fun j => bAnd (bShr x j) 1) k j a))) h) 4 [(2, vi (j : Int)), (1, vi a), (0, vi x)] [] h := by
  intro k
  induction k with
  | zero =>
    intro j a hj
    refine ar_iloadn (k := 4) rfl rfl ?_
    refine ar_bipush (k := 5) rfl (by decide) ?_
    refine ar_icmp_ge (k := 6) rfl (by omega) (by omega) (fun c6 => ?_) (fun c6 => ?_)
    · refine ar_iloadn (k := 17) rfl rfl ?_
      refine ar_iret (k := 18) rfl rfl rfl (Nat.le_refl _) ?_
      exact ⟨rfl, rfl⟩
    · exfalso; omega
  | succ k ih =>
    intro j a hj
    refine ar_iloadn (k := 4) rfl rfl ?_
    refine ar_bipush (k := 5) rfl (by decide) ?_
    refine ar_icmp_ge (k := 6) rfl (by omega) (by omega) (fun c6 => ?_) (fun c6 => ?_)
    · exfalso; omega
    · refine ar_iloadn (k := 7) rfl rfl ?_
      refine ar_iloadn (k := 8) rfl rfl ?_
      refine ar_iloadn (k := 9) rfl rfl ?_
      refine ar_ishr (k := 10) rfl ?_
      refine ar_iconst (k := 11) rfl ?_
      refine ar_iand (k := 12) rfl ?_
      refine ar_iadd (k := 13) rfl ?_
      refine ar_istoren (k := 14) (l2 := [(1, _), (2, _), (0, _)]) rfl (by decide) rfl ?_
      refine ar_iinc (k := 15) (l2 := [(2, _), (1, _), (0, _)]) rfl (by decide) rfl rfl ?_
      refine ar_goto (k := 16) rfl ?_
      refine ar_sub (l2 := [(2, vi ((j + 1 : Nat) : Int)), (1, vi (a + bAnd (bShr x (j : Int)) 1)), (0, vi x)]) (tw_s (tw_e 0 rfl (by omega)) (tw_s (tw_e 1 rfl (by rfl)) (tw_s (tw_g 2 rfl) tw_s0))) ?_
      exact ih (j + 1) _ (by omega)
theorem c_R_count1 {h : tH} {x : Int} : tw_F l G 1 0 0 mR_count1 [vi x] h (some (vi (rCnt x))) h := by
  refine tw_intro okR_count1 (Nat.le_of_ble_eq_true rfl) ?_
  refine ar_iconst (k := 0) rfl ?_
  refine ar_istoren (k := 1) (l2 := [(1, _), (0, _)]) rfl (by decide) rfl ?_
  refine ar_iconst (k := 2) rfl ?_
  refine ar_istoren (k := 3) (l2 := [(2, _), (1, _), (0, _)]) rfl (by decide) rfl ?_
  refine ar_sub (l2 := [(2, vi ((0 : Nat) : Int)), (1, vi 0), (0, vi x)]) (tw_s (tw_e 0 rfl (by rfl)) (tw_s (tw_g 1 rfl) (tw_s (tw_g 2 rfl) tw_s0))) ?_
  exact l_R_count1 10 0 0 (by omega)
theorem l_R_bestDay (hS : tSt (K, I, Q, n)) (hR : RInv s) (hV : RVal s) : ∀ (k : Nat) (j : Nat) (a : Int) (J : Nat → Int → Int), j + k = 24 → J 70 = s → rq I J → tw_AW l G mR_bestDay 16 0 0 n 0 (fun r h' => r = some (vi (smV (fun u => (rMost s u).1) k j a)) ∧ ∃ L, h' = (K, L, Q, n) ∧ rq I L) 4 [(2, vi (j : Int)), (1, vi a), (0, vr (some 69))] [] (K, J, Q, n) := by
  obtain ⟨h0, h1, h2, h3, h4, h5, h6, hp, hrw, ht, hr, hb, htp, hv⟩ := id hR
  intro k
  induction k with
  | zero =>
    intro j a J hj hs hk
    refine ar_iloadn (k := 4) rfl rfl ?_
    refine ar_bipush (k := 5) rfl (by decide) ?_
    refine ar_icmp_ge (k := 6) rfl (by omega) (by omega) (fun c6 => ?_) (fun c6 => ?_)
    · refine ar_iloadn (k := 17) rfl rfl ?_
      refine ar_iret (k := 18) rfl rfl rfl (Nat.le_refl _) ?_
      exact ⟨rfl, J, rfl, hk⟩
    · exfalso; omega
  | succ k ih =>
    intro j a J hj hs hk
    refine ar_iloadn (k := 4) rfl rfl ?_
    refine ar_bipush (k := 5) rfl (by decide) ?_
    refine ar_icmp_ge (k := 6) rfl (by omega) (by omega) (fun c6 => ?_) (fun c6 => ?_)
    · exfalso; omega
    · refine ar_aloadn (k := 7) rfl rfl ?_
      refine ar_iloadn (k := 8) rfl rfl ?_
      refine ar_callV (k := 9) (as := [_]) rfl lvR_188 (hS.k (by decide)) rfl (c_R_looksForMost hS hs hR hV (by omega)) rfl (by omega) (by decide) tw_m0 (Nat.le_of_ble_eq_true rfl) (fun r h' hp => ?_)
      obtain ⟨rfl, I9, rfl, q9, hX9⟩ := hp
      have hs9 : I9 70 = s := q9.s.trans hs
      have hk9 := rq.trans hk q9
      refine ar_iloadn (k := 10) rfl rfl ?_
      refine ar_aloadn (k := 11) rfl rfl ?_
      refine br_getI (k := 12) rfl (hS.k (by decide)) flR_166_12 (by decide) rfl ?_
      refine tw_top (y := (rMost s (j : Int)).1) (by exact congrArg (fun q => q.1) hX9) ?_
      refine ar_iadd (k := 13) rfl ?_
      refine ar_istoren (k := 14) (l2 := [(1, _), (2, _), (0, _)]) rfl (by decide) rfl ?_
      refine ar_iinc (k := 15) (l2 := [(2, _), (1, _), (0, _)]) rfl (by decide) rfl rfl ?_
      refine ar_goto (k := 16) rfl ?_
      refine ar_sub (l2 := [(2, vi ((j + 1 : Nat) : Int)), (1, vi (a + (fun u => (rMost s u).1) j)), (0, vr (some 69))]) (tw_s (tw_e 0 rfl (by omega)) (tw_s (tw_e 1 rfl (by rfl)) (tw_s (tw_g 2 rfl) tw_s0))) ?_
      exact ih (j + 1) _ I9 (by omega) hs9 hk9
theorem c_R_bestDay (hS : tSt (K, I, Q, n)) (hs : I 70 = s) (hR : RInv s) (hV : RVal s) : tw_K l G 16 mR_bestDay [vr (some 69)] K I Q n (some (vi (rBestDay s))) := by
  obtain ⟨h0, h1, h2, h3, h4, h5, h6, hp, hrw, ht, hr, hb, htp, hv⟩ := id hR
  refine tw_intro okR_bestDay (Nat.le_of_ble_eq_true rfl) ?_
  refine ar_iconst (k := 0) rfl ?_
  refine ar_istoren (k := 1) (l2 := [(1, _), (0, _)]) rfl (by decide) rfl ?_
  refine ar_iconst (k := 2) rfl ?_
  refine ar_istoren (k := 3) (l2 := [(2, _), (1, _), (0, _)]) rfl (by decide) rfl ?_
  refine ar_sub (l2 := [(2, vi ((0 : Nat) : Int)), (1, vi 0), (0, vr (some 69))]) (tw_s (tw_e 0 rfl (by rfl)) (tw_s (tw_g 1 rfl) (tw_s (tw_g 2 rfl) tw_s0))) ?_
  exact l_R_bestDay (I := I) hS hR hV 24 0 0 I (by omega) hs rq.rf
theorem l_R_allWaiting (hS : tSt (K, I, Q, n)) (hR : RInv s) (hV : RVal s) : ∀ (k : Nat) (j : Nat) (a : Int) (J : Nat → Int → Int), j + k = 24 → J 70 = s → rq I J → tw_AW l G mR_allWaiting 7 0 0 n 0 (fun r h' => r = some (vi (smV (fun u => rCnt (rWait s u)) k j a)) ∧ ∃ L, h' = (K, L, Q, n) ∧ rq I L) 4 [(2, vi (j : Int)), (1, vi a), (0, vr (some 69))] [] (K, J, Q, n) := by
  obtain ⟨h0, h1, h2, h3, h4, h5, h6, hp, hrw, ht, hr, hb, htp, hv⟩ := id hR
  intro k
  induction k with
  | zero =>
    intro j a J hj hs hk
    refine ar_iloadn (k := 4) rfl rfl ?_
    refine ar_bipush (k := 5) rfl (by decide) ?_
    refine ar_icmp_ge (k := 6) rfl (by omega) (by omega) (fun c6 => ?_) (fun c6 => ?_)
    · refine ar_iloadn (k := 16) rfl rfl ?_
      refine ar_iret (k := 17) rfl rfl rfl (Nat.le_refl _) ?_
      exact ⟨rfl, J, rfl, hk⟩
    · exfalso; omega
  | succ k ih =>
    intro j a J hj hs hk
    refine ar_iloadn (k := 4) rfl rfl ?_
    refine ar_bipush (k := 5) rfl (by decide) ?_
    refine ar_icmp_ge (k := 6) rfl (by omega) (by omega) (fun c6 => ?_) (fun c6 => ?_)
    · exfalso; omega
    · refine ar_iloadn (k := 7) rfl rfl ?_
      refine ar_aloadn (k := 8) rfl rfl ?_
      refine ar_iloadn (k := 9) rfl rfl ?_
      refine br_callVR (k := 10) (as := [_]) rfl lvR_185 (hS.k (by decide)) rfl (c_R_waiting hS hs hR hV (by omega)) rfl (by decide) (by decide) tw_m0 (Nat.le_of_ble_eq_true rfl) (fun I10 q10 => ?_)
      have hs10 : I10 70 = s := q10.s.trans hs
      have hk10 := rq.trans hk q10.q
      refine br_callS (k := 11) (as := [_]) rfl lsR_191 c_R_count1 rfl (by decide) (by decide) tw_m0 (Nat.le_of_ble_eq_true rfl) ?_
      refine ar_iadd (k := 12) rfl ?_
      refine ar_istoren (k := 13) (l2 := [(1, _), (2, _), (0, _)]) rfl (by decide) rfl ?_
      refine ar_iinc (k := 14) (l2 := [(2, _), (1, _), (0, _)]) rfl (by decide) rfl rfl ?_
      refine ar_goto (k := 15) rfl ?_
      refine ar_sub (l2 := [(2, vi ((j + 1 : Nat) : Int)), (1, vi (a + (fun u => rCnt (rWait s u)) j)), (0, vr (some 69))]) (tw_s (tw_e 0 rfl (by omega)) (tw_s (tw_e 1 rfl (by rfl)) (tw_s (tw_g 2 rfl) tw_s0))) ?_
      exact ih (j + 1) _ I10 (by omega) hs10 hk10
theorem c_R_allWaiting (hS : tSt (K, I, Q, n)) (hs : I 70 = s) (hR : RInv s) (hV : RVal s) : tw_K l G 7 mR_allWaiting [vr (some 69)] K I Q n (some (vi (rAllWait s))) := by
  obtain ⟨h0, h1, h2, h3, h4, h5, h6, hp, hrw, ht, hr, hb, htp, hv⟩ := id hR
  refine tw_intro okR_allWaiting (Nat.le_of_ble_eq_true rfl) ?_
  refine ar_iconst (k := 0) rfl ?_
  refine ar_istoren (k := 1) (l2 := [(1, _), (0, _)]) rfl (by decide) rfl ?_
  refine ar_iconst (k := 2) rfl ?_
  refine ar_istoren (k := 3) (l2 := [(2, _), (1, _), (0, _)]) rfl (by decide) rfl ?_
  refine ar_sub (l2 := [(2, vi ((0 : Nat) : Int)), (1, vi 0), (0, vr (some 69))]) (tw_s (tw_e 0 rfl (by rfl)) (tw_s (tw_g 1 rfl) (tw_s (tw_g 2 rfl) tw_s0))) ?_
  exact l_R_allWaiting (I := I) hS hR hV 24 0 0 I (by omega) hs rq.rf
theorem c_R_hour {u w : Int} (hS : tSt (K, I, Q, n)) (hs : I 70 = s) (hR : RInv s) (hV : RVal s) (tu : tr u) (tw : tr w) : tw_K l G 16 mR_hour [vr (some 69), vi u, vi w] K I Q n (some (vi (if ¬ (0 ≤ u ∧ u ≤ 23) then -10001 else if w = 0 then rGoing s u else if w = 1 then rWait s u else if w = 2 then (rMost s u).1 else if w = 3 then (rMost s u).2.1 else if w = 4 then (rMost s u).2.2 else -10001))) := by
  obtain ⟨h0, h1, h2, h3, h4, h5, h6, hp, hrw, ht, hr, hb, htp, hv⟩ := id hR
  have hk : rq I I := rq.rf
  refine tw_intro okR_hour (Nat.le_of_ble_eq_true rfl) ?_
  refine ar_iloadn (k := 0) rfl rfl ?_
  refine br_callS (k := 1) (as := [_]) rfl lsR_130 (c_R_isHour (by omega)) rfl (by decide) (by decide) tw_m0 (Nat.le_of_ble_eq_true rfl) ?_
  refine ar_if_ne (k := 2) rfl (by omega) (fun c2 => ?_) (fun c2 => ?_)
  · refine ar_iloadn (k := 5) rfl rfl ?_
    rcases (show w = 0 ∨ w = 1 ∨ w = 2 ∨ w = 3 ∨ w = 4 ∨ (w < 0 ∨ 4 < w) by omega) with q6 | q6 | q6 | q6 | q6 | q6
    · refine ar_tswIn (k := 6) (t := 48) rfl (by omega) (by omega) (by omega) (by rw [q6]; rfl) (by decide) ?_
      refine ar_aloadn (k := 7) rfl rfl ?_
      refine ar_iloadn (k := 8) rfl rfl ?_
      refine br_callVR (k := 9) (as := [_]) rfl lvR_182 (hS.k (by decide)) rfl (c_R_going hS hs hR hV (by omega)) rfl (by decide) (by decide) tw_m0 (Nat.le_of_ble_eq_true rfl) (fun I9 q9 => ?_)
      have hs9 : I9 70 = s := q9.s.trans hs
      have hk9 := rq.trans hk q9.q
      refine ar_iret (k := 10) rfl rfl rfl (Nat.le_refl _) ?_
      first
        | (exfalso; omega)
        | exact ⟨congrArg (fun z => some (vi z)) (by omega), I9, rfl, hk9⟩
    · refine ar_tswIn (k := 6) (t := 54) rfl (by omega) (by omega) (by omega) (by rw [q6]; rfl) (by decide) ?_
      refine ar_aloadn (k := 11) rfl rfl ?_
      refine ar_iloadn (k := 12) rfl rfl ?_
      refine br_callVR (k := 13) (as := [_]) rfl lvR_185 (hS.k (by decide)) rfl (c_R_waiting hS hs hR hV (by omega)) rfl (by decide) (by decide) tw_m0 (Nat.le_of_ble_eq_true rfl) (fun I13 q13 => ?_)
      have hs13 : I13 70 = s := q13.s.trans hs
      have hk13 := rq.trans hk q13.q
      refine ar_iret (k := 14) rfl rfl rfl (Nat.le_refl _) ?_
      first
        | (exfalso; omega)
        | exact ⟨congrArg (fun z => some (vi z)) (by omega), I13, rfl, hk13⟩
    · refine ar_tswIn (k := 6) (t := 60) rfl (by omega) (by omega) (by omega) (by rw [q6]; rfl) (by decide) ?_
      refine ar_aloadn (k := 15) rfl rfl ?_
      refine ar_iloadn (k := 16) rfl rfl ?_
      refine ar_callV (k := 17) (as := [_]) rfl lvR_188 (hS.k (by decide)) rfl (c_R_looksForMost hS hs hR hV (by omega)) rfl (by omega) (by decide) tw_m0 (Nat.le_of_ble_eq_true rfl) (fun r h' hp => ?_)
      obtain ⟨rfl, I17, rfl, q17, hX17⟩ := hp
      have hs17 : I17 70 = s := q17.s.trans hs
      have hk17 := rq.trans hk q17
      refine ar_iloadn (k := 18) rfl rfl ?_
      refine ar_iconst (k := 19) rfl ?_
      refine ar_icmp_ne (k := 20) rfl (by omega) (by omega) (fun c20 => ?_) (fun c20 => ?_)
      · refine ar_iloadn (k := 24) rfl rfl ?_
        refine ar_iconst (k := 25) rfl ?_
        refine ar_icmp_ne (k := 26) rfl (by omega) (by omega) (fun c26 => ?_) (fun c26 => ?_)
        · refine ar_aloadn (k := 30) rfl rfl ?_
          refine br_getI (k := 31) rfl (hS.k (by decide)) flR_172_12 (by decide) rfl ?_
          refine tw_top (y := (rMost s u).2.2) (by exact congrArg (fun q => q.2.2) hX17) ?_
          refine ar_iret (k := 32) rfl rfl rfl (Nat.le_refl _) ?_
          first
            | (exfalso; omega)
            | exact ⟨congrArg (fun z => some (vi z)) (by omega), I17, rfl, hk17⟩
        · refine ar_aloadn (k := 27) rfl rfl ?_
          refine br_getI (k := 28) rfl (hS.k (by decide)) flR_169_12 (by decide) rfl ?_
          refine tw_top (y := (rMost s u).2.1) (by exact congrArg (fun q => q.2.1) hX17) ?_
          refine ar_goto (k := 29) rfl ?_
          refine ar_iret (k := 32) rfl rfl rfl (Nat.le_refl _) ?_
          first
            | (exfalso; omega)
            | exact ⟨congrArg (fun z => some (vi z)) (by omega), I17, rfl, hk17⟩
      · refine ar_aloadn (k := 21) rfl rfl ?_
        refine br_getI (k := 22) rfl (hS.k (by decide)) flR_166_12 (by decide) rfl ?_
        refine tw_top (y := (rMost s u).1) (by exact congrArg (fun q => q.1) hX17) ?_
        refine ar_goto (k := 23) rfl ?_
        refine ar_iret (k := 32) rfl rfl rfl (Nat.le_refl _) ?_
        first
          | (exfalso; omega)
          | exact ⟨congrArg (fun z => some (vi z)) (by omega), I17, rfl, hk17⟩
    · refine ar_tswIn (k := 6) (t := 60) rfl (by omega) (by omega) (by omega) (by rw [q6]; rfl) (by decide) ?_
      refine ar_aloadn (k := 15) rfl rfl ?_
      refine ar_iloadn (k := 16) rfl rfl ?_
      refine ar_callV (k := 17) (as := [_]) rfl lvR_188 (hS.k (by decide)) rfl (c_R_looksForMost hS hs hR hV (by omega)) rfl (by omega) (by decide) tw_m0 (Nat.le_of_ble_eq_true rfl) (fun r h' hp => ?_)
      obtain ⟨rfl, I17, rfl, q17, hX17⟩ := hp
      have hs17 : I17 70 = s := q17.s.trans hs
      have hk17 := rq.trans hk q17
      refine ar_iloadn (k := 18) rfl rfl ?_
      refine ar_iconst (k := 19) rfl ?_
      refine ar_icmp_ne (k := 20) rfl (by omega) (by omega) (fun c20 => ?_) (fun c20 => ?_)
      · refine ar_iloadn (k := 24) rfl rfl ?_
        refine ar_iconst (k := 25) rfl ?_
        refine ar_icmp_ne (k := 26) rfl (by omega) (by omega) (fun c26 => ?_) (fun c26 => ?_)
        · refine ar_aloadn (k := 30) rfl rfl ?_
          refine br_getI (k := 31) rfl (hS.k (by decide)) flR_172_12 (by decide) rfl ?_
          refine tw_top (y := (rMost s u).2.2) (by exact congrArg (fun q => q.2.2) hX17) ?_
          refine ar_iret (k := 32) rfl rfl rfl (Nat.le_refl _) ?_
          first
            | (exfalso; omega)
            | exact ⟨congrArg (fun z => some (vi z)) (by omega), I17, rfl, hk17⟩
        · refine ar_aloadn (k := 27) rfl rfl ?_
          refine br_getI (k := 28) rfl (hS.k (by decide)) flR_169_12 (by decide) rfl ?_
          refine tw_top (y := (rMost s u).2.1) (by exact congrArg (fun q => q.2.1) hX17) ?_
          refine ar_goto (k := 29) rfl ?_
          refine ar_iret (k := 32) rfl rfl rfl (Nat.le_refl _) ?_
          first
            | (exfalso; omega)
            | exact ⟨congrArg (fun z => some (vi z)) (by omega), I17, rfl, hk17⟩
      · refine ar_aloadn (k := 21) rfl rfl ?_
        refine br_getI (k := 22) rfl (hS.k (by decide)) flR_166_12 (by decide) rfl ?_
        refine tw_top (y := (rMost s u).1) (by exact congrArg (fun q => q.1) hX17) ?_
        refine ar_goto (k := 23) rfl ?_
        refine ar_iret (k := 32) rfl rfl rfl (Nat.le_refl _) ?_
        first
          | (exfalso; omega)
          | exact ⟨congrArg (fun z => some (vi z)) (by omega), I17, rfl, hk17⟩
    · refine ar_tswIn (k := 6) (t := 60) rfl (by omega) (by omega) (by omega) (by rw [q6]; rfl) (by decide) ?_
      refine ar_aloadn (k := 15) rfl rfl ?_
      refine ar_iloadn (k := 16) rfl rfl ?_
      refine ar_callV (k := 17) (as := [_]) rfl lvR_188 (hS.k (by decide)) rfl (c_R_looksForMost hS hs hR hV (by omega)) rfl (by omega) (by decide) tw_m0 (Nat.le_of_ble_eq_true rfl) (fun r h' hp => ?_)
      obtain ⟨rfl, I17, rfl, q17, hX17⟩ := hp
      have hs17 : I17 70 = s := q17.s.trans hs
      have hk17 := rq.trans hk q17
      refine ar_iloadn (k := 18) rfl rfl ?_
      refine ar_iconst (k := 19) rfl ?_
      refine ar_icmp_ne (k := 20) rfl (by omega) (by omega) (fun c20 => ?_) (fun c20 => ?_)
      · refine ar_iloadn (k := 24) rfl rfl ?_
        refine ar_iconst (k := 25) rfl ?_
        refine ar_icmp_ne (k := 26) rfl (by omega) (by omega) (fun c26 => ?_) (fun c26 => ?_)
        · refine ar_aloadn (k := 30) rfl rfl ?_
          refine br_getI (k := 31) rfl (hS.k (by decide)) flR_172_12 (by decide) rfl ?_
          refine tw_top (y := (rMost s u).2.2) (by exact congrArg (fun q => q.2.2) hX17) ?_
          refine ar_iret (k := 32) rfl rfl rfl (Nat.le_refl _) ?_
          first
            | (exfalso; omega)
            | exact ⟨congrArg (fun z => some (vi z)) (by omega), I17, rfl, hk17⟩
        · refine ar_aloadn (k := 27) rfl rfl ?_
          refine br_getI (k := 28) rfl (hS.k (by decide)) flR_169_12 (by decide) rfl ?_
          refine tw_top (y := (rMost s u).2.1) (by exact congrArg (fun q => q.2.1) hX17) ?_
          refine ar_goto (k := 29) rfl ?_
          refine ar_iret (k := 32) rfl rfl rfl (Nat.le_refl _) ?_
          first
            | (exfalso; omega)
            | exact ⟨congrArg (fun z => some (vi z)) (by omega), I17, rfl, hk17⟩
      · refine ar_aloadn (k := 21) rfl rfl ?_
        refine br_getI (k := 22) rfl (hS.k (by decide)) flR_166_12 (by decide) rfl ?_
        refine tw_top (y := (rMost s u).1) (by exact congrArg (fun q => q.1) hX17) ?_
        refine ar_goto (k := 23) rfl ?_
        refine ar_iret (k := 32) rfl rfl rfl (Nat.le_refl _) ?_
        first
          | (exfalso; omega)
          | exact ⟨congrArg (fun z => some (vi z)) (by omega), I17, rfl, hk17⟩
    · refine ar_tswOut (k := 6) (t := 94) rfl (by omega) (by omega) (by decide) ?_
      refine ar_sipush (k := 33) rfl (by decide) ?_
      refine ar_iret (k := 34) rfl rfl rfl (Nat.le_refl _) ?_
      first
        | (exfalso; omega)
        | exact ⟨congrArg (fun z => some (vi z)) (by omega), I, rfl, hk⟩
  · refine ar_sipush (k := 3) rfl (by decide) ?_
    refine ar_iret (k := 4) rfl rfl rfl (Nat.le_refl _) ?_
    first
      | (exfalso; omega)
      | exact ⟨congrArg (fun z => some (vi z)) (by omega), I, rfl, hk⟩
end RH
end
section
/-! the first family of kit/laws/BITS.to-paste, then rows of our own over it -/
def bt (x : Int32) (i : Nat) : Bool := x.toBitVec.getLsbD i
theorem b_ext {x y : Int32} (h : ∀ i, i < 32 → bt x i = bt y i) : x = y := Int32.toBitVec_inj.mp (BitVec.eq_of_getLsbD_eq (fun i hi => h i hi))
theorem b_or (x y : Int32) (i : Nat) : bt (x ||| y) i = (bt x i || bt y i) := by unfold bt; rw [Int32.toBitVec_or, BitVec.getLsbD_or]
theorem b_and (x y : Int32) (i : Nat) : bt (x &&& y) i = (bt x i && bt y i) := by unfold bt; rw [Int32.toBitVec_and, BitVec.getLsbD_and]
theorem b_xor (x y : Int32) (i : Nat) : bt (x ^^^ y) i = (bt x i ^^ bt y i) := by unfold bt; rw [Int32.toBitVec_xor, BitVec.getLsbD_xor]
theorem b_big {x : Int32} {i : Nat} (h : 32 ≤ i) : bt x i = false := BitVec.getLsbD_of_ge _ _ h
theorem b_255 (i : Nat) : bt 255 i = decide (i < 8) := by
  rcases Nat.lt_or_ge i 32 with h | h
  · exact (by decide +kernel : ∀ i, i < 32 → bt 255 i = decide (i < 8)) i h
  · rw [b_big h, decide_eq_false (by omega)]
theorem b_65535 (i : Nat) : bt 65535 i = decide (i < 16) := by
  rcases Nat.lt_or_ge i 32 with h | h
  · exact (by decide +kernel : ∀ i, i < 32 → bt 65535 i = decide (i < 16)) i h
  · rw [b_big h, decide_eq_false (by omega)]
theorem b_m1 : ∀ i, i < 32 → bt (-1) i = true := by decide +kernel
theorem b_0 (i : Nat) : bt 0 i = false := BitVec.getLsbD_zero
theorem s_l : ∀ n, n < 32 → ((nI n &&& 31).toBitVec.smod 32).toNat = n := by decide +kernel
theorem s_u : ∀ n, n < 32 → (((nI n).toUInt32 &&& Int32.toUInt32 31).toBitVec % 32).toNat = n := by decide +kernel
theorem b_shl (n : Nat) (hn : n < 32) (x : Int32) {i : Nat} (hi : i < 32) : bt (x <<< (nI n &&& 31)) i = (decide (n ≤ i) && bt x (i - n)) := by
  unfold bt
  rw [Int32.toBitVec_shiftLeft]
  show (x.toBitVec <<< ((nI n &&& 31).toBitVec.smod 32).toNat).getLsbD i = _
  rw [s_l n hn, BitVec.getLsbD_shiftLeft]
  rcases Nat.lt_or_ge i n with h | h
  · simp [h, Nat.not_le.mpr h]
  · simp [hi, h, Nat.not_lt.mpr h]
theorem b_ushr (n : Nat) (hn : n < 32) (x : Int32) (i : Nat) : bt ((x.toUInt32 >>> ((nI n).toUInt32 &&& Int32.toUInt32 31)).toInt32) i = bt x (n + i) := by
  show (x.toUInt32 >>> ((nI n).toUInt32 &&& Int32.toUInt32 31)).toBitVec.getLsbD i = x.toUInt32.toBitVec.getLsbD (n + i)
  rw [UInt32.toBitVec_shiftRight]
  show (x.toUInt32.toBitVec >>> (((nI n).toUInt32 &&& Int32.toUInt32 31).toBitVec % 32).toNat).getLsbD i = _
  rw [s_u n hn, BitVec.getLsbD_ushiftRight]
theorem b_sshr (n : Nat) (hn : n < 32) (x : Int32) {i : Nat} (hi : i < 32) : bt (x >>> (nI n &&& 31)) i = if n + i < 32 then bt x (n + i) else bt x 31 := by
  unfold bt
  rw [Int32.toBitVec_shiftRight]
  show (x.toBitVec.sshiftRight ((nI n &&& 31).toBitVec.smod 32).toNat).getLsbD i = _
  rw [s_l n hn, BitVec.getLsbD_sshiftRight, BitVec.msb_eq_getLsbD_last]
  simp [hi]
/-- a number's bit -/
def ib (x : Int) (j : Nat) : Bool := bt (Int32.ofInt x) j
theorem ib_or (a b : Int) (j : Nat) : ib (bOr a b) j = (ib a j || ib b j) := by
  unfold ib bOr
  rw [Int32.ofInt_toInt, b_or]
theorem ib_and (a b : Int) (j : Nat) : ib (bAnd a b) j = (ib a j && ib b j) := by
  unfold ib bAnd
  rw [Int32.ofInt_toInt, b_and]
theorem ib_xor (a b : Int) (j : Nat) : ib (bXor a b) j = (ib a j ^^ ib b j) := by
  unfold ib bXor
  rw [Int32.ofInt_toInt, b_xor]
theorem ib_0 (j : Nat) : ib 0 j = false := b_0 j
theorem ib_1 : ∀ j, j < 32 → ib 1 j = decide (j = 0) := by decide +kernel
theorem ib_shl1 : ∀ i : Nat, i < 32 → ∀ j : Nat, j < 32 → ib (bShl 1 (i : Int)) j = decide (i = j) := by
  intro i hi j hj
  unfold ib bShl
  rw [Int32.ofInt_toInt, Int32.ofInt_eq_ofNat]
  show bt (Int32.ofInt 1 <<< (nI i &&& 31)) j = _
  rw [b_shl i hi _ hj]
  by_cases h : i ≤ j
  · have e : bt (Int32.ofInt 1) (j - i) = decide (j - i = 0) := ib_1 (j - i) (by omega)
    rw [e, decide_eq_true h, Bool.true_and]
    by_cases g : i = j
    · subst g; simp
    · rw [decide_eq_false g, decide_eq_false (by omega)]
  · rw [decide_eq_false h, Bool.false_and, decide_eq_false (by omega)]
theorem ib_shr (x : Int) {i j : Nat} (h : i + j < 32) : ib (bShr x (i : Int)) j = ib x (i + j) := by
  unfold ib bShr
  rw [Int32.ofInt_toInt, Int32.ofInt_eq_ofNat]
  show bt (Int32.ofInt x >>> (nI i &&& 31)) j = _
  rw [b_sshr i (by omega) _ (by omega), if_pos h]
theorem ib_ext {x y : Int} (hx : tr x) (hy : tr y) (h : ∀ i, i < 32 → ib x i = ib y i) : x = y := (tr_eq hx hy).mp (b_ext h)
theorem ib_if (c : Prop) (hc : c ∨ ¬ c) : True := trivial
theorem ib_bit (x : Int) {j : Nat} (hj : j < 32) : bAnd (bShr x (j : Int)) 1 = if ib x j = true then 1 else 0 := by
  have hb := bAnd1 (bShr x (j : Int))
  have h0 : ib (bAnd (bShr x (j : Int)) 1) 0 = ib x j := by
    rw [ib_and, ib_1 0 (by omega), ib_shr _ (by omega)]
    simp
  rcases (show bAnd (bShr x (j : Int)) 1 = 0 ∨ bAnd (bShr x (j : Int)) 1 = 1 by omega) with e | e
  · rw [e] at h0 ⊢
    rw [← h0, ib_0]
    rfl
  · rw [e] at h0 ⊢
    rw [← h0, ib_1 0 (by omega)]
    rfl
theorem ib_bit1 (x : Int) {j : Nat} (hj : j < 32) : bAnd (bShr x (j : Int)) 1 = 1 ↔ ib x j = true := by
  rw [ib_bit x hj]
  by_cases h : ib x j = true
  · simp [h]
  · simp [h]
theorem bOr_0 {x : Int} (hx : tr x) : bOr x 0 = x := ib_ext (tr_bOr _ _) hx (fun i _ => by rw [ib_or, ib_0, Bool.or_false])
/-- the bits of a row of bits -/
theorem orV_ib {g : Nat → Int} (hg : ∀ j, g j = 0 ∨ g j = bShl 1 (j : Int)) : ∀ (k j : Nat) (a : Int) (i : Nat), j + k ≤ 32 → i < 32 → ib (orV g k j a) i = (ib a i || (decide (j ≤ i ∧ i < j + k) && !decide (g i = 0)))
  | 0, j, a, i, _, _ => by
    rw [orV, decide_eq_false (by omega), Bool.false_and, Bool.or_false]
  | k + 1, j, a, i, h, hi => by
    rw [orV, orV_ib hg k (j + 1) _ i (by omega) hi, ib_or]
    have e : ib (g j) i = (decide (j = i) && !decide (g i = 0)) := by
      by_cases hij : j = i
      · subst hij
        rcases hg j with e | e
        · rw [e, ib_0]; simp
        · by_cases h0 : g j = 0
          · rw [h0, ib_0]; simp
          · rw [decide_eq_false h0, e, ib_shl1 j (by omega) j (by omega)]; simp
      · rw [decide_eq_false hij, Bool.false_and]
        rcases hg j with e | e
        · rw [e, ib_0]
        · rw [e, ib_shl1 j (by omega) i hi, decide_eq_false hij]
    rw [e]
    by_cases h1 : j = i
    · subst h1
      rw [decide_eq_true rfl, decide_eq_false (by omega : ¬ (j + 1 ≤ j ∧ j < j + 1 + k)), decide_eq_true (by omega : j ≤ j ∧ j < j + (k + 1))]
      simp
    · rw [decide_eq_false h1, Bool.false_and, Bool.or_false]
      congr 2
      apply decide_eq_decide.mpr
      omega
theorem orV_tr {g : Nat → Int} : ∀ (k j : Nat) (a : Int), tr a → tr (orV g k j a)
  | 0, _, _, h => h
  | k + 1, j, a, _ => orV_tr k (j + 1) _ (tr_bOr _ _)
theorem rGoing_tw {s : Int → Int} (hR : RInv s) {u : Int} {t : Nat} (t1 : (t : Int) < s 1) (h : bAnd (bShr (rGoing s u) t) 1 = 1) : s (94 + (t : Int)) ≠ -1 := by
  have h1 := hR.2.1
  rw [ib_bit1 _ (by omega)] at h
  unfold rGoing at h
  rw [orV_ib (fun j => by by_cases g : rGoP s j (rWork s u) ∧ (j : Int) < s (94 + (j : Int)) <;> simp [g]) _ _ _ _ (by omega) (by omega), ib_0, Bool.false_or] at h
  simp only [Bool.and_eq_true, Bool.not_eq_true', decide_eq_false_iff_not] at h
  by_cases g : rGoP s t (rWork s u) ∧ (t : Int) < s (94 + (t : Int))
  · exact g.1.1
  · exact absurd (if_neg g) h.2
end
section
theorem rDeeps_congr {s s' : Int → Int} {f : Int} : ∀ (k : Nat), (∀ j : Nat, j < k → s' (f + (j : Int)) = s (f + (j : Int))) → rDeeps s' f k = rDeeps s f k
  | 0, _ => rfl
  | k + 1, h => by
    rw [rDeeps, rDeeps, rDeeps_congr k (fun j hj => h j (by omega)), h k (by omega)]
theorem RVal_congr {s s' : Int → Int} (h2 : s' 2 = s 2) (h : ∀ j, 279 ≤ j → s' j = s j) (hV : RVal s) : RVal s' := by
  intro a a1 a2
  rw [h (279 + a) (by omega), rDeeps_congr _ (fun j _ => h _ (by omega))]
  exact hV a a1 (by omega)
theorem RVal_up {s : Int → Int} {i x : Int} (hi : i < 279) (h2 : i ≠ 2) (hV : RVal s) : RVal (up s i x) := RVal_congr (up_ne _ _ (by omega)) (fun j hj => up_ne _ _ (by omega)) hV
/-- nobody is free -/
theorem RInv_free {s : Int → Int} {p x : Int} (p1 : 0 ≤ p ∧ p < 8) (hx : 0 ≤ x ∧ x ≤ 16777215) (hR : RInv s) : RInv (up s (34 + p) x) := by
  obtain ⟨h0, h1, h2, h3, h4, h5, h6, hp, hrw, ht, hr, hb, htp, hv⟩ := hR
  have e : ∀ j, j ≠ 34 + p → up s (34 + p) x j = s j := fun j hj => up_ne _ _ hj
  refine ⟨by rw [e _ (by omega)]; exact h0, by rw [e _ (by omega)]; exact h1, by rw [e _ (by omega)]; exact h2, by rw [e _ (by omega)]; exact h3, by rw [e _ (by omega)]; exact h4, by rw [e _ (by omega)]; exact h5, by rw [e _ (by omega), e _ (by omega)]; exact h6, ?_, ?_, ?_, ?_, ?_, ?_, ?_⟩
  · intro q q1 q2
    have w := hp q q1 q2
    rw [e (10 + q) (by omega), e (18 + q) (by omega), e (26 + q) (by omega)]
    refine ⟨w.1, w.2.1, w.2.2.1, ?_⟩
    by_cases hq : q = p
    · subst hq; rw [up_at]; exact hx
    · rw [e _ (by omega)]; exact w.2.2.2
  · intro j j1 j2; rw [e _ (by omega)]; exact hrw j j1 j2
  · intro t t1 t2
    rw [e 1 (by omega)] at t2
    have w := ht t t1 t2
    rw [e (74 + t) (by omega), e (84 + t) (by omega), e (94 + t) (by omega), e (104 + t) (by omega), e 0 (by omega), e 1 (by omega)]
    refine ⟨w.1, w.2.1, ?_, w.2.2.2⟩
    rcases w.2.2.1 with g | g
    · exact Or.inl g
    · rw [e (94 + s (94 + t)) (by omega)]; exact Or.inr g
  · intro r r1 r2
    rw [e 3 (by omega)] at r2
    rw [e (114 + r) (by omega), e (126 + r) (by omega), e (138 + r) (by omega), e 1 (by omega)]; exact hr r r1 r2
  · intro r r1 r2
    rw [e 4 (by omega)] at r2
    rw [e (150 + r) (by omega), e (162 + r) (by omega), e 1 (by omega)]; exact hb r r1 r2
  · intro i i1 i2; rw [e _ (by omega)]; exact htp i i1 i2
  · intro a a1 a2; rw [e (274 + a) (by omega), e (279 + a) (by omega)]; exact hv a a1 a2
/-- one who holds a tool is another -/
theorem RInv_held {s : Int → Int} {a x : Int} (a1 : 0 ≤ a ∧ a < 10) (hx : 0 ≤ x ∧ x < s 0) (hR : RInv s) : RInv (up s (84 + a) x) := by
  obtain ⟨h0, h1, h2, h3, h4, h5, h6, hp, hrw, ht, hr, hb, htp, hv⟩ := hR
  have e : ∀ j, j ≠ 84 + a → up s (84 + a) x j = s j := fun j hj => up_ne _ _ hj
  refine ⟨by rw [e _ (by omega)]; exact h0, by rw [e _ (by omega)]; exact h1, by rw [e _ (by omega)]; exact h2, by rw [e _ (by omega)]; exact h3, by rw [e _ (by omega)]; exact h4, by rw [e _ (by omega)]; exact h5, by rw [e _ (by omega), e _ (by omega)]; exact h6, ?_, ?_, ?_, ?_, ?_, ?_, ?_⟩
  · intro q q1 q2
    have w := hp q q1 q2
    rw [e (10 + q) (by omega), e (18 + q) (by omega), e (26 + q) (by omega), e (34 + q) (by omega)]
    exact w
  · intro j j1 j2; rw [e _ (by omega)]; exact hrw j j1 j2
  · intro t t1 t2
    rw [e 1 (by omega)] at t2
    have w := ht t t1 t2
    rw [e (74 + t) (by omega), e (94 + t) (by omega), e (104 + t) (by omega), e 0 (by omega), e 1 (by omega)]
    refine ⟨w.1, ?_, ?_, w.2.2.2⟩
    · by_cases hq : t = a
      · subst hq; rw [up_at]; exact hx
      · rw [e _ (by omega)]; exact w.2.1
    · rcases w.2.2.1 with g | g
      · exact Or.inl g
      · rw [e (94 + s (94 + t)) (by omega)]; exact Or.inr g
  · intro r r1 r2
    rw [e 3 (by omega)] at r2
    rw [e (114 + r) (by omega), e (126 + r) (by omega), e (138 + r) (by omega), e 1 (by omega)]; exact hr r r1 r2
  · intro r r1 r2
    rw [e 4 (by omega)] at r2
    rw [e (150 + r) (by omega), e (162 + r) (by omega), e 1 (by omega)]; exact hb r r1 r2
  · intro i i1 i2; rw [e _ (by omega)]; exact htp i i1 i2
  · intro a a1 a2; rw [e (274 + a) (by omega), e (279 + a) (by omega)]; exact hv a a1 a2
def rSwap (s : Int → Int) (a b : Int) : Int → Int := up (up s (84 + a) (s (84 + b))) (84 + b) (s (84 + a))
theorem rSwap_swap {s : Int → Int} {a b : Int} (hab : a ≠ b) : rSwap (rSwap s a b) a b = s := by
  funext j
  unfold rSwap up
  by_cases h1 : j = 84 + b
  · simp [h1]; intro g; omega
  · by_cases h2 : j = 84 + a
    · simp [h2]
      intro g; omega
    · simp [h1, h2]
theorem RInv_swap {s : Int → Int} {a b : Int} (a1 : 0 ≤ a ∧ a < s 1) (b1 : 0 ≤ b ∧ b < s 1) (hR : RInv s) : RInv (rSwap s a b) := by
  have h1 := hR.2.1
  have ht := hR.2.2.2.2.2.2.2.2.2.1
  have wa := ht a a1.1 a1.2
  have wb := ht b b1.1 b1.2
  have g := RInv_held (a := a) (x := s (84 + b)) (by omega) (by omega) hR
  exact RInv_held (a := b) (x := s (84 + a)) (by omega) (by rw [up_ne _ _ (by omega)]; omega) g
theorem RVal_swap {s : Int → Int} {a b : Int} (a1 : 0 ≤ a ∧ a < 10) (b1 : 0 ≤ b ∧ b < 10) (hV : RVal s) : RVal (rSwap s a b) := RVal_up (by omega) (by omega) (RVal_up (by omega) (by omega) hV)
/-- a world of other numbers, gone through, and the numbers put back -/
theorem rq_back {I J L : Nat → Int → Int} {s s' : Int → Int} (h : rq I J) (hs : J 70 = s) (g : rq (setA J 70 s') L) : rq I (setA L 70 s) := by
  refine ⟨fun b a1 a2 a3 => ?_, fun k a1 a2 a3 => ?_⟩
  · by_cases hb : b = 70
    · subst hb; rw [setA_at, ← hs]; exact h.1 70 a1 a2 a3
    · rw [setA_ne _ _ hb, g.1 b a1 a2 a3, setA_ne _ _ hb]; exact h.1 b a1 a2 a3
  · rw [setA_ne _ _ (by decide), g.2 k a1 a2 a3, setA_ne _ _ (by decide)]; exact h.2 k a1 a2 a3
def rAway (s : Int → Int) (p : Int) : Int := rBestDay s - rBestDay (up s (34 + p) 0)
def rWorstN (s : Int → Int) : Nat → Nat → Int → Int → Int
  | 0, _, b, _ => b
  | k + 1, j, b, m => if b = -5 ∨ m < rAway s j then rWorstN s k (j + 1) j (rAway s j) else rWorstN s k (j + 1) b m
/-- one tool changed with each behind it: the best, the two -/
def rChB (s : Int → Int) (a : Nat) : Nat → Nat → Int × Int × Int → Int × Int × Int
  | 0, _, q => q
  | k + 1, b, q => rChB s a k (b + 1) (if s (84 + (a : Int)) ≠ s (84 + (b : Int)) ∧ q.1 < rBestDay (rSwap s a b) then (rBestDay (rSwap s a b), (a : Int), (b : Int)) else q)
def rChA (s : Int → Int) : Nat → Nat → Int × Int × Int → Int × Int × Int
  | 0, _, q => q
  | k + 1, a, q => rChA s k (a + 1) (rChB s a k (a + 1) q)
def rChange (s : Int → Int) : Int × Int × Int := rChA s (s 1).toNat 0 (rBestDay s, -5, -5)
section RI
variable {l : Launch} {G : tG} {K : Nat → Nat × Nat} {I : Nat → Int → Int} {Q : Nat → Int → Option Nat} {n : Nat} {s : Int → Int}
theorem li_R_allWorth {u : Nat} (hS : tSt (K, I, Q, n)) (hR : RInv s) (hV : RVal s) (u1 : (u : Int) ≤ 23) {P : Option tV → tH → Prop} {F : Int} (cont : ∀ (j : Int) (J : Nat → Int → Int), J 70 = s → rq I J → tw_AW l G mR_allWorth 7 0 0 n 0 P 60 [(4, vi j), (3, vi (rGoing s u)), (2, vi (u : Int)), (1, vi F), (0, vr (some 69))] [] (K, J, Q, n)) : ∀ (k j : Nat) (a : Int) (J : Nat → Int → Int), j + k = (s 1).toNat → J 70 = s → rq I J → smV (fun t => if bAnd (bShr (rGoing s u) t) 1 = 1 then rWorth s t u else 0) k j a = F → tw_AW l G mR_allWorth 7 0 0 n 0 P 19 [(4, vi (j : Int)), (3, vi (rGoing s u)), (2, vi (u : Int)), (1, vi a), (0, vr (some 69))] [] (K, J, Q, n) := by
  obtain ⟨h0, h1, h2, h3, h4, h5, h6, hp, hrw, ht, hr, hb, htp, hv⟩ := id hR
  intro k
  induction k with
  | zero =>
    intro j a J hj hs hk hF
    refine ar_iload (k := 13) rfl rfl ?_
    refine ar_aloadn (k := 14) rfl rfl ?_
    refine br_getR (k := 15) rfl (hS.k (by decide)) flR_9_12 (by decide) rfl (hS.r rfl) ?_
    refine ar_iconst (k := 16) rfl ?_
    refine br_iads (k := 17) rfl (hS.k (by decide)) (by omega) (by omega) (by decide) hs ?_
    refine ar_icmp_ge (k := 18) rfl (by omega) (by omega) (fun c18 => ?_) (fun c18 => ?_)
    · rw [smV] at hF
      subst hF
      exact cont _ J hs hk
    · exfalso; omega
  | succ k ih =>
    intro j a J hj hs hk hF
    refine ar_iload (k := 13) rfl rfl ?_
    refine ar_aloadn (k := 14) rfl rfl ?_
    refine br_getR (k := 15) rfl (hS.k (by decide)) flR_9_12 (by decide) rfl (hS.r rfl) ?_
    refine ar_iconst (k := 16) rfl ?_
    refine br_iads (k := 17) rfl (hS.k (by decide)) (by omega) (by omega) (by decide) hs ?_
    refine ar_icmp_ge (k := 18) rfl (by omega) (by omega) (fun c18 => ?_) (fun c18 => ?_)
    · exfalso; omega
    · have hw := ht j (by omega) (by omega)
      have b1 := bAnd1 (bShr (rGoing s u) (j : Int))
      refine ar_iloadn (k := 19) rfl rfl ?_
      refine ar_iloadn (k := 20) rfl rfl ?_
      refine ar_iload (k := 21) rfl rfl ?_
      refine ar_ishr (k := 22) rfl ?_
      refine ar_iconst (k := 23) rfl ?_
      refine ar_iand (k := 24) rfl ?_
      refine ar_iconst (k := 25) rfl ?_
      refine ar_icmp_ne (k := 26) rfl (by omega) (by omega) (fun c26 => ?_) (fun c26 => ?_)
      · refine ar_iconst (k := 32) rfl ?_
        refine tw_top (y := (fun t => if bAnd (bShr (rGoing s u) t) 1 = 1 then rWorth s t u else 0) j) (by show _ = (if _ then _ else _); (repeat' split) <;> first | rfl | (exfalso; omega)) ?_
        refine ar_iadd (k := 33) rfl ?_
        refine ar_istoren (k := 34) (l2 := [(1, _), (4, _), (3, _), (2, _), (0, _)]) rfl (by decide) rfl ?_
        refine ar_iinc (k := 35) (l2 := [(4, _), (1, _), (3, _), (2, _), (0, _)]) rfl (by decide) rfl rfl ?_
        refine ar_goto (k := 36) rfl ?_
        refine ar_sub (l2 := [(4, vi ((j + 1 : Nat) : Int)), (3, vi (rGoing s u)), (2, vi (u : Int)), (1, vi (a + (fun t => if bAnd (bShr (rGoing s u) t) 1 = 1 then rWorth s t u else 0) j)), (0, vr (some 69))]) (tw_s (tw_e 0 rfl (by omega)) (tw_s (tw_g 2 rfl) (tw_s (tw_g 3 rfl) (tw_s (tw_e 1 rfl (by rfl)) (tw_s (tw_g 4 rfl) tw_s0))))) ?_
        exact ih (j + 1) _ J (by omega) hs hk hF
      · have hg := rGoing_tw hR (u := u) (t := j) (by omega) (by omega)
        refine ar_aloadn (k := 27) rfl rfl ?_
        refine ar_iload (k := 28) rfl rfl ?_
        refine ar_iloadn (k := 29) rfl rfl ?_
        refine br_callVR (k := 30) (as := [_, _]) rfl lvR_133 (hS.k (by decide)) rfl (c_R_worthOf hS hs hR hV (by omega) (by omega) (by omega)) rfl (by decide) (by decide) tw_m0 (Nat.le_of_ble_eq_true rfl) (fun I30 q30 => ?_)
        have hs30 : I30 70 = s := q30.s.trans hs
        have hk30 := rq.trans hk q30.q
        refine ar_goto (k := 31) rfl ?_
        refine tw_top (y := (fun t => if bAnd (bShr (rGoing s u) t) 1 = 1 then rWorth s t u else 0) j) (by show _ = (if _ then _ else _); (repeat' split) <;> first | rfl | (exfalso; omega)) ?_
        refine ar_iadd (k := 33) rfl ?_
        refine ar_istoren (k := 34) (l2 := [(1, _), (4, _), (3, _), (2, _), (0, _)]) rfl (by decide) rfl ?_
        refine ar_iinc (k := 35) (l2 := [(4, _), (1, _), (3, _), (2, _), (0, _)]) rfl (by decide) rfl rfl ?_
        refine ar_goto (k := 36) rfl ?_
        refine ar_sub (l2 := [(4, vi ((j + 1 : Nat) : Int)), (3, vi (rGoing s u)), (2, vi (u : Int)), (1, vi (a + (fun t => if bAnd (bShr (rGoing s u) t) 1 = 1 then rWorth s t u else 0) j)), (0, vr (some 69))]) (tw_s (tw_e 0 rfl (by omega)) (tw_s (tw_g 2 rfl) (tw_s (tw_g 3 rfl) (tw_s (tw_e 1 rfl (by rfl)) (tw_s (tw_g 4 rfl) tw_s0))))) ?_
        exact ih (j + 1) _ I30 (by omega) hs30 hk30 hF
theorem l_R_allWorth (hS : tSt (K, I, Q, n)) (hR : RInv s) (hV : RVal s) : ∀ (k : Nat) (j : Nat) (a : Int) (J : Nat → Int → Int), j + k = 24 → J 70 = s → rq I J → tw_AW l G mR_allWorth 7 0 0 n 0 (fun r h' => r = some (vi (rAllW s k j a)) ∧ ∃ L, h' = (K, L, Q, n) ∧ rq I L) 4 [(2, vi (j : Int)), (1, vi a), (0, vr (some 69))] [] (K, J, Q, n) := by
  obtain ⟨h0, h1, h2, h3, h4, h5, h6, hp, hrw, ht, hr, hb, htp, hv⟩ := id hR
  intro k
  induction k with
  | zero =>
    intro j a J hj hs hk
    refine ar_iloadn (k := 4) rfl rfl ?_
    refine ar_bipush (k := 5) rfl (by decide) ?_
    refine ar_icmp_ge (k := 6) rfl (by omega) (by omega) (fun c6 => ?_) (fun c6 => ?_)
    · refine ar_iloadn (k := 39) rfl rfl ?_
      refine ar_iret (k := 40) rfl rfl rfl (Nat.le_refl _) ?_
      exact ⟨rfl, J, rfl, hk⟩
    · exfalso; omega
  | succ k ih =>
    intro j a J hj hs hk
    refine ar_iloadn (k := 4) rfl rfl ?_
    refine ar_bipush (k := 5) rfl (by decide) ?_
    refine ar_icmp_ge (k := 6) rfl (by omega) (by omega) (fun c6 => ?_) (fun c6 => ?_)
    · exfalso; omega
    · refine ar_aloadn (k := 7) rfl rfl ?_
      refine ar_iloadn (k := 8) rfl rfl ?_
      refine br_callVR (k := 9) (as := [_]) rfl lvR_182 (hS.k (by decide)) rfl (c_R_going hS hs hR hV (by omega)) rfl (by decide) (by decide) tw_m0 (Nat.le_of_ble_eq_true rfl) (fun I9 q9 => ?_)
      have hs9 : I9 70 = s := q9.s.trans hs
      have hk9 := rq.trans hk q9.q
      refine ar_istoren (k := 10) (l2 := [(3, _), (2, _), (1, _), (0, _)]) rfl (by decide) rfl ?_
      refine ar_iconst (k := 11) rfl ?_
      refine ar_istore (k := 12) (l2 := [(4, _), (3, _), (2, _), (1, _), (0, _)]) rfl (by decide) rfl ?_
      refine ar_sub (l2 := [(4, vi ((0 : Nat) : Int)), (3, vi (rGoing s (j : Nat))), (2, vi (j : Int)), (1, vi a), (0, vr (some 69))]) (tw_s (tw_e 0 rfl (by rfl)) (tw_s (tw_g 1 rfl) (tw_s (tw_g 2 rfl) (tw_s (tw_g 3 rfl) (tw_s (tw_g 4 rfl) tw_s0))))) ?_
      refine li_R_allWorth (I := I) (u := j) hS hR hV (by omega) (F := rHourW s j a) ?_ (s 1).toNat 0 a I9 (by omega) hs9 hk9 rfl
      intro j2 J2 hs2 hk2
      refine ar_iinc (k := 37) (l2 := [(2, _), (4, _), (3, _), (1, _), (0, _)]) rfl (by decide) rfl rfl ?_
      refine ar_goto (k := 38) rfl ?_
      refine ar_sub (l2 := [(2, vi ((j + 1 : Nat) : Int)), (1, vi (rHourW s j a)), (0, vr (some 69))]) (tw_s (tw_e 0 rfl (by omega)) (tw_s (tw_g 3 rfl) (tw_s (tw_g 4 rfl) tw_s0))) ?_
      exact ih (j + 1) _ J2 (by omega) hs2 hk2
theorem c_R_allWorth (hS : tSt (K, I, Q, n)) (hs : I 70 = s) (hR : RInv s) (hV : RVal s) : tw_K l G 7 mR_allWorth [vr (some 69)] K I Q n (some (vi (rAllW s 24 0 0))) := by
  obtain ⟨h0, h1, h2, h3, h4, h5, h6, hp, hrw, ht, hr, hb, htp, hv⟩ := id hR
  refine tw_intro okR_allWorth (Nat.le_of_ble_eq_true rfl) ?_
  refine ar_iconst (k := 0) rfl ?_
  refine ar_istoren (k := 1) (l2 := [(1, _), (0, _)]) rfl (by decide) rfl ?_
  refine ar_iconst (k := 2) rfl ?_
  refine ar_istoren (k := 3) (l2 := [(2, _), (1, _), (0, _)]) rfl (by decide) rfl ?_
  refine ar_sub (l2 := [(2, vi ((0 : Nat) : Int)), (1, vi 0), (0, vr (some 69))]) (tw_s (tw_e 0 rfl (by rfl)) (tw_s (tw_g 1 rfl) (tw_s (tw_g 2 rfl) tw_s0))) ?_
  exact l_R_allWorth (I := I) hS hR hV 24 0 0 I (by omega) hs rq.rf
theorem c_R_day {w : Int} (hS : tSt (K, I, Q, n)) (hs : I 70 = s) (hR : RInv s) (hV : RVal s) (tw : tr w) : tw_K l G 17 mR_day [vr (some 69), vi w] K I Q n (some (vi (if w = 0 then rAllW s 24 0 0 else if w = 1 then rAllWait s else if w = 2 then rBestDay s else if w = 3 then rBell s else -10001))) := by
  obtain ⟨h0, h1, h2, h3, h4, h5, h6, hp, hrw, ht, hr, hb, htp, hv⟩ := id hR
  have hk : rq I I := rq.rf
  refine tw_intro okR_day (Nat.le_of_ble_eq_true rfl) ?_
  refine ar_iloadn (k := 0) rfl rfl ?_
  rcases (show w = 0 ∨ w = 1 ∨ w = 2 ∨ w = 3 ∨ (w < 0 ∨ 3 < w) by omega) with q1 | q1 | q1 | q1 | q1
  · refine ar_tswIn (k := 1) (t := 32) rfl (by omega) (by omega) (by omega) (by rw [q1]; rfl) (by decide) ?_
    refine ar_aloadn (k := 2) rfl rfl ?_
    refine br_callVK (k := 3) (as := []) rfl lvR_194 (hS.k (by decide)) rfl (c_R_allWorth hS hs hR hV) rfl (by decide) (by decide) tw_m0 (Nat.le_of_ble_eq_true rfl) (fun I3 q3 => ?_)
    have hs3 : I3 70 = s := q3.s.trans hs
    have hk3 := rq.trans hk q3
    refine ar_iret (k := 4) rfl rfl rfl (Nat.le_refl _) ?_
    exact ⟨congrArg (fun z => some (vi z)) (by omega), I3, rfl, hk3⟩
  · refine ar_tswIn (k := 1) (t := 37) rfl (by omega) (by omega) (by omega) (by rw [q1]; rfl) (by decide) ?_
    refine ar_aloadn (k := 5) rfl rfl ?_
    refine br_callVK (k := 6) (as := []) rfl lvR_197 (hS.k (by decide)) rfl (c_R_allWaiting hS hs hR hV) rfl (by decide) (by decide) tw_m0 (Nat.le_of_ble_eq_true rfl) (fun I6 q6 => ?_)
    have hs6 : I6 70 = s := q6.s.trans hs
    have hk6 := rq.trans hk q6
    refine ar_iret (k := 7) rfl rfl rfl (Nat.le_refl _) ?_
    exact ⟨congrArg (fun z => some (vi z)) (by omega), I6, rfl, hk6⟩
  · refine ar_tswIn (k := 1) (t := 42) rfl (by omega) (by omega) (by omega) (by rw [q1]; rfl) (by decide) ?_
    refine ar_aloadn (k := 8) rfl rfl ?_
    refine br_callVK (k := 9) (as := []) rfl lvR_200 (hS.k (by decide)) rfl (c_R_bestDay hS hs hR hV) rfl (by decide) (by decide) tw_m0 (Nat.le_of_ble_eq_true rfl) (fun I9 q9 => ?_)
    have hs9 : I9 70 = s := q9.s.trans hs
    have hk9 := rq.trans hk q9
    refine ar_iret (k := 10) rfl rfl rfl (Nat.le_refl _) ?_
    exact ⟨congrArg (fun z => some (vi z)) (by omega), I9, rfl, hk9⟩
  · refine ar_tswIn (k := 1) (t := 47) rfl (by omega) (by omega) (by omega) (by rw [q1]; rfl) (by decide) ?_
    refine ar_aloadn (k := 11) rfl rfl ?_
    refine br_callV (k := 12) (as := []) rfl lvR_147 (hS.k (by decide)) rfl (c_R_bell hS hs hR) rfl (by decide) (by decide) tw_m0 (Nat.le_of_ble_eq_true rfl) ?_
    refine ar_iret (k := 13) rfl rfl rfl (Nat.le_refl _) ?_
    exact ⟨congrArg (fun z => some (vi z)) (by omega), I, rfl, hk⟩
  · refine ar_tswOut (k := 1) (t := 52) rfl (by omega) (by omega) (by decide) ?_
    refine ar_sipush (k := 14) rfl (by decide) ?_
    refine ar_iret (k := 15) rfl rfl rfl (Nat.le_refl _) ?_
    exact ⟨congrArg (fun z => some (vi z)) (by omega), I, rfl, hk⟩
theorem c_R_changes {a b : Int} (hS : tSt (K, I, Q, n)) (hs : I 70 = s) (a1 : 0 ≤ a ∧ a < 10) (b1 : 0 ≤ b ∧ b < 10) (hab : a ≠ b) : tw_F l G 1 0 0 mR_changes [vr (some 69), vi a, vi b] (K, I, Q, n) none (K, setA I 70 (rSwap s a b), Q, n) := by
  subst hs
  refine tw_intro okR_changes (Nat.le_of_ble_eq_true rfl) ?_
  refine ar_aloadn (k := 0) rfl rfl ?_
  refine br_getR (k := 1) rfl (hS.k (by decide)) flR_9_12 (by decide) rfl (hS.r rfl) ?_
  refine ar_bipush (k := 2) rfl (by decide) ?_
  refine ar_iloadn (k := 3) rfl rfl ?_
  refine ar_iadd (k := 4) rfl ?_
  refine br_iald (k := 5) rfl (hS.k (by decide)) (by omega) (by omega) (by decide) ?_
  refine ar_istoren (k := 6) (l2 := [(3, _), (0, _), (1, _), (2, _)]) rfl (by decide) rfl ?_
  refine ar_aloadn (k := 7) rfl rfl ?_
  refine br_getR (k := 8) rfl (hS.k (by decide)) flR_9_12 (by decide) rfl (hS.r rfl) ?_
  refine ar_bipush (k := 9) rfl (by decide) ?_
  refine ar_iloadn (k := 10) rfl rfl ?_
  refine ar_iadd (k := 11) rfl ?_
  refine ar_aloadn (k := 12) rfl rfl ?_
  refine br_getR (k := 13) rfl (hS.k (by decide)) flR_9_12 (by decide) rfl (hS.r rfl) ?_
  refine ar_bipush (k := 14) rfl (by decide) ?_
  refine ar_iloadn (k := 15) rfl rfl ?_
  refine ar_iadd (k := 16) rfl ?_
  refine br_iald (k := 17) rfl (hS.k (by decide)) (by omega) (by omega) (by decide) ?_
  refine br_iast (k := 18) rfl (hS.k (by decide)) (by omega) (by omega) (by decide) ?_
  refine ar_aloadn (k := 19) rfl rfl ?_
  refine br_getR (k := 20) rfl (hS.k (by decide)) flR_9_12 (by decide) rfl (hS.r rfl) ?_
  refine ar_bipush (k := 21) rfl (by decide) ?_
  refine ar_iloadn (k := 22) rfl rfl ?_
  refine ar_iadd (k := 23) rfl ?_
  refine ar_iloadn (k := 24) rfl rfl ?_
  refine br_iast (k := 25) rfl (hS.k (by decide)) (by omega) (by omega) (by decide) ?_
  refine ar_ret (k := 26) rfl rfl rfl (Nat.le_refl _) ?_
  exact ⟨rfl, by simp only [uI_set, setA_setA, setA_at, rSwap]⟩
theorem c_R_awayOf {p : Int} (hS : tSt (K, I, Q, n)) (hs : I 70 = s) (hR : RInv s) (hV : RVal s) (p1 : 0 ≤ p ∧ p < 8) : tw_K l G 17 mR_awayOf [vr (some 69), vi p] K I Q n (some (vi (rAway s p))) := by
  obtain ⟨h0, h1, h2, h3, h4, h5, h6, hp, hrw, ht, hr, hb, htp, hv⟩ := id hR
  have hk : rq I I := rq.rf
  refine tw_intro okR_awayOf (Nat.le_of_ble_eq_true rfl) ?_
  refine ar_aloadn (k := 0) rfl rfl ?_
  refine br_callVK (k := 1) (as := []) rfl lvR_200 (hS.k (by decide)) rfl (c_R_bestDay hS hs hR hV) rfl (by decide) (by decide) tw_m0 (Nat.le_of_ble_eq_true rfl) (fun I1 q1 => ?_)
  have hs1 : I1 70 = s := q1.s.trans hs
  have hk1 := rq.trans hk q1
  refine ar_istoren (k := 2) (l2 := [(2, _), (0, _), (1, _)]) rfl (by decide) rfl ?_
  refine ar_aloadn (k := 3) rfl rfl ?_
  refine br_getR (k := 4) rfl (hS.k (by decide)) flR_9_12 (by decide) rfl (hS.r rfl) ?_
  refine ar_bipush (k := 5) rfl (by decide) ?_
  refine ar_iloadn (k := 6) rfl rfl ?_
  refine ar_iadd (k := 7) rfl ?_
  refine br_iads (k := 8) rfl (hS.k (by decide)) (by omega) (by omega) (by decide) hs1 ?_
  refine ar_istoren (k := 9) (l2 := [(3, _), (2, _), (0, _), (1, _)]) rfl (by decide) rfl ?_
  refine ar_aloadn (k := 10) rfl rfl ?_
  refine br_getR (k := 11) rfl (hS.k (by decide)) flR_9_12 (by decide) rfl (hS.r rfl) ?_
  refine ar_bipush (k := 12) rfl (by decide) ?_
  refine ar_iloadn (k := 13) rfl rfl ?_
  refine ar_iadd (k := 14) rfl ?_
  refine ar_iconst (k := 15) rfl ?_
  refine br_iast (k := 16) rfl (hS.k (by decide)) (by omega) (by omega) (by decide) ?_
  rw [uI_set, hs1]
  refine ar_aloadn (k := 17) rfl rfl ?_
  refine br_callVK (k := 18) (as := []) rfl lvR_200 (hS.k (by decide)) rfl (c_R_bestDay (s := up s (34 + p) 0) hS (setA_at _ _ _) (RInv_free p1 (by decide) hR) (RVal_up (by omega) (by omega) hV)) rfl (by decide) (by decide) tw_m0 (Nat.le_of_ble_eq_true rfl) (fun I18 q18 => ?_)
  refine ar_istore (k := 19) (l2 := [(4, _), (3, _), (2, _), (0, _), (1, _)]) rfl (by decide) rfl ?_
  refine ar_aloadn (k := 20) rfl rfl ?_
  refine br_getR (k := 21) rfl (hS.k (by decide)) flR_9_12 (by decide) rfl (hS.r rfl) ?_
  refine ar_bipush (k := 22) rfl (by decide) ?_
  refine ar_iloadn (k := 23) rfl rfl ?_
  refine ar_iadd (k := 24) rfl ?_
  refine ar_iloadn (k := 25) rfl rfl ?_
  refine br_iast (k := 26) rfl (hS.k (by decide)) (by omega) (by omega) (by decide) ?_
  rw [uI_set, q18.s, setA_at, up_up, up_id]
  refine ar_iloadn (k := 27) rfl rfl ?_
  refine ar_iload (k := 28) rfl rfl ?_
  refine ar_isub (k := 29) rfl ?_
  refine ar_iret (k := 30) rfl rfl rfl (Nat.le_refl _) ?_
  exact ⟨rfl, _, rfl, rq_back hk1 hs1 q18⟩
theorem c_R_away {p : Int} (hS : tSt (K, I, Q, n)) (hs : I 70 = s) (hR : RInv s) (hV : RVal s) (tp : tr p) : tw_K l G 18 mR_away [vr (some 69), vi p] K I Q n (some (vi (if 0 ≤ p ∧ p ≤ s 0 - 1 then rAway s p else -10001))) := by
  obtain ⟨h0, h1, h2, h3, h4, h5, h6, hp, hrw, ht, hr, hb, htp, hv⟩ := id hR
  have hk : rq I I := rq.rf
  refine tw_intro okR_away (Nat.le_of_ble_eq_true rfl) ?_
  refine ar_aloadn (k := 0) rfl rfl ?_
  refine ar_iloadn (k := 1) rfl rfl ?_
  refine br_callV (k := 2) (as := [_]) rfl lvR_115 (hS.k (by decide)) rfl (c_S_isPerson hS hs (by omega) h0) rfl (by decide) (by decide) tw_m0 (Nat.le_of_ble_eq_true rfl) ?_
  refine ar_if_eq (k := 3) rfl (by omega) (fun c3 => ?_) (fun c3 => ?_)
  · refine ar_sipush (k := 8) rfl (by decide) ?_
    refine ar_iret (k := 9) rfl rfl rfl (Nat.le_refl _) ?_
    exact ⟨congrArg (fun z => some (vi z)) (by omega), I, rfl, hk⟩
  · refine ar_aloadn (k := 4) rfl rfl ?_
    refine ar_iloadn (k := 5) rfl rfl ?_
    refine br_callVK (k := 6) (as := [_]) rfl lvR_207 (hS.k (by decide)) rfl (c_R_awayOf hS hs hR hV (by omega)) rfl (by decide) (by decide) tw_m0 (Nat.le_of_ble_eq_true rfl) (fun I6 q6 => ?_)
    have hs6 : I6 70 = s := q6.s.trans hs
    have hk6 := rq.trans hk q6
    refine ar_goto (k := 7) rfl ?_
    refine ar_iret (k := 9) rfl rfl rfl (Nat.le_refl _) ?_
    exact ⟨congrArg (fun z => some (vi z)) (by omega), I6, rfl, hk6⟩
theorem rAway_bd {s : Int → Int} {p : Int} (hR : RInv s) (hV : RVal s) (p1 : 0 ≤ p ∧ p < 8) : -24000000 ≤ rAway s p ∧ rAway s p ≤ 24000000 := by
  have a1 := rBestDay_bd hR hV
  have a2 := rBestDay_bd (RInv_free p1 (by decide : (0 : Int) ≤ 0 ∧ (0 : Int) ≤ 16777215) hR) (RVal_up (i := 34 + p) (x := 0) (by omega) (by omega) hV)
  unfold rAway
  omega
theorem l_R_worst (hS : tSt (K, I, Q, n)) (hR : RInv s) (hV : RVal s) : ∀ (k : Nat) (j : Nat) (b m : Int) (J : Nat → Int → Int), j + k = (s 0).toNat → J 70 = s → rq I J → (b = -5 ∨ (0 ≤ b ∧ b < 10)) → (-24000000 ≤ m ∧ m ≤ 24000000) → tw_AW l G mR_worst 18 0 0 n 0 (fun r h' => r = some (vi (rWorstN s k j b m)) ∧ ∃ L, h' = (K, L, Q, n) ∧ rq I L) 7 [(3, vi (j : Int)), (2, vi m), (1, vi b), (0, vr (some 69))] [] (K, J, Q, n) := by
  obtain ⟨h0, h1, h2, h3, h4, h5, h6, hp, hrw, ht, hr, hb, htp, hv⟩ := id hR
  intro k
  induction k with
  | zero =>
    intro j b m J hj hs hk hb9 hmm
    refine ar_iloadn (k := 6) rfl rfl ?_
    refine ar_aloadn (k := 7) rfl rfl ?_
    refine br_getR (k := 8) rfl (hS.k (by decide)) flR_9_12 (by decide) rfl (hS.r rfl) ?_
    refine ar_iconst (k := 9) rfl ?_
    refine br_iads (k := 10) rfl (hS.k (by decide)) (by omega) (by omega) (by decide) hs ?_
    refine ar_icmp_ge (k := 11) rfl (by omega) (by omega) (fun c11 => ?_) (fun c11 => ?_)
    · refine ar_iloadn (k := 40) rfl rfl ?_
      refine ar_iret (k := 41) rfl rfl rfl (Nat.le_refl _) ?_
      exact ⟨rfl, J, rfl, hk⟩
    · exfalso; omega
  | succ k ih =>
    intro j b m J hj hs hk hb9 hmm
    refine ar_iloadn (k := 6) rfl rfl ?_
    refine ar_aloadn (k := 7) rfl rfl ?_
    refine br_getR (k := 8) rfl (hS.k (by decide)) flR_9_12 (by decide) rfl (hS.r rfl) ?_
    refine ar_iconst (k := 9) rfl ?_
    refine br_iads (k := 10) rfl (hS.k (by decide)) (by omega) (by omega) (by decide) hs ?_
    refine ar_icmp_ge (k := 11) rfl (by omega) (by omega) (fun c11 => ?_) (fun c11 => ?_)
    · exfalso; omega
    · have hbd := rAway_bd (p := (j : Int)) hR hV (by omega)
      refine ar_aloadn (k := 12) rfl rfl ?_
      refine ar_iloadn (k := 13) rfl rfl ?_
      refine br_callVK (k := 14) (as := [_]) rfl lvR_207 (hS.k (by decide)) rfl (c_R_awayOf hS hs hR hV (by omega)) rfl (by decide) (by decide) tw_m0 (Nat.le_of_ble_eq_true rfl) (fun I14 q14 => ?_)
      have hs14 : I14 70 = s := q14.s.trans hs
      have hk14 := rq.trans hk q14
      refine ar_istore (k := 15) (l2 := [(4, _), (3, _), (2, _), (1, _), (0, _)]) rfl (by decide) rfl ?_
      refine ar_iloadn (k := 16) rfl rfl ?_
      refine ar_bipush (k := 17) rfl (by decide) ?_
      refine ar_icmp_eq (k := 18) rfl (by omega) (by omega) (fun c18 => ?_) (fun c18 => ?_)
      · refine ar_iconst (k := 22) rfl ?_
        refine ar_goto (k := 23) rfl ?_
        refine ar_istore (k := 25) (l2 := [(5, _), (4, _), (3, _), (2, _), (1, _), (0, _)]) rfl (by decide) rfl ?_
        refine ar_iload (k := 26) rfl rfl ?_
        refine ar_if_eq (k := 27) rfl (by omega) (fun c27 => ?_) (fun c27 => ?_)
        · refine ar_iloadn (k := 30) rfl rfl ?_
          refine ar_istoren (k := 31) (l2 := [(1, _), (5, _), (4, _), (3, _), (2, _), (0, _)]) rfl (by decide) rfl ?_
          refine ar_iload (k := 32) rfl rfl ?_
          refine ar_if_eq (k := 33) rfl (by omega) (fun c33 => ?_) (fun c33 => ?_)
          · refine ar_iloadn (k := 36) rfl rfl ?_
            refine ar_istoren (k := 37) (l2 := [(2, _), (1, _), (5, _), (4, _), (3, _), (0, _)]) rfl (by decide) rfl ?_
            first
              | (exfalso; omega)
              | (refine ar_iinc (k := 38) (l2 := [(3, _), (2, _), (1, _), (5, _), (4, _), (0, _)]) rfl (by decide) rfl rfl ?_; refine ar_goto (k := 39) rfl ?_; refine ar_sub (l2 := [(3, vi ((j + 1 : Nat) : Int)), (2, vi (rAway s j)), (1, vi ((j : Int))), (0, vr (some 69))]) (tw_s (tw_e 0 rfl (by omega)) (tw_s (tw_g 1 rfl) (tw_s (tw_g 2 rfl) (tw_s (tw_g 5 rfl) tw_s0)))) ?_; rw [show rWorstN s (k + 1) j b m = rWorstN s k (j + 1) j (rAway s j) by rw [rWorstN, if_pos (by omega)]]; exact ih (j + 1) _ _ I14 (by omega) hs14 hk14 (by omega) (by omega))
              | (refine ar_iinc (k := 38) (l2 := [(3, _), (2, _), (1, _), (5, _), (4, _), (0, _)]) rfl (by decide) rfl rfl ?_; refine ar_goto (k := 39) rfl ?_; refine ar_sub (l2 := [(3, vi ((j + 1 : Nat) : Int)), (2, vi (m)), (1, vi (b)), (0, vr (some 69))]) (tw_s (tw_e 0 rfl (by omega)) (tw_s (tw_g 1 rfl) (tw_s (tw_g 2 rfl) (tw_s (tw_g 5 rfl) tw_s0)))) ?_; rw [show rWorstN s (k + 1) j b m = rWorstN s k (j + 1) b m by rw [rWorstN, if_neg (by omega)]]; exact ih (j + 1) _ _ I14 (by omega) hs14 hk14 (by omega) (by omega))
          · refine ar_iload (k := 34) rfl rfl ?_
            refine ar_goto (k := 35) rfl ?_
            refine ar_istoren (k := 37) (l2 := [(2, _), (1, _), (5, _), (4, _), (3, _), (0, _)]) rfl (by decide) rfl ?_
            first
              | (exfalso; omega)
              | (refine ar_iinc (k := 38) (l2 := [(3, _), (2, _), (1, _), (5, _), (4, _), (0, _)]) rfl (by decide) rfl rfl ?_; refine ar_goto (k := 39) rfl ?_; refine ar_sub (l2 := [(3, vi ((j + 1 : Nat) : Int)), (2, vi (rAway s j)), (1, vi ((j : Int))), (0, vr (some 69))]) (tw_s (tw_e 0 rfl (by omega)) (tw_s (tw_g 1 rfl) (tw_s (tw_g 2 rfl) (tw_s (tw_g 5 rfl) tw_s0)))) ?_; rw [show rWorstN s (k + 1) j b m = rWorstN s k (j + 1) j (rAway s j) by rw [rWorstN, if_pos (by omega)]]; exact ih (j + 1) _ _ I14 (by omega) hs14 hk14 (by omega) (by omega))
              | (refine ar_iinc (k := 38) (l2 := [(3, _), (2, _), (1, _), (5, _), (4, _), (0, _)]) rfl (by decide) rfl rfl ?_; refine ar_goto (k := 39) rfl ?_; refine ar_sub (l2 := [(3, vi ((j + 1 : Nat) : Int)), (2, vi (m)), (1, vi (b)), (0, vr (some 69))]) (tw_s (tw_e 0 rfl (by omega)) (tw_s (tw_g 1 rfl) (tw_s (tw_g 2 rfl) (tw_s (tw_g 5 rfl) tw_s0)))) ?_; rw [show rWorstN s (k + 1) j b m = rWorstN s k (j + 1) b m by rw [rWorstN, if_neg (by omega)]]; exact ih (j + 1) _ _ I14 (by omega) hs14 hk14 (by omega) (by omega))
        · refine ar_iloadn (k := 28) rfl rfl ?_
          refine ar_goto (k := 29) rfl ?_
          refine ar_istoren (k := 31) (l2 := [(1, _), (5, _), (4, _), (3, _), (2, _), (0, _)]) rfl (by decide) rfl ?_
          refine ar_iload (k := 32) rfl rfl ?_
          refine ar_if_eq (k := 33) rfl (by omega) (fun c33 => ?_) (fun c33 => ?_)
          · refine ar_iloadn (k := 36) rfl rfl ?_
            refine ar_istoren (k := 37) (l2 := [(2, _), (1, _), (5, _), (4, _), (3, _), (0, _)]) rfl (by decide) rfl ?_
            first
              | (exfalso; omega)
              | (refine ar_iinc (k := 38) (l2 := [(3, _), (2, _), (1, _), (5, _), (4, _), (0, _)]) rfl (by decide) rfl rfl ?_; refine ar_goto (k := 39) rfl ?_; refine ar_sub (l2 := [(3, vi ((j + 1 : Nat) : Int)), (2, vi (rAway s j)), (1, vi ((j : Int))), (0, vr (some 69))]) (tw_s (tw_e 0 rfl (by omega)) (tw_s (tw_g 1 rfl) (tw_s (tw_g 2 rfl) (tw_s (tw_g 5 rfl) tw_s0)))) ?_; rw [show rWorstN s (k + 1) j b m = rWorstN s k (j + 1) j (rAway s j) by rw [rWorstN, if_pos (by omega)]]; exact ih (j + 1) _ _ I14 (by omega) hs14 hk14 (by omega) (by omega))
              | (refine ar_iinc (k := 38) (l2 := [(3, _), (2, _), (1, _), (5, _), (4, _), (0, _)]) rfl (by decide) rfl rfl ?_; refine ar_goto (k := 39) rfl ?_; refine ar_sub (l2 := [(3, vi ((j + 1 : Nat) : Int)), (2, vi (m)), (1, vi (b)), (0, vr (some 69))]) (tw_s (tw_e 0 rfl (by omega)) (tw_s (tw_g 1 rfl) (tw_s (tw_g 2 rfl) (tw_s (tw_g 5 rfl) tw_s0)))) ?_; rw [show rWorstN s (k + 1) j b m = rWorstN s k (j + 1) b m by rw [rWorstN, if_neg (by omega)]]; exact ih (j + 1) _ _ I14 (by omega) hs14 hk14 (by omega) (by omega))
          · refine ar_iload (k := 34) rfl rfl ?_
            refine ar_goto (k := 35) rfl ?_
            refine ar_istoren (k := 37) (l2 := [(2, _), (1, _), (5, _), (4, _), (3, _), (0, _)]) rfl (by decide) rfl ?_
            first
              | (exfalso; omega)
              | (refine ar_iinc (k := 38) (l2 := [(3, _), (2, _), (1, _), (5, _), (4, _), (0, _)]) rfl (by decide) rfl rfl ?_; refine ar_goto (k := 39) rfl ?_; refine ar_sub (l2 := [(3, vi ((j + 1 : Nat) : Int)), (2, vi (rAway s j)), (1, vi ((j : Int))), (0, vr (some 69))]) (tw_s (tw_e 0 rfl (by omega)) (tw_s (tw_g 1 rfl) (tw_s (tw_g 2 rfl) (tw_s (tw_g 5 rfl) tw_s0)))) ?_; rw [show rWorstN s (k + 1) j b m = rWorstN s k (j + 1) j (rAway s j) by rw [rWorstN, if_pos (by omega)]]; exact ih (j + 1) _ _ I14 (by omega) hs14 hk14 (by omega) (by omega))
              | (refine ar_iinc (k := 38) (l2 := [(3, _), (2, _), (1, _), (5, _), (4, _), (0, _)]) rfl (by decide) rfl rfl ?_; refine ar_goto (k := 39) rfl ?_; refine ar_sub (l2 := [(3, vi ((j + 1 : Nat) : Int)), (2, vi (m)), (1, vi (b)), (0, vr (some 69))]) (tw_s (tw_e 0 rfl (by omega)) (tw_s (tw_g 1 rfl) (tw_s (tw_g 2 rfl) (tw_s (tw_g 5 rfl) tw_s0)))) ?_; rw [show rWorstN s (k + 1) j b m = rWorstN s k (j + 1) b m by rw [rWorstN, if_neg (by omega)]]; exact ih (j + 1) _ _ I14 (by omega) hs14 hk14 (by omega) (by omega))
      · refine ar_iload (k := 19) rfl rfl ?_
        refine ar_iloadn (k := 20) rfl rfl ?_
        refine ar_icmp_le (k := 21) rfl (by omega) (by omega) (fun c21 => ?_) (fun c21 => ?_)
        · refine ar_iconst (k := 24) rfl ?_
          refine ar_istore (k := 25) (l2 := [(5, _), (4, _), (3, _), (2, _), (1, _), (0, _)]) rfl (by decide) rfl ?_
          refine ar_iload (k := 26) rfl rfl ?_
          refine ar_if_eq (k := 27) rfl (by omega) (fun c27 => ?_) (fun c27 => ?_)
          · refine ar_iloadn (k := 30) rfl rfl ?_
            refine ar_istoren (k := 31) (l2 := [(1, _), (5, _), (4, _), (3, _), (2, _), (0, _)]) rfl (by decide) rfl ?_
            refine ar_iload (k := 32) rfl rfl ?_
            refine ar_if_eq (k := 33) rfl (by omega) (fun c33 => ?_) (fun c33 => ?_)
            · refine ar_iloadn (k := 36) rfl rfl ?_
              refine ar_istoren (k := 37) (l2 := [(2, _), (1, _), (5, _), (4, _), (3, _), (0, _)]) rfl (by decide) rfl ?_
              first
                | (exfalso; omega)
                | (refine ar_iinc (k := 38) (l2 := [(3, _), (2, _), (1, _), (5, _), (4, _), (0, _)]) rfl (by decide) rfl rfl ?_; refine ar_goto (k := 39) rfl ?_; refine ar_sub (l2 := [(3, vi ((j + 1 : Nat) : Int)), (2, vi (rAway s j)), (1, vi ((j : Int))), (0, vr (some 69))]) (tw_s (tw_e 0 rfl (by omega)) (tw_s (tw_g 1 rfl) (tw_s (tw_g 2 rfl) (tw_s (tw_g 5 rfl) tw_s0)))) ?_; rw [show rWorstN s (k + 1) j b m = rWorstN s k (j + 1) j (rAway s j) by rw [rWorstN, if_pos (by omega)]]; exact ih (j + 1) _ _ I14 (by omega) hs14 hk14 (by omega) (by omega))
                | (refine ar_iinc (k := 38) (l2 := [(3, _), (2, _), (1, _), (5, _), (4, _), (0, _)]) rfl (by decide) rfl rfl ?_; refine ar_goto (k := 39) rfl ?_; refine ar_sub (l2 := [(3, vi ((j + 1 : Nat) : Int)), (2, vi (m)), (1, vi (b)), (0, vr (some 69))]) (tw_s (tw_e 0 rfl (by omega)) (tw_s (tw_g 1 rfl) (tw_s (tw_g 2 rfl) (tw_s (tw_g 5 rfl) tw_s0)))) ?_; rw [show rWorstN s (k + 1) j b m = rWorstN s k (j + 1) b m by rw [rWorstN, if_neg (by omega)]]; exact ih (j + 1) _ _ I14 (by omega) hs14 hk14 (by omega) (by omega))
            · refine ar_iload (k := 34) rfl rfl ?_
              refine ar_goto (k := 35) rfl ?_
              refine ar_istoren (k := 37) (l2 := [(2, _), (1, _), (5, _), (4, _), (3, _), (0, _)]) rfl (by decide) rfl ?_
              first
                | (exfalso; omega)
                | (refine ar_iinc (k := 38) (l2 := [(3, _), (2, _), (1, _), (5, _), (4, _), (0, _)]) rfl (by decide) rfl rfl ?_; refine ar_goto (k := 39) rfl ?_; refine ar_sub (l2 := [(3, vi ((j + 1 : Nat) : Int)), (2, vi (rAway s j)), (1, vi ((j : Int))), (0, vr (some 69))]) (tw_s (tw_e 0 rfl (by omega)) (tw_s (tw_g 1 rfl) (tw_s (tw_g 2 rfl) (tw_s (tw_g 5 rfl) tw_s0)))) ?_; rw [show rWorstN s (k + 1) j b m = rWorstN s k (j + 1) j (rAway s j) by rw [rWorstN, if_pos (by omega)]]; exact ih (j + 1) _ _ I14 (by omega) hs14 hk14 (by omega) (by omega))
                | (refine ar_iinc (k := 38) (l2 := [(3, _), (2, _), (1, _), (5, _), (4, _), (0, _)]) rfl (by decide) rfl rfl ?_; refine ar_goto (k := 39) rfl ?_; refine ar_sub (l2 := [(3, vi ((j + 1 : Nat) : Int)), (2, vi (m)), (1, vi (b)), (0, vr (some 69))]) (tw_s (tw_e 0 rfl (by omega)) (tw_s (tw_g 1 rfl) (tw_s (tw_g 2 rfl) (tw_s (tw_g 5 rfl) tw_s0)))) ?_; rw [show rWorstN s (k + 1) j b m = rWorstN s k (j + 1) b m by rw [rWorstN, if_neg (by omega)]]; exact ih (j + 1) _ _ I14 (by omega) hs14 hk14 (by omega) (by omega))
          · refine ar_iloadn (k := 28) rfl rfl ?_
            refine ar_goto (k := 29) rfl ?_
            refine ar_istoren (k := 31) (l2 := [(1, _), (5, _), (4, _), (3, _), (2, _), (0, _)]) rfl (by decide) rfl ?_
            refine ar_iload (k := 32) rfl rfl ?_
            refine ar_if_eq (k := 33) rfl (by omega) (fun c33 => ?_) (fun c33 => ?_)
            · refine ar_iloadn (k := 36) rfl rfl ?_
              refine ar_istoren (k := 37) (l2 := [(2, _), (1, _), (5, _), (4, _), (3, _), (0, _)]) rfl (by decide) rfl ?_
              first
                | (exfalso; omega)
                | (refine ar_iinc (k := 38) (l2 := [(3, _), (2, _), (1, _), (5, _), (4, _), (0, _)]) rfl (by decide) rfl rfl ?_; refine ar_goto (k := 39) rfl ?_; refine ar_sub (l2 := [(3, vi ((j + 1 : Nat) : Int)), (2, vi (rAway s j)), (1, vi ((j : Int))), (0, vr (some 69))]) (tw_s (tw_e 0 rfl (by omega)) (tw_s (tw_g 1 rfl) (tw_s (tw_g 2 rfl) (tw_s (tw_g 5 rfl) tw_s0)))) ?_; rw [show rWorstN s (k + 1) j b m = rWorstN s k (j + 1) j (rAway s j) by rw [rWorstN, if_pos (by omega)]]; exact ih (j + 1) _ _ I14 (by omega) hs14 hk14 (by omega) (by omega))
                | (refine ar_iinc (k := 38) (l2 := [(3, _), (2, _), (1, _), (5, _), (4, _), (0, _)]) rfl (by decide) rfl rfl ?_; refine ar_goto (k := 39) rfl ?_; refine ar_sub (l2 := [(3, vi ((j + 1 : Nat) : Int)), (2, vi (m)), (1, vi (b)), (0, vr (some 69))]) (tw_s (tw_e 0 rfl (by omega)) (tw_s (tw_g 1 rfl) (tw_s (tw_g 2 rfl) (tw_s (tw_g 5 rfl) tw_s0)))) ?_; rw [show rWorstN s (k + 1) j b m = rWorstN s k (j + 1) b m by rw [rWorstN, if_neg (by omega)]]; exact ih (j + 1) _ _ I14 (by omega) hs14 hk14 (by omega) (by omega))
            · refine ar_iload (k := 34) rfl rfl ?_
              refine ar_goto (k := 35) rfl ?_
              refine ar_istoren (k := 37) (l2 := [(2, _), (1, _), (5, _), (4, _), (3, _), (0, _)]) rfl (by decide) rfl ?_
              first
                | (exfalso; omega)
                | (refine ar_iinc (k := 38) (l2 := [(3, _), (2, _), (1, _), (5, _), (4, _), (0, _)]) rfl (by decide) rfl rfl ?_; refine ar_goto (k := 39) rfl ?_; refine ar_sub (l2 := [(3, vi ((j + 1 : Nat) : Int)), (2, vi (rAway s j)), (1, vi ((j : Int))), (0, vr (some 69))]) (tw_s (tw_e 0 rfl (by omega)) (tw_s (tw_g 1 rfl) (tw_s (tw_g 2 rfl) (tw_s (tw_g 5 rfl) tw_s0)))) ?_; rw [show rWorstN s (k + 1) j b m = rWorstN s k (j + 1) j (rAway s j) by rw [rWorstN, if_pos (by omega)]]; exact ih (j + 1) _ _ I14 (by omega) hs14 hk14 (by omega) (by omega))
                | (refine ar_iinc (k := 38) (l2 := [(3, _), (2, _), (1, _), (5, _), (4, _), (0, _)]) rfl (by decide) rfl rfl ?_; refine ar_goto (k := 39) rfl ?_; refine ar_sub (l2 := [(3, vi ((j + 1 : Nat) : Int)), (2, vi (m)), (1, vi (b)), (0, vr (some 69))]) (tw_s (tw_e 0 rfl (by omega)) (tw_s (tw_g 1 rfl) (tw_s (tw_g 2 rfl) (tw_s (tw_g 5 rfl) tw_s0)))) ?_; rw [show rWorstN s (k + 1) j b m = rWorstN s k (j + 1) b m by rw [rWorstN, if_neg (by omega)]]; exact ih (j + 1) _ _ I14 (by omega) hs14 hk14 (by omega) (by omega))
        · refine ar_iconst (k := 22) rfl ?_
          refine ar_goto (k := 23) rfl ?_
          refine ar_istore (k := 25) (l2 := [(5, _), (4, _), (3, _), (2, _), (1, _), (0, _)]) rfl (by decide) rfl ?_
          refine ar_iload (k := 26) rfl rfl ?_
          refine ar_if_eq (k := 27) rfl (by omega) (fun c27 => ?_) (fun c27 => ?_)
          · refine ar_iloadn (k := 30) rfl rfl ?_
            refine ar_istoren (k := 31) (l2 := [(1, _), (5, _), (4, _), (3, _), (2, _), (0, _)]) rfl (by decide) rfl ?_
            refine ar_iload (k := 32) rfl rfl ?_
            refine ar_if_eq (k := 33) rfl (by omega) (fun c33 => ?_) (fun c33 => ?_)
            · refine ar_iloadn (k := 36) rfl rfl ?_
              refine ar_istoren (k := 37) (l2 := [(2, _), (1, _), (5, _), (4, _), (3, _), (0, _)]) rfl (by decide) rfl ?_
              first
                | (exfalso; omega)
                | (refine ar_iinc (k := 38) (l2 := [(3, _), (2, _), (1, _), (5, _), (4, _), (0, _)]) rfl (by decide) rfl rfl ?_; refine ar_goto (k := 39) rfl ?_; refine ar_sub (l2 := [(3, vi ((j + 1 : Nat) : Int)), (2, vi (rAway s j)), (1, vi ((j : Int))), (0, vr (some 69))]) (tw_s (tw_e 0 rfl (by omega)) (tw_s (tw_g 1 rfl) (tw_s (tw_g 2 rfl) (tw_s (tw_g 5 rfl) tw_s0)))) ?_; rw [show rWorstN s (k + 1) j b m = rWorstN s k (j + 1) j (rAway s j) by rw [rWorstN, if_pos (by omega)]]; exact ih (j + 1) _ _ I14 (by omega) hs14 hk14 (by omega) (by omega))
                | (refine ar_iinc (k := 38) (l2 := [(3, _), (2, _), (1, _), (5, _), (4, _), (0, _)]) rfl (by decide) rfl rfl ?_; refine ar_goto (k := 39) rfl ?_; refine ar_sub (l2 := [(3, vi ((j + 1 : Nat) : Int)), (2, vi (m)), (1, vi (b)), (0, vr (some 69))]) (tw_s (tw_e 0 rfl (by omega)) (tw_s (tw_g 1 rfl) (tw_s (tw_g 2 rfl) (tw_s (tw_g 5 rfl) tw_s0)))) ?_; rw [show rWorstN s (k + 1) j b m = rWorstN s k (j + 1) b m by rw [rWorstN, if_neg (by omega)]]; exact ih (j + 1) _ _ I14 (by omega) hs14 hk14 (by omega) (by omega))
            · refine ar_iload (k := 34) rfl rfl ?_
              refine ar_goto (k := 35) rfl ?_
              refine ar_istoren (k := 37) (l2 := [(2, _), (1, _), (5, _), (4, _), (3, _), (0, _)]) rfl (by decide) rfl ?_
              first
                | (exfalso; omega)
                | (refine ar_iinc (k := 38) (l2 := [(3, _), (2, _), (1, _), (5, _), (4, _), (0, _)]) rfl (by decide) rfl rfl ?_; refine ar_goto (k := 39) rfl ?_; refine ar_sub (l2 := [(3, vi ((j + 1 : Nat) : Int)), (2, vi (rAway s j)), (1, vi ((j : Int))), (0, vr (some 69))]) (tw_s (tw_e 0 rfl (by omega)) (tw_s (tw_g 1 rfl) (tw_s (tw_g 2 rfl) (tw_s (tw_g 5 rfl) tw_s0)))) ?_; rw [show rWorstN s (k + 1) j b m = rWorstN s k (j + 1) j (rAway s j) by rw [rWorstN, if_pos (by omega)]]; exact ih (j + 1) _ _ I14 (by omega) hs14 hk14 (by omega) (by omega))
                | (refine ar_iinc (k := 38) (l2 := [(3, _), (2, _), (1, _), (5, _), (4, _), (0, _)]) rfl (by decide) rfl rfl ?_; refine ar_goto (k := 39) rfl ?_; refine ar_sub (l2 := [(3, vi ((j + 1 : Nat) : Int)), (2, vi (m)), (1, vi (b)), (0, vr (some 69))]) (tw_s (tw_e 0 rfl (by omega)) (tw_s (tw_g 1 rfl) (tw_s (tw_g 2 rfl) (tw_s (tw_g 5 rfl) tw_s0)))) ?_; rw [show rWorstN s (k + 1) j b m = rWorstN s k (j + 1) b m by rw [rWorstN, if_neg (by omega)]]; exact ih (j + 1) _ _ I14 (by omega) hs14 hk14 (by omega) (by omega))
          · refine ar_iloadn (k := 28) rfl rfl ?_
            refine ar_goto (k := 29) rfl ?_
            refine ar_istoren (k := 31) (l2 := [(1, _), (5, _), (4, _), (3, _), (2, _), (0, _)]) rfl (by decide) rfl ?_
            refine ar_iload (k := 32) rfl rfl ?_
            refine ar_if_eq (k := 33) rfl (by omega) (fun c33 => ?_) (fun c33 => ?_)
            · refine ar_iloadn (k := 36) rfl rfl ?_
              refine ar_istoren (k := 37) (l2 := [(2, _), (1, _), (5, _), (4, _), (3, _), (0, _)]) rfl (by decide) rfl ?_
              first
                | (exfalso; omega)
                | (refine ar_iinc (k := 38) (l2 := [(3, _), (2, _), (1, _), (5, _), (4, _), (0, _)]) rfl (by decide) rfl rfl ?_; refine ar_goto (k := 39) rfl ?_; refine ar_sub (l2 := [(3, vi ((j + 1 : Nat) : Int)), (2, vi (rAway s j)), (1, vi ((j : Int))), (0, vr (some 69))]) (tw_s (tw_e 0 rfl (by omega)) (tw_s (tw_g 1 rfl) (tw_s (tw_g 2 rfl) (tw_s (tw_g 5 rfl) tw_s0)))) ?_; rw [show rWorstN s (k + 1) j b m = rWorstN s k (j + 1) j (rAway s j) by rw [rWorstN, if_pos (by omega)]]; exact ih (j + 1) _ _ I14 (by omega) hs14 hk14 (by omega) (by omega))
                | (refine ar_iinc (k := 38) (l2 := [(3, _), (2, _), (1, _), (5, _), (4, _), (0, _)]) rfl (by decide) rfl rfl ?_; refine ar_goto (k := 39) rfl ?_; refine ar_sub (l2 := [(3, vi ((j + 1 : Nat) : Int)), (2, vi (m)), (1, vi (b)), (0, vr (some 69))]) (tw_s (tw_e 0 rfl (by omega)) (tw_s (tw_g 1 rfl) (tw_s (tw_g 2 rfl) (tw_s (tw_g 5 rfl) tw_s0)))) ?_; rw [show rWorstN s (k + 1) j b m = rWorstN s k (j + 1) b m by rw [rWorstN, if_neg (by omega)]]; exact ih (j + 1) _ _ I14 (by omega) hs14 hk14 (by omega) (by omega))
            · refine ar_iload (k := 34) rfl rfl ?_
              refine ar_goto (k := 35) rfl ?_
              refine ar_istoren (k := 37) (l2 := [(2, _), (1, _), (5, _), (4, _), (3, _), (0, _)]) rfl (by decide) rfl ?_
              first
                | (exfalso; omega)
                | (refine ar_iinc (k := 38) (l2 := [(3, _), (2, _), (1, _), (5, _), (4, _), (0, _)]) rfl (by decide) rfl rfl ?_; refine ar_goto (k := 39) rfl ?_; refine ar_sub (l2 := [(3, vi ((j + 1 : Nat) : Int)), (2, vi (rAway s j)), (1, vi ((j : Int))), (0, vr (some 69))]) (tw_s (tw_e 0 rfl (by omega)) (tw_s (tw_g 1 rfl) (tw_s (tw_g 2 rfl) (tw_s (tw_g 5 rfl) tw_s0)))) ?_; rw [show rWorstN s (k + 1) j b m = rWorstN s k (j + 1) j (rAway s j) by rw [rWorstN, if_pos (by omega)]]; exact ih (j + 1) _ _ I14 (by omega) hs14 hk14 (by omega) (by omega))
                | (refine ar_iinc (k := 38) (l2 := [(3, _), (2, _), (1, _), (5, _), (4, _), (0, _)]) rfl (by decide) rfl rfl ?_; refine ar_goto (k := 39) rfl ?_; refine ar_sub (l2 := [(3, vi ((j + 1 : Nat) : Int)), (2, vi (m)), (1, vi (b)), (0, vr (some 69))]) (tw_s (tw_e 0 rfl (by omega)) (tw_s (tw_g 1 rfl) (tw_s (tw_g 2 rfl) (tw_s (tw_g 5 rfl) tw_s0)))) ?_; rw [show rWorstN s (k + 1) j b m = rWorstN s k (j + 1) b m by rw [rWorstN, if_neg (by omega)]]; exact ih (j + 1) _ _ I14 (by omega) hs14 hk14 (by omega) (by omega))
theorem c_R_worst (hS : tSt (K, I, Q, n)) (hs : I 70 = s) (hR : RInv s) (hV : RVal s) : tw_K l G 18 mR_worst [vr (some 69)] K I Q n (some (vi (rWorstN s (s 0).toNat 0 (-5) 0))) := by
  obtain ⟨h0, h1, h2, h3, h4, h5, h6, hp, hrw, ht, hr, hb, htp, hv⟩ := id hR
  refine tw_intro okR_worst (Nat.le_of_ble_eq_true rfl) ?_
  refine ar_bipush (k := 0) rfl (by decide) ?_
  refine ar_istoren (k := 1) (l2 := [(1, _), (0, _)]) rfl (by decide) rfl ?_
  refine ar_iconst (k := 2) rfl ?_
  refine ar_istoren (k := 3) (l2 := [(2, _), (1, _), (0, _)]) rfl (by decide) rfl ?_
  refine ar_iconst (k := 4) rfl ?_
  refine ar_istoren (k := 5) (l2 := [(3, _), (2, _), (1, _), (0, _)]) rfl (by decide) rfl ?_
  refine ar_sub (l2 := [(3, vi ((0 : Nat) : Int)), (2, vi 0), (1, vi (-5)), (0, vr (some 69))]) (tw_s (tw_e 0 rfl (by rfl)) (tw_s (tw_g 1 rfl) (tw_s (tw_g 2 rfl) (tw_s (tw_g 3 rfl) tw_s0)))) ?_
  exact l_R_worst (I := I) hS hR hV _ 0 (-5) 0 I (by omega) hs rq.rf (Or.inl rfl) (by decide)
end RI
end
section
section RJ
variable {l : Launch} {G : tG} {K : Nat → Nat × Nat} {I : Nat → Int → Int} {Q : Nat → Int → Option Nat} {n : Nat} {s : Int → Int}
theorem li_R_change {a : Nat} {is w : Int} (hS : tSt (K, I, Q, n)) (hR : RInv s) (hV : RVal s) {P : Option tV → tH → Prop} {F : Int × Int × Int} (a1 : (a : Int) < s 1) (cont : ∀ (b : Int) (J : Nat → Int → Int), J 70 = s → rq I J → tw_AW l G mR_change 18 0 0 n 0 P 151 [(7, vi b), (6, vi (a : Int)), (5, vi F.2.2), (4, vi F.2.1), (3, vi F.1), (2, vi is), (0, vr (some 69)), (1, vi w)] [] (K, J, Q, n)) : ∀ (k b : Nat) (bs o1 o2 : Int) (J : Nat → Int → Int), b + k = (s 1).toNat → a < b → J 70 = s → rq I J → (-12000000 ≤ bs ∧ bs ≤ 12000000) → rChB s a k b (bs, o1, o2) = F → tw_AW l G mR_change 18 0 0 n 0 P 46 [(7, vi (b : Int)), (6, vi (a : Int)), (5, vi o2), (4, vi o1), (3, vi bs), (2, vi is), (0, vr (some 69)), (1, vi w)] [] (K, J, Q, n) := by
  obtain ⟨h0, h1, h2, h3, h4, h5, h6, hp, hrw, ht, hr, hb, htp, hv⟩ := id hR
  intro k
  induction k with
  | zero =>
    intro b bs o1 o2 J hj hab hs hk hbs hF
    refine ar_iload (k := 28) rfl rfl ?_
    refine ar_aloadn (k := 29) rfl rfl ?_
    refine br_getR (k := 30) rfl (hS.k (by decide)) flR_9_12 (by decide) rfl (hS.r rfl) ?_
    refine ar_iconst (k := 31) rfl ?_
    refine br_iads (k := 32) rfl (hS.k (by decide)) (by omega) (by omega) (by decide) hs ?_
    refine ar_icmp_ge (k := 33) rfl (by omega) (by omega) (fun c33 => ?_) (fun c33 => ?_)
    · rw [rChB] at hF
      subst hF
      exact cont _ J hs hk
    · exfalso; omega
  | succ k ih =>
    intro b bs o1 o2 J hj hab hs hk hbs hF
    have hbd := rBestDay_bd (RInv_swap (a := a) (b := b) (by omega) (by omega) hR) (RVal_swap (by omega) (by omega) hV)
    have wa := ht a (by omega) (by omega)
    have wb := ht b (by omega) (by omega)
    refine ar_iload (k := 28) rfl rfl ?_
    refine ar_aloadn (k := 29) rfl rfl ?_
    refine br_getR (k := 30) rfl (hS.k (by decide)) flR_9_12 (by decide) rfl (hS.r rfl) ?_
    refine ar_iconst (k := 31) rfl ?_
    refine br_iads (k := 32) rfl (hS.k (by decide)) (by omega) (by omega) (by decide) hs ?_
    refine ar_icmp_ge (k := 33) rfl (by omega) (by omega) (fun c33 => ?_) (fun c33 => ?_)
    · exfalso; omega
    · refine ar_aloadn (k := 34) rfl rfl ?_
      refine br_getR (k := 35) rfl (hS.k (by decide)) flR_9_12 (by decide) rfl (hS.r rfl) ?_
      refine ar_bipush (k := 36) rfl (by decide) ?_
      refine ar_iload (k := 37) rfl rfl ?_
      refine ar_iadd (k := 38) rfl ?_
      refine br_iads (k := 39) rfl (hS.k (by decide)) (by omega) (by omega) (by decide) hs ?_
      refine ar_aloadn (k := 40) rfl rfl ?_
      refine br_getR (k := 41) rfl (hS.k (by decide)) flR_9_12 (by decide) rfl (hS.r rfl) ?_
      refine ar_bipush (k := 42) rfl (by decide) ?_
      refine ar_iload (k := 43) rfl rfl ?_
      refine ar_iadd (k := 44) rfl ?_
      refine br_iads (k := 45) rfl (hS.k (by decide)) (by omega) (by omega) (by decide) hs ?_
      refine ar_icmp_eq (k := 46) rfl (by omega) (by omega) (fun c46 => ?_) (fun c46 => ?_)
      · first
          | (exfalso; omega)
          | (refine ar_iinc (k := 79) (l2 := [(7, _), (6, _), (5, _), (4, _), (3, _), (2, _), (0, _), (1, _)]) rfl (by decide) rfl rfl ?_; refine ar_goto (k := 80) rfl ?_; refine ar_sub (l2 := [(7, vi ((b + 1 : Nat) : Int)), (6, vi (a : Int)), (5, vi (b : Int)), (4, vi (a : Int)), (3, vi (rBestDay (rSwap s a b))), (2, vi is), (0, vr (some 69)), (1, vi w)]) (tw_s (tw_e 0 rfl (by omega)) (tw_s (tw_g 1 rfl) (tw_s (tw_g 2 rfl) (tw_s (tw_g 3 rfl) (tw_s (tw_g 4 rfl) (tw_s (tw_g 5 rfl) (tw_s (tw_g 6 rfl) (tw_s (tw_g 7 rfl) tw_s0)))))))) ?_; exact ih (b + 1) _ _ _ J (by omega) (by omega) hs hk hbd (by rw [rChB, if_pos (by refine ⟨by omega, by show bs < _; omega⟩)] at hF; exact hF))
          | (refine ar_iinc (k := 79) (l2 := [(7, _), (6, _), (5, _), (4, _), (3, _), (2, _), (0, _), (1, _)]) rfl (by decide) rfl rfl ?_; refine ar_goto (k := 80) rfl ?_; refine ar_sub (l2 := [(7, vi ((b + 1 : Nat) : Int)), (6, vi (a : Int)), (5, vi o2), (4, vi o1), (3, vi (bs)), (2, vi is), (0, vr (some 69)), (1, vi w)]) (tw_s (tw_e 0 rfl (by omega)) (tw_s (tw_g 1 rfl) (tw_s (tw_g 2 rfl) (tw_s (tw_g 3 rfl) (tw_s (tw_g 4 rfl) (tw_s (tw_g 5 rfl) (tw_s (tw_g 6 rfl) (tw_s (tw_g 7 rfl) tw_s0)))))))) ?_; exact ih (b + 1) _ _ _ J (by omega) (by omega) hs hk hbs (by rw [rChB, if_neg (by show ¬ (_ ∧ bs < _); omega)] at hF; exact hF))
      · refine ar_aloadn (k := 47) rfl rfl ?_
        refine ar_iload (k := 48) rfl rfl ?_
        refine ar_iload (k := 49) rfl rfl ?_
        refine br_callV (k := 50) (as := [_, _]) rfl lvR_203 (hS.k (by decide)) rfl (c_R_changes hS hs (by omega) (by omega) (by omega)) rfl (by decide) (by decide) tw_m0 (Nat.le_of_ble_eq_true rfl) ?_
        refine ar_aloadn (k := 51) rfl rfl ?_
        refine br_callVK (k := 52) (as := []) rfl lvR_200 (hS.k (by decide)) rfl (c_R_bestDay (s := rSwap s a b) hS (setA_at _ _ _) (RInv_swap (by omega) (by omega) hR) (RVal_swap (by omega) (by omega) hV)) rfl (by decide) (by decide) tw_m0 (Nat.le_of_ble_eq_true rfl) (fun I52 q52 => ?_)
        refine ar_istore (k := 53) (l2 := [(8, _), (7, _), (6, _), (5, _), (4, _), (3, _), (2, _), (0, _), (1, _)]) rfl (by decide) rfl ?_
        refine ar_aloadn (k := 54) rfl rfl ?_
        refine ar_iload (k := 55) rfl rfl ?_
        refine ar_iload (k := 56) rfl rfl ?_
        refine br_callV (k := 57) (as := [_, _]) rfl lvR_203 (hS.k (by decide)) rfl (c_R_changes (s := rSwap s a b) hS (q52.s.trans (setA_at _ _ _)) (by omega) (by omega) (by omega)) rfl (by decide) (by decide) tw_m0 (Nat.le_of_ble_eq_true rfl) ?_
        rw [rSwap_swap (by omega)]
        obtain ⟨J3, e3⟩ : ∃ J3, J3 = setA I52 70 s := ⟨_, rfl⟩
        rw [← e3]
        have hs3 : J3 70 = s := by rw [e3, setA_at]
        have hk3 : rq I J3 := by rw [e3]; exact rq_back hk hs q52
        refine ar_iload (k := 58) rfl rfl ?_
        refine ar_iloadn (k := 59) rfl rfl ?_
        refine ar_icmp_le (k := 60) rfl (by omega) (by omega) (fun c60 => ?_) (fun c60 => ?_)
        · refine ar_iload (k := 63) rfl rfl ?_
          refine ar_istore (k := 64) (l2 := [(4, _), (8, _), (7, _), (6, _), (5, _), (3, _), (2, _), (0, _), (1, _)]) rfl (by decide) rfl ?_
          refine ar_iload (k := 65) rfl rfl ?_
          refine ar_iloadn (k := 66) rfl rfl ?_
          refine ar_icmp_le (k := 67) rfl (by omega) (by omega) (fun c67 => ?_) (fun c67 => ?_)
          · refine ar_iload (k := 70) rfl rfl ?_
            refine ar_istore (k := 71) (l2 := [(5, _), (4, _), (8, _), (7, _), (6, _), (3, _), (2, _), (0, _), (1, _)]) rfl (by decide) rfl ?_
            refine ar_iload (k := 72) rfl rfl ?_
            refine ar_iloadn (k := 73) rfl rfl ?_
            refine ar_icmp_le (k := 74) rfl (by omega) (by omega) (fun c74 => ?_) (fun c74 => ?_)
            · refine ar_iloadn (k := 77) rfl rfl ?_
              refine ar_istoren (k := 78) (l2 := [(3, _), (5, _), (4, _), (8, _), (7, _), (6, _), (2, _), (0, _), (1, _)]) rfl (by decide) rfl ?_
              first
                | (exfalso; omega)
                | (refine ar_iinc (k := 79) (l2 := [(7, _), (3, _), (5, _), (4, _), (8, _), (6, _), (2, _), (0, _), (1, _)]) rfl (by decide) rfl rfl ?_; refine ar_goto (k := 80) rfl ?_; refine ar_sub (l2 := [(7, vi ((b + 1 : Nat) : Int)), (6, vi (a : Int)), (5, vi (b : Int)), (4, vi (a : Int)), (3, vi (rBestDay (rSwap s a b))), (2, vi is), (0, vr (some 69)), (1, vi w)]) (tw_s (tw_e 0 rfl (by omega)) (tw_s (tw_g 5 rfl) (tw_s (tw_g 2 rfl) (tw_s (tw_g 3 rfl) (tw_s (tw_g 1 rfl) (tw_s (tw_g 6 rfl) (tw_s (tw_g 7 rfl) (tw_s (tw_g 8 rfl) tw_s0)))))))) ?_; exact ih (b + 1) _ _ _ J3 (by omega) (by omega) hs3 hk3 hbd (by rw [rChB, if_pos (by refine ⟨by omega, by show bs < _; omega⟩)] at hF; exact hF))
                | (refine ar_iinc (k := 79) (l2 := [(7, _), (3, _), (5, _), (4, _), (8, _), (6, _), (2, _), (0, _), (1, _)]) rfl (by decide) rfl rfl ?_; refine ar_goto (k := 80) rfl ?_; refine ar_sub (l2 := [(7, vi ((b + 1 : Nat) : Int)), (6, vi (a : Int)), (5, vi o2), (4, vi o1), (3, vi (bs)), (2, vi is), (0, vr (some 69)), (1, vi w)]) (tw_s (tw_e 0 rfl (by omega)) (tw_s (tw_g 5 rfl) (tw_s (tw_g 2 rfl) (tw_s (tw_g 3 rfl) (tw_s (tw_g 1 rfl) (tw_s (tw_g 6 rfl) (tw_s (tw_g 7 rfl) (tw_s (tw_g 8 rfl) tw_s0)))))))) ?_; exact ih (b + 1) _ _ _ J3 (by omega) (by omega) hs3 hk3 hbs (by rw [rChB, if_neg (by show ¬ (_ ∧ bs < _); omega)] at hF; exact hF))
            · refine ar_iload (k := 75) rfl rfl ?_
              refine ar_goto (k := 76) rfl ?_
              refine ar_istoren (k := 78) (l2 := [(3, _), (5, _), (4, _), (8, _), (7, _), (6, _), (2, _), (0, _), (1, _)]) rfl (by decide) rfl ?_
              first
                | (exfalso; omega)
                | (refine ar_iinc (k := 79) (l2 := [(7, _), (3, _), (5, _), (4, _), (8, _), (6, _), (2, _), (0, _), (1, _)]) rfl (by decide) rfl rfl ?_; refine ar_goto (k := 80) rfl ?_; refine ar_sub (l2 := [(7, vi ((b + 1 : Nat) : Int)), (6, vi (a : Int)), (5, vi (b : Int)), (4, vi (a : Int)), (3, vi (rBestDay (rSwap s a b))), (2, vi is), (0, vr (some 69)), (1, vi w)]) (tw_s (tw_e 0 rfl (by omega)) (tw_s (tw_g 5 rfl) (tw_s (tw_g 2 rfl) (tw_s (tw_g 3 rfl) (tw_s (tw_g 1 rfl) (tw_s (tw_g 6 rfl) (tw_s (tw_g 7 rfl) (tw_s (tw_g 8 rfl) tw_s0)))))))) ?_; exact ih (b + 1) _ _ _ J3 (by omega) (by omega) hs3 hk3 hbd (by rw [rChB, if_pos (by refine ⟨by omega, by show bs < _; omega⟩)] at hF; exact hF))
                | (refine ar_iinc (k := 79) (l2 := [(7, _), (3, _), (5, _), (4, _), (8, _), (6, _), (2, _), (0, _), (1, _)]) rfl (by decide) rfl rfl ?_; refine ar_goto (k := 80) rfl ?_; refine ar_sub (l2 := [(7, vi ((b + 1 : Nat) : Int)), (6, vi (a : Int)), (5, vi o2), (4, vi o1), (3, vi (bs)), (2, vi is), (0, vr (some 69)), (1, vi w)]) (tw_s (tw_e 0 rfl (by omega)) (tw_s (tw_g 5 rfl) (tw_s (tw_g 2 rfl) (tw_s (tw_g 3 rfl) (tw_s (tw_g 1 rfl) (tw_s (tw_g 6 rfl) (tw_s (tw_g 7 rfl) (tw_s (tw_g 8 rfl) tw_s0)))))))) ?_; exact ih (b + 1) _ _ _ J3 (by omega) (by omega) hs3 hk3 hbs (by rw [rChB, if_neg (by show ¬ (_ ∧ bs < _); omega)] at hF; exact hF))
          · refine ar_iload (k := 68) rfl rfl ?_
            refine ar_goto (k := 69) rfl ?_
            refine ar_istore (k := 71) (l2 := [(5, _), (4, _), (8, _), (7, _), (6, _), (3, _), (2, _), (0, _), (1, _)]) rfl (by decide) rfl ?_
            refine ar_iload (k := 72) rfl rfl ?_
            refine ar_iloadn (k := 73) rfl rfl ?_
            refine ar_icmp_le (k := 74) rfl (by omega) (by omega) (fun c74 => ?_) (fun c74 => ?_)
            · refine ar_iloadn (k := 77) rfl rfl ?_
              refine ar_istoren (k := 78) (l2 := [(3, _), (5, _), (4, _), (8, _), (7, _), (6, _), (2, _), (0, _), (1, _)]) rfl (by decide) rfl ?_
              first
                | (exfalso; omega)
                | (refine ar_iinc (k := 79) (l2 := [(7, _), (3, _), (5, _), (4, _), (8, _), (6, _), (2, _), (0, _), (1, _)]) rfl (by decide) rfl rfl ?_; refine ar_goto (k := 80) rfl ?_; refine ar_sub (l2 := [(7, vi ((b + 1 : Nat) : Int)), (6, vi (a : Int)), (5, vi (b : Int)), (4, vi (a : Int)), (3, vi (rBestDay (rSwap s a b))), (2, vi is), (0, vr (some 69)), (1, vi w)]) (tw_s (tw_e 0 rfl (by omega)) (tw_s (tw_g 5 rfl) (tw_s (tw_g 2 rfl) (tw_s (tw_g 3 rfl) (tw_s (tw_g 1 rfl) (tw_s (tw_g 6 rfl) (tw_s (tw_g 7 rfl) (tw_s (tw_g 8 rfl) tw_s0)))))))) ?_; exact ih (b + 1) _ _ _ J3 (by omega) (by omega) hs3 hk3 hbd (by rw [rChB, if_pos (by refine ⟨by omega, by show bs < _; omega⟩)] at hF; exact hF))
                | (refine ar_iinc (k := 79) (l2 := [(7, _), (3, _), (5, _), (4, _), (8, _), (6, _), (2, _), (0, _), (1, _)]) rfl (by decide) rfl rfl ?_; refine ar_goto (k := 80) rfl ?_; refine ar_sub (l2 := [(7, vi ((b + 1 : Nat) : Int)), (6, vi (a : Int)), (5, vi o2), (4, vi o1), (3, vi (bs)), (2, vi is), (0, vr (some 69)), (1, vi w)]) (tw_s (tw_e 0 rfl (by omega)) (tw_s (tw_g 5 rfl) (tw_s (tw_g 2 rfl) (tw_s (tw_g 3 rfl) (tw_s (tw_g 1 rfl) (tw_s (tw_g 6 rfl) (tw_s (tw_g 7 rfl) (tw_s (tw_g 8 rfl) tw_s0)))))))) ?_; exact ih (b + 1) _ _ _ J3 (by omega) (by omega) hs3 hk3 hbs (by rw [rChB, if_neg (by show ¬ (_ ∧ bs < _); omega)] at hF; exact hF))
            · refine ar_iload (k := 75) rfl rfl ?_
              refine ar_goto (k := 76) rfl ?_
              refine ar_istoren (k := 78) (l2 := [(3, _), (5, _), (4, _), (8, _), (7, _), (6, _), (2, _), (0, _), (1, _)]) rfl (by decide) rfl ?_
              first
                | (exfalso; omega)
                | (refine ar_iinc (k := 79) (l2 := [(7, _), (3, _), (5, _), (4, _), (8, _), (6, _), (2, _), (0, _), (1, _)]) rfl (by decide) rfl rfl ?_; refine ar_goto (k := 80) rfl ?_; refine ar_sub (l2 := [(7, vi ((b + 1 : Nat) : Int)), (6, vi (a : Int)), (5, vi (b : Int)), (4, vi (a : Int)), (3, vi (rBestDay (rSwap s a b))), (2, vi is), (0, vr (some 69)), (1, vi w)]) (tw_s (tw_e 0 rfl (by omega)) (tw_s (tw_g 5 rfl) (tw_s (tw_g 2 rfl) (tw_s (tw_g 3 rfl) (tw_s (tw_g 1 rfl) (tw_s (tw_g 6 rfl) (tw_s (tw_g 7 rfl) (tw_s (tw_g 8 rfl) tw_s0)))))))) ?_; exact ih (b + 1) _ _ _ J3 (by omega) (by omega) hs3 hk3 hbd (by rw [rChB, if_pos (by refine ⟨by omega, by show bs < _; omega⟩)] at hF; exact hF))
                | (refine ar_iinc (k := 79) (l2 := [(7, _), (3, _), (5, _), (4, _), (8, _), (6, _), (2, _), (0, _), (1, _)]) rfl (by decide) rfl rfl ?_; refine ar_goto (k := 80) rfl ?_; refine ar_sub (l2 := [(7, vi ((b + 1 : Nat) : Int)), (6, vi (a : Int)), (5, vi o2), (4, vi o1), (3, vi (bs)), (2, vi is), (0, vr (some 69)), (1, vi w)]) (tw_s (tw_e 0 rfl (by omega)) (tw_s (tw_g 5 rfl) (tw_s (tw_g 2 rfl) (tw_s (tw_g 3 rfl) (tw_s (tw_g 1 rfl) (tw_s (tw_g 6 rfl) (tw_s (tw_g 7 rfl) (tw_s (tw_g 8 rfl) tw_s0)))))))) ?_; exact ih (b + 1) _ _ _ J3 (by omega) (by omega) hs3 hk3 hbs (by rw [rChB, if_neg (by show ¬ (_ ∧ bs < _); omega)] at hF; exact hF))
        · refine ar_iload (k := 61) rfl rfl ?_
          refine ar_goto (k := 62) rfl ?_
          refine ar_istore (k := 64) (l2 := [(4, _), (8, _), (7, _), (6, _), (5, _), (3, _), (2, _), (0, _), (1, _)]) rfl (by decide) rfl ?_
          refine ar_iload (k := 65) rfl rfl ?_
          refine ar_iloadn (k := 66) rfl rfl ?_
          refine ar_icmp_le (k := 67) rfl (by omega) (by omega) (fun c67 => ?_) (fun c67 => ?_)
          · refine ar_iload (k := 70) rfl rfl ?_
            refine ar_istore (k := 71) (l2 := [(5, _), (4, _), (8, _), (7, _), (6, _), (3, _), (2, _), (0, _), (1, _)]) rfl (by decide) rfl ?_
            refine ar_iload (k := 72) rfl rfl ?_
            refine ar_iloadn (k := 73) rfl rfl ?_
            refine ar_icmp_le (k := 74) rfl (by omega) (by omega) (fun c74 => ?_) (fun c74 => ?_)
            · refine ar_iloadn (k := 77) rfl rfl ?_
              refine ar_istoren (k := 78) (l2 := [(3, _), (5, _), (4, _), (8, _), (7, _), (6, _), (2, _), (0, _), (1, _)]) rfl (by decide) rfl ?_
              first
                | (exfalso; omega)
                | (refine ar_iinc (k := 79) (l2 := [(7, _), (3, _), (5, _), (4, _), (8, _), (6, _), (2, _), (0, _), (1, _)]) rfl (by decide) rfl rfl ?_; refine ar_goto (k := 80) rfl ?_; refine ar_sub (l2 := [(7, vi ((b + 1 : Nat) : Int)), (6, vi (a : Int)), (5, vi (b : Int)), (4, vi (a : Int)), (3, vi (rBestDay (rSwap s a b))), (2, vi is), (0, vr (some 69)), (1, vi w)]) (tw_s (tw_e 0 rfl (by omega)) (tw_s (tw_g 5 rfl) (tw_s (tw_g 2 rfl) (tw_s (tw_g 3 rfl) (tw_s (tw_g 1 rfl) (tw_s (tw_g 6 rfl) (tw_s (tw_g 7 rfl) (tw_s (tw_g 8 rfl) tw_s0)))))))) ?_; exact ih (b + 1) _ _ _ J3 (by omega) (by omega) hs3 hk3 hbd (by rw [rChB, if_pos (by refine ⟨by omega, by show bs < _; omega⟩)] at hF; exact hF))
                | (refine ar_iinc (k := 79) (l2 := [(7, _), (3, _), (5, _), (4, _), (8, _), (6, _), (2, _), (0, _), (1, _)]) rfl (by decide) rfl rfl ?_; refine ar_goto (k := 80) rfl ?_; refine ar_sub (l2 := [(7, vi ((b + 1 : Nat) : Int)), (6, vi (a : Int)), (5, vi o2), (4, vi o1), (3, vi (bs)), (2, vi is), (0, vr (some 69)), (1, vi w)]) (tw_s (tw_e 0 rfl (by omega)) (tw_s (tw_g 5 rfl) (tw_s (tw_g 2 rfl) (tw_s (tw_g 3 rfl) (tw_s (tw_g 1 rfl) (tw_s (tw_g 6 rfl) (tw_s (tw_g 7 rfl) (tw_s (tw_g 8 rfl) tw_s0)))))))) ?_; exact ih (b + 1) _ _ _ J3 (by omega) (by omega) hs3 hk3 hbs (by rw [rChB, if_neg (by show ¬ (_ ∧ bs < _); omega)] at hF; exact hF))
            · refine ar_iload (k := 75) rfl rfl ?_
              refine ar_goto (k := 76) rfl ?_
              refine ar_istoren (k := 78) (l2 := [(3, _), (5, _), (4, _), (8, _), (7, _), (6, _), (2, _), (0, _), (1, _)]) rfl (by decide) rfl ?_
              first
                | (exfalso; omega)
                | (refine ar_iinc (k := 79) (l2 := [(7, _), (3, _), (5, _), (4, _), (8, _), (6, _), (2, _), (0, _), (1, _)]) rfl (by decide) rfl rfl ?_; refine ar_goto (k := 80) rfl ?_; refine ar_sub (l2 := [(7, vi ((b + 1 : Nat) : Int)), (6, vi (a : Int)), (5, vi (b : Int)), (4, vi (a : Int)), (3, vi (rBestDay (rSwap s a b))), (2, vi is), (0, vr (some 69)), (1, vi w)]) (tw_s (tw_e 0 rfl (by omega)) (tw_s (tw_g 5 rfl) (tw_s (tw_g 2 rfl) (tw_s (tw_g 3 rfl) (tw_s (tw_g 1 rfl) (tw_s (tw_g 6 rfl) (tw_s (tw_g 7 rfl) (tw_s (tw_g 8 rfl) tw_s0)))))))) ?_; exact ih (b + 1) _ _ _ J3 (by omega) (by omega) hs3 hk3 hbd (by rw [rChB, if_pos (by refine ⟨by omega, by show bs < _; omega⟩)] at hF; exact hF))
                | (refine ar_iinc (k := 79) (l2 := [(7, _), (3, _), (5, _), (4, _), (8, _), (6, _), (2, _), (0, _), (1, _)]) rfl (by decide) rfl rfl ?_; refine ar_goto (k := 80) rfl ?_; refine ar_sub (l2 := [(7, vi ((b + 1 : Nat) : Int)), (6, vi (a : Int)), (5, vi o2), (4, vi o1), (3, vi (bs)), (2, vi is), (0, vr (some 69)), (1, vi w)]) (tw_s (tw_e 0 rfl (by omega)) (tw_s (tw_g 5 rfl) (tw_s (tw_g 2 rfl) (tw_s (tw_g 3 rfl) (tw_s (tw_g 1 rfl) (tw_s (tw_g 6 rfl) (tw_s (tw_g 7 rfl) (tw_s (tw_g 8 rfl) tw_s0)))))))) ?_; exact ih (b + 1) _ _ _ J3 (by omega) (by omega) hs3 hk3 hbs (by rw [rChB, if_neg (by show ¬ (_ ∧ bs < _); omega)] at hF; exact hF))
          · refine ar_iload (k := 68) rfl rfl ?_
            refine ar_goto (k := 69) rfl ?_
            refine ar_istore (k := 71) (l2 := [(5, _), (4, _), (8, _), (7, _), (6, _), (3, _), (2, _), (0, _), (1, _)]) rfl (by decide) rfl ?_
            refine ar_iload (k := 72) rfl rfl ?_
            refine ar_iloadn (k := 73) rfl rfl ?_
            refine ar_icmp_le (k := 74) rfl (by omega) (by omega) (fun c74 => ?_) (fun c74 => ?_)
            · refine ar_iloadn (k := 77) rfl rfl ?_
              refine ar_istoren (k := 78) (l2 := [(3, _), (5, _), (4, _), (8, _), (7, _), (6, _), (2, _), (0, _), (1, _)]) rfl (by decide) rfl ?_
              first
                | (exfalso; omega)
                | (refine ar_iinc (k := 79) (l2 := [(7, _), (3, _), (5, _), (4, _), (8, _), (6, _), (2, _), (0, _), (1, _)]) rfl (by decide) rfl rfl ?_; refine ar_goto (k := 80) rfl ?_; refine ar_sub (l2 := [(7, vi ((b + 1 : Nat) : Int)), (6, vi (a : Int)), (5, vi (b : Int)), (4, vi (a : Int)), (3, vi (rBestDay (rSwap s a b))), (2, vi is), (0, vr (some 69)), (1, vi w)]) (tw_s (tw_e 0 rfl (by omega)) (tw_s (tw_g 5 rfl) (tw_s (tw_g 2 rfl) (tw_s (tw_g 3 rfl) (tw_s (tw_g 1 rfl) (tw_s (tw_g 6 rfl) (tw_s (tw_g 7 rfl) (tw_s (tw_g 8 rfl) tw_s0)))))))) ?_; exact ih (b + 1) _ _ _ J3 (by omega) (by omega) hs3 hk3 hbd (by rw [rChB, if_pos (by refine ⟨by omega, by show bs < _; omega⟩)] at hF; exact hF))
                | (refine ar_iinc (k := 79) (l2 := [(7, _), (3, _), (5, _), (4, _), (8, _), (6, _), (2, _), (0, _), (1, _)]) rfl (by decide) rfl rfl ?_; refine ar_goto (k := 80) rfl ?_; refine ar_sub (l2 := [(7, vi ((b + 1 : Nat) : Int)), (6, vi (a : Int)), (5, vi o2), (4, vi o1), (3, vi (bs)), (2, vi is), (0, vr (some 69)), (1, vi w)]) (tw_s (tw_e 0 rfl (by omega)) (tw_s (tw_g 5 rfl) (tw_s (tw_g 2 rfl) (tw_s (tw_g 3 rfl) (tw_s (tw_g 1 rfl) (tw_s (tw_g 6 rfl) (tw_s (tw_g 7 rfl) (tw_s (tw_g 8 rfl) tw_s0)))))))) ?_; exact ih (b + 1) _ _ _ J3 (by omega) (by omega) hs3 hk3 hbs (by rw [rChB, if_neg (by show ¬ (_ ∧ bs < _); omega)] at hF; exact hF))
            · refine ar_iload (k := 75) rfl rfl ?_
              refine ar_goto (k := 76) rfl ?_
              refine ar_istoren (k := 78) (l2 := [(3, _), (5, _), (4, _), (8, _), (7, _), (6, _), (2, _), (0, _), (1, _)]) rfl (by decide) rfl ?_
              first
                | (exfalso; omega)
                | (refine ar_iinc (k := 79) (l2 := [(7, _), (3, _), (5, _), (4, _), (8, _), (6, _), (2, _), (0, _), (1, _)]) rfl (by decide) rfl rfl ?_; refine ar_goto (k := 80) rfl ?_; refine ar_sub (l2 := [(7, vi ((b + 1 : Nat) : Int)), (6, vi (a : Int)), (5, vi (b : Int)), (4, vi (a : Int)), (3, vi (rBestDay (rSwap s a b))), (2, vi is), (0, vr (some 69)), (1, vi w)]) (tw_s (tw_e 0 rfl (by omega)) (tw_s (tw_g 5 rfl) (tw_s (tw_g 2 rfl) (tw_s (tw_g 3 rfl) (tw_s (tw_g 1 rfl) (tw_s (tw_g 6 rfl) (tw_s (tw_g 7 rfl) (tw_s (tw_g 8 rfl) tw_s0)))))))) ?_; exact ih (b + 1) _ _ _ J3 (by omega) (by omega) hs3 hk3 hbd (by rw [rChB, if_pos (by refine ⟨by omega, by show bs < _; omega⟩)] at hF; exact hF))
                | (refine ar_iinc (k := 79) (l2 := [(7, _), (3, _), (5, _), (4, _), (8, _), (6, _), (2, _), (0, _), (1, _)]) rfl (by decide) rfl rfl ?_; refine ar_goto (k := 80) rfl ?_; refine ar_sub (l2 := [(7, vi ((b + 1 : Nat) : Int)), (6, vi (a : Int)), (5, vi o2), (4, vi o1), (3, vi (bs)), (2, vi is), (0, vr (some 69)), (1, vi w)]) (tw_s (tw_e 0 rfl (by omega)) (tw_s (tw_g 5 rfl) (tw_s (tw_g 2 rfl) (tw_s (tw_g 3 rfl) (tw_s (tw_g 1 rfl) (tw_s (tw_g 6 rfl) (tw_s (tw_g 7 rfl) (tw_s (tw_g 8 rfl) tw_s0)))))))) ?_; exact ih (b + 1) _ _ _ J3 (by omega) (by omega) hs3 hk3 hbs (by rw [rChB, if_neg (by show ¬ (_ ∧ bs < _); omega)] at hF; exact hF))
theorem rChB_bd {s : Int → Int} {a : Nat} (hR : RInv s) (hV : RVal s) (a1 : (a : Int) < s 1) : ∀ (k b : Nat) (q : Int × Int × Int), b + k ≤ (s 1).toNat → (-12000000 ≤ q.1 ∧ q.1 ≤ 12000000) → (-12000000 ≤ (rChB s a k b q).1 ∧ (rChB s a k b q).1 ≤ 12000000)
  | 0, _, _, _, h => h
  | k + 1, b, q, hb, h => by
    have h1 := hR.2.1
    rw [rChB]
    refine rChB_bd hR hV a1 k (b + 1) _ (by omega) ?_
    split
    · exact rBestDay_bd (RInv_swap (a := a) (b := b) (by omega) (by omega) hR) (RVal_swap (by omega) (by omega) hV)
    · exact h
theorem l_R_change {w : Int} (hS : tSt (K, I, Q, n)) (hR : RInv s) (hV : RVal s) (tw : 0 ≤ w ∧ w ≤ 2) : ∀ (k : Nat) (j : Nat) (bs o1 o2 : Int) (J : Nat → Int → Int), j + k = (s 1).toNat → J 70 = s → rq I J → (-12000000 ≤ bs ∧ bs ≤ 12000000) → tw_AW l G mR_change 18 0 0 n 0 (fun r h' => r = some (vi (if w = 0 then (rChA s k j (bs, o1, o2)).2.1 else if w = 1 then (rChA s k j (bs, o1, o2)).2.2 else (rChA s k j (bs, o1, o2)).1 - rBestDay s)) ∧ ∃ L, h' = (K, L, Q, n) ∧ rq I L) 29 [(6, vi (j : Int)), (5, vi o2), (4, vi o1), (3, vi bs), (2, vi (rBestDay s)), (0, vr (some 69)), (1, vi w)] [] (K, J, Q, n) := by
  obtain ⟨h0, h1, h2, h3, h4, h5, h6, hp, hrw, ht, hr, hb, htp, hv⟩ := id hR
  intro k
  induction k with
  | zero =>
    intro j bs o1 o2 J hj hs hk hbs
    refine ar_iload (k := 18) rfl rfl ?_
    refine ar_aloadn (k := 19) rfl rfl ?_
    refine br_getR (k := 20) rfl (hS.k (by decide)) flR_9_12 (by decide) rfl (hS.r rfl) ?_
    refine ar_iconst (k := 21) rfl ?_
    refine br_iads (k := 22) rfl (hS.k (by decide)) (by omega) (by omega) (by decide) hs ?_
    refine ar_icmp_ge (k := 23) rfl (by omega) (by omega) (fun c23 => ?_) (fun c23 => ?_)
    · refine ar_iloadn (k := 83) rfl rfl ?_
      refine ar_if_ne (k := 84) rfl (by omega) (fun c84 => ?_) (fun c84 => ?_)
      · refine ar_iloadn (k := 87) rfl rfl ?_
        refine ar_iconst (k := 88) rfl ?_
        refine ar_icmp_ne (k := 89) rfl (by omega) (by omega) (fun c89 => ?_) (fun c89 => ?_)
        · refine ar_iloadn (k := 92) rfl rfl ?_
          refine ar_iloadn (k := 93) rfl rfl ?_
          refine ar_isub (k := 94) rfl ?_
          refine ar_iret (k := 95) rfl rfl rfl (Nat.le_refl _) ?_
          exact ⟨congrArg (fun z => some (vi z)) (by simp only [rChA]; omega), J, rfl, hk⟩
        · refine ar_iload (k := 90) rfl rfl ?_
          refine ar_goto (k := 91) rfl ?_
          refine ar_iret (k := 95) rfl rfl rfl (Nat.le_refl _) ?_
          exact ⟨congrArg (fun z => some (vi z)) (by simp only [rChA]; omega), J, rfl, hk⟩
      · refine ar_iload (k := 85) rfl rfl ?_
        refine ar_goto (k := 86) rfl ?_
        refine ar_iret (k := 95) rfl rfl rfl (Nat.le_refl _) ?_
        exact ⟨congrArg (fun z => some (vi z)) (by simp only [rChA]; omega), J, rfl, hk⟩
    · exfalso; omega
  | succ k ih =>
    intro j bs o1 o2 J hj hs hk hbs
    refine ar_iload (k := 18) rfl rfl ?_
    refine ar_aloadn (k := 19) rfl rfl ?_
    refine br_getR (k := 20) rfl (hS.k (by decide)) flR_9_12 (by decide) rfl (hS.r rfl) ?_
    refine ar_iconst (k := 21) rfl ?_
    refine br_iads (k := 22) rfl (hS.k (by decide)) (by omega) (by omega) (by decide) hs ?_
    refine ar_icmp_ge (k := 23) rfl (by omega) (by omega) (fun c23 => ?_) (fun c23 => ?_)
    · exfalso; omega
    · refine ar_iload (k := 24) rfl rfl ?_
      refine ar_iconst (k := 25) rfl ?_
      refine ar_iadd (k := 26) rfl ?_
      refine ar_istore (k := 27) (l2 := [(7, _), (6, _), (5, _), (4, _), (3, _), (2, _), (0, _), (1, _)]) rfl (by decide) rfl ?_
      refine ar_sub (l2 := [(7, vi ((j + 1 : Nat) : Int)), (6, vi (j : Int)), (5, vi o2), (4, vi o1), (3, vi bs), (2, vi (rBestDay s)), (0, vr (some 69)), (1, vi w)]) (tw_s (tw_e 0 rfl (by omega)) (tw_s (tw_g 1 rfl) (tw_s (tw_g 2 rfl) (tw_s (tw_g 3 rfl) (tw_s (tw_g 4 rfl) (tw_s (tw_g 5 rfl) (tw_s (tw_g 6 rfl) (tw_s (tw_g 7 rfl) tw_s0)))))))) ?_
      refine li_R_change (I := I) (a := j) hS hR hV (F := rChB s j k (j + 1) (bs, o1, o2)) (by omega) ?_ k (j + 1) bs o1 o2 J (by omega) (by omega) hs hk hbs rfl
      intro b2 J2 hs2 hk2
      refine ar_iinc (k := 81) (l2 := [(6, _), (7, _), (5, _), (4, _), (3, _), (2, _), (0, _), (1, _)]) rfl (by decide) rfl rfl ?_
      refine ar_goto (k := 82) rfl ?_
      refine ar_sub (l2 := [(6, vi ((j + 1 : Nat) : Int)), (5, vi (rChB s j k (j + 1) (bs, o1, o2)).2.2), (4, vi (rChB s j k (j + 1) (bs, o1, o2)).2.1), (3, vi (rChB s j k (j + 1) (bs, o1, o2)).1), (2, vi (rBestDay s)), (0, vr (some 69)), (1, vi w)]) (tw_s (tw_e 0 rfl (by omega)) (tw_s (tw_g 2 rfl) (tw_s (tw_g 3 rfl) (tw_s (tw_g 4 rfl) (tw_s (tw_g 5 rfl) (tw_s (tw_g 6 rfl) (tw_s (tw_g 7 rfl) tw_s0))))))) ?_
      exact ih (j + 1) _ _ _ J2 (by omega) hs2 hk2 (rChB_bd hR hV (by omega) _ _ _ (by omega) hbs)
theorem c_R_change {w : Int} (hS : tSt (K, I, Q, n)) (hs : I 70 = s) (hR : RInv s) (hV : RVal s) (tw : tr w) : tw_K l G 18 mR_change [vr (some 69), vi w] K I Q n (some (vi (if ¬ (0 ≤ w ∧ w ≤ 2) then -1 else if w = 0 then (rChange s).2.1 else if w = 1 then (rChange s).2.2 else (rChange s).1 - rBestDay s))) := by
  obtain ⟨h0, h1, h2, h3, h4, h5, h6, hp, hrw, ht, hr, hb, htp, hv⟩ := id hR
  have hk : rq I I := rq.rf
  refine tw_intro okR_change (Nat.le_of_ble_eq_true rfl) ?_
  refine ar_iloadn (k := 0) rfl rfl ?_
  refine ar_iconst (k := 1) rfl ?_
  refine ar_iconst (k := 2) rfl ?_
  refine br_callS (k := 3) (as := [_, _, _]) rfl lsR_38 (c_R_in (by omega) (by omega) (by omega)) rfl (by decide) (by decide) tw_m0 (Nat.le_of_ble_eq_true rfl) ?_
  refine ar_if_ne (k := 4) rfl (by omega) (fun c4 => ?_) (fun c4 => ?_)
  · refine ar_aloadn (k := 7) rfl rfl ?_
    refine br_callVK (k := 8) (as := []) rfl lvR_200 (hS.k (by decide)) rfl (c_R_bestDay hS hs hR hV) rfl (by decide) (by decide) tw_m0 (Nat.le_of_ble_eq_true rfl) (fun I8 q8 => ?_)
    have hs8 : I8 70 = s := q8.s.trans hs
    have hk8 := rq.trans hk q8
    refine ar_istoren (k := 9) (l2 := [(2, _), (0, _), (1, _)]) rfl (by decide) rfl ?_
    refine ar_iloadn (k := 10) rfl rfl ?_
    refine ar_istoren (k := 11) (l2 := [(3, _), (2, _), (0, _), (1, _)]) rfl (by decide) rfl ?_
    refine ar_bipush (k := 12) rfl (by decide) ?_
    refine ar_istore (k := 13) (l2 := [(4, _), (3, _), (2, _), (0, _), (1, _)]) rfl (by decide) rfl ?_
    refine ar_bipush (k := 14) rfl (by decide) ?_
    refine ar_istore (k := 15) (l2 := [(5, _), (4, _), (3, _), (2, _), (0, _), (1, _)]) rfl (by decide) rfl ?_
    refine ar_iconst (k := 16) rfl ?_
    refine ar_istore (k := 17) (l2 := [(6, _), (5, _), (4, _), (3, _), (2, _), (0, _), (1, _)]) rfl (by decide) rfl ?_
    refine ar_sub (l2 := [(6, vi ((0 : Nat) : Int)), (5, vi (-5)), (4, vi (-5)), (3, vi (rBestDay s)), (2, vi (rBestDay s)), (0, vr (some 69)), (1, vi w)]) (tw_s (tw_e 0 rfl (by rfl)) (tw_s (tw_g 1 rfl) (tw_s (tw_g 2 rfl) (tw_s (tw_g 3 rfl) (tw_s (tw_g 4 rfl) (tw_s (tw_g 5 rfl) (tw_s (tw_g 6 rfl) tw_s0))))))) ?_
    rw [if_neg (by omega)]
    exact l_R_change (I := I) hS hR hV (by omega) _ 0 (rBestDay s) (-5) (-5) I8 (by omega) hs8 hk8 (rBestDay_bd hR hV)
  · refine ar_iconst (k := 5) rfl ?_
    refine ar_iret (k := 6) rfl rfl rfl (Nat.le_refl _) ?_
    exact ⟨congrArg (fun z => some (vi z)) (by omega), I, rfl, hk⟩
end RJ
end
section
abbrev rTrP (s : Int → Int) (t : Int) (r : Nat) : Prop := (s (94 + s (114 + (r : Int))) = s (126 + (r : Int)) ∧ s (114 + (r : Int)) ≠ t ∧ s (126 + (r : Int)) ≠ t) ↔ s (138 + (r : Int)) = 1
def rMayN (s : Int → Int) (t : Int) : Nat → Nat → Int → Int
  | 0, _, m => m
  | k + 1, r, m => rMayN s t k (r + 1) (if m = 1 ∧ rTrP s t r then 1 else 0)
def rBrk (s : Int → Int) : Int := orV (fun t => if rMayN s (t : Int) (s 3).toNat 0 1 = 1 then bShl 1 t else 0) (s 1).toNat 0 0
def rTryN (s : Int → Int) (e : Int) : Nat → Nat → Int → Int → Int
  | 0, _, b, _ => b
  | k + 1, t, b, m => if (t : Int) < s (94 + (t : Int)) ∧ (b = -5 ∨ max (bAnd (bShr e t) 1 + bAnd (bShr e (s (94 + (t : Int)))) 1) (rCnt e - (bAnd (bShr e t) 1 + bAnd (bShr e (s (94 + (t : Int)))) 1)) < m) then rTryN s e k (t + 1) t (max (bAnd (bShr e t) 1 + bAnd (bShr e (s (94 + (t : Int)))) 1) (rCnt e - (bAnd (bShr e t) 1 + bAnd (bShr e (s (94 + (t : Int)))) 1))) else rTryN s e k (t + 1) b m
def rTry (s : Int → Int) : Int := rTryN s (rBrk s) (s 1).toNat 0 (-5) 0
def rOth (s : Int → Int) (a : Int) (r : Nat) : Int := if s (114 + (r : Int)) = a then s (126 + (r : Int)) else if s (126 + (r : Int)) = a then s (114 + (r : Int)) else -1
def rFitN (s : Int → Int) (a t : Int) : Nat → Nat → Int → Int
  | 0, _, m => m
  | k + 1, r, m => rFitN s a t k (r + 1) (if m = 1 ∧ (rOth s a r = -1 ∨ (rOth s a r = t ↔ s (138 + (r : Int)) = 1)) then 1 else 0)
def rFits (s : Int → Int) (a : Int) : Int := orV (fun t => if rFitN s a (t : Int) (s 3).toNat 0 (if (t : Int) ≠ a then 1 else 0) = 1 then bShl 1 t else 0) (s 1).toNat 0 0
def rLook (s : Int → Int) : Int := fstD (-5) (fun r => decide (¬ rGoP s (s (162 + (r : Int))) (rWork s (s (150 + (r : Int)))))) (s 4).toNat 0
theorem rMayN_01 {s : Int → Int} {t : Int} : ∀ (k r : Nat) (m : Int), (m = 0 ∨ m = 1) → (rMayN s t k r m = 0 ∨ rMayN s t k r m = 1)
  | 0, _, _, h => h
  | k + 1, r, m, h => by
    rw [rMayN]
    exact rMayN_01 k (r + 1) _ (by split <;> omega)
theorem rFitN_01 {s : Int → Int} {a t : Int} : ∀ (k r : Nat) (m : Int), (m = 0 ∨ m = 1) → (rFitN s a t k r m = 0 ∨ rFitN s a t k r m = 1)
  | 0, _, _, h => h
  | k + 1, r, m, h => by
    rw [rFitN]
    exact rFitN_01 k (r + 1) _ (by split <;> omega)
theorem rCnt_bd (x : Int) : -10 ≤ rCnt x ∧ rCnt x ≤ 10 := by
  have := smV_bd (g := fun j => bAnd (bShr x (j : Int)) 1) (B := 1) (fun j => by have := bAnd1 (bShr x (j : Int)); omega) 10 0 0
  unfold rCnt
  omega
section RK
variable {l : Launch} {G : tG} {K : Nat → Nat × Nat} {I : Nat → Int → Int} {Q : Nat → Int → Option Nat} {n : Nat} {s : Int → Int}
theorem li_R_brokenOnes {t : Nat} {a : Int} (hS : tSt (K, I, Q, n)) (hs : I 70 = s) (hR : RInv s) {P : Option tV → tH → Prop} {F : Int} (t1 : t < 10) (cont : ∀ (r : Int), tw_AW l G mR_brokenOnes 2 0 0 n 0 P 137 [(4, vi r), (3, vi F), (2, vi (t : Int)), (1, vi a), (0, vr (some 69))] [] (K, I, Q, n)) : ∀ (k r : Nat) (m : Int), r + k = (s 3).toNat → (m = 0 ∨ m = 1) → rMayN s t k r m = F → tw_AW l G mR_brokenOnes 2 0 0 n 0 P 19 [(4, vi (r : Int)), (3, vi m), (2, vi (t : Int)), (1, vi a), (0, vr (some 69))] [] (K, I, Q, n) := by
  obtain ⟨h0, h1, h2, h3, h4, h5, h6, hp, hrw, ht, hr, hb, htp, hv⟩ := id hR
  intro k
  induction k with
  | zero =>
    intro r m hj hm hF
    refine ar_iload (k := 14) rfl rfl ?_
    refine ar_aloadn (k := 15) rfl rfl ?_
    refine br_getR (k := 16) rfl (hS.k (by decide)) flR_9_12 (by decide) rfl (hS.r rfl) ?_
    refine ar_iconst (k := 17) rfl ?_
    refine br_iads (k := 18) rfl (hS.k (by decide)) (by omega) (by omega) (by decide) hs ?_
    refine ar_icmp_ge (k := 19) rfl (by omega) (by omega) (fun c19 => ?_) (fun c19 => ?_)
    · rw [rMayN] at hF
      subst hF
      exact cont _
    · exfalso; omega
  | succ k ih =>
    intro r m hj hm hF
    have hw := hr r (by omega) (by omega)
    have hw2 := ht (s (114 + (r : Int))) (by omega) (by omega)
    refine ar_iload (k := 14) rfl rfl ?_
    refine ar_aloadn (k := 15) rfl rfl ?_
    refine br_getR (k := 16) rfl (hS.k (by decide)) flR_9_12 (by decide) rfl (hS.r rfl) ?_
    refine ar_iconst (k := 17) rfl ?_
    refine br_iads (k := 18) rfl (hS.k (by decide)) (by omega) (by omega) (by decide) hs ?_
    refine ar_icmp_ge (k := 19) rfl (by omega) (by omega) (fun c19 => ?_) (fun c19 => ?_)
    · exfalso; omega
    · refine ar_aloadn (k := 20) rfl rfl ?_
      refine br_getR (k := 21) rfl (hS.k (by decide)) flR_9_12 (by decide) rfl (hS.r rfl) ?_
      refine ar_bipush (k := 22) rfl (by decide) ?_
      refine ar_aloadn (k := 23) rfl rfl ?_
      refine br_getR (k := 24) rfl (hS.k (by decide)) flR_9_12 (by decide) rfl (hS.r rfl) ?_
      refine ar_bipush (k := 25) rfl (by decide) ?_
      refine ar_iload (k := 26) rfl rfl ?_
      refine ar_iadd (k := 27) rfl ?_
      refine br_iads (k := 28) rfl (hS.k (by decide)) (by omega) (by omega) (by decide) hs ?_
      refine ar_iadd (k := 29) rfl ?_
      refine br_iads (k := 30) rfl (hS.k (by decide)) (by omega) (by omega) (by decide) hs ?_
      refine ar_aloadn (k := 31) rfl rfl ?_
      refine br_getR (k := 32) rfl (hS.k (by decide)) flR_9_12 (by decide) rfl (hS.r rfl) ?_
      refine ar_bipush (k := 33) rfl (by decide) ?_
      refine ar_iload (k := 34) rfl rfl ?_
      refine ar_iadd (k := 35) rfl ?_
      refine br_iads (k := 36) rfl (hS.k (by decide)) (by omega) (by omega) (by decide) hs ?_
      refine ar_icmp_ne (k := 37) rfl (by omega) (by omega) (fun c37 => ?_) (fun c37 => ?_)
      · refine ar_iconst (k := 56) rfl ?_
        refine ar_istore (k := 57) (l2 := [(5, _), (4, _), (3, _), (2, _), (1, _), (0, _)]) rfl (by decide) rfl ?_
        refine ar_iloadn (k := 58) rfl rfl ?_
        refine ar_if_eq (k := 59) rfl (by omega) (fun c59 => ?_) (fun c59 => ?_)
        · refine ar_iconst (k := 75) rfl ?_
          refine tw_top (y := if m = 1 ∧ rTrP s t r then 1 else 0) (by omega) ?_
          refine ar_istoren (k := 76) (l2 := [(3, _), (5, _), (4, _), (2, _), (1, _), (0, _)]) rfl (by decide) rfl ?_
          refine ar_iinc (k := 77) (l2 := [(4, _), (3, _), (5, _), (2, _), (1, _), (0, _)]) rfl (by decide) rfl rfl ?_
          refine ar_goto (k := 78) rfl ?_
          refine ar_sub (l2 := [(4, vi ((r + 1 : Nat) : Int)), (3, vi (if m = 1 ∧ rTrP s t r then 1 else 0)), (2, vi (t : Int)), (1, vi a), (0, vr (some 69))]) (tw_s (tw_e 0 rfl (by omega)) (tw_s (tw_g 1 rfl) (tw_s (tw_g 3 rfl) (tw_s (tw_g 4 rfl) (tw_s (tw_g 5 rfl) tw_s0))))) ?_
          exact ih (r + 1) _ (by omega) (by split <;> omega) hF
        · refine ar_iload (k := 60) rfl rfl ?_
          refine ar_aloadn (k := 61) rfl rfl ?_
          refine br_getR (k := 62) rfl (hS.k (by decide)) flR_9_12 (by decide) rfl (hS.r rfl) ?_
          refine ar_sipush (k := 63) rfl (by decide) ?_
          refine ar_iload (k := 64) rfl rfl ?_
          refine ar_iadd (k := 65) rfl ?_
          refine br_iads (k := 66) rfl (hS.k (by decide)) (by omega) (by omega) (by decide) hs ?_
          refine ar_iconst (k := 67) rfl ?_
          refine ar_icmp_ne (k := 68) rfl (by omega) (by omega) (fun c68 => ?_) (fun c68 => ?_)
          · refine ar_iconst (k := 71) rfl ?_
            refine ar_icmp_ne (k := 72) rfl (by omega) (by omega) (fun c72 => ?_) (fun c72 => ?_)
            · refine ar_iconst (k := 75) rfl ?_
              refine tw_top (y := if m = 1 ∧ rTrP s t r then 1 else 0) (by omega) ?_
              refine ar_istoren (k := 76) (l2 := [(3, _), (5, _), (4, _), (2, _), (1, _), (0, _)]) rfl (by decide) rfl ?_
              refine ar_iinc (k := 77) (l2 := [(4, _), (3, _), (5, _), (2, _), (1, _), (0, _)]) rfl (by decide) rfl rfl ?_
              refine ar_goto (k := 78) rfl ?_
              refine ar_sub (l2 := [(4, vi ((r + 1 : Nat) : Int)), (3, vi (if m = 1 ∧ rTrP s t r then 1 else 0)), (2, vi (t : Int)), (1, vi a), (0, vr (some 69))]) (tw_s (tw_e 0 rfl (by omega)) (tw_s (tw_g 1 rfl) (tw_s (tw_g 3 rfl) (tw_s (tw_g 4 rfl) (tw_s (tw_g 5 rfl) tw_s0))))) ?_
              exact ih (r + 1) _ (by omega) (by split <;> omega) hF
            · refine ar_iconst (k := 73) rfl ?_
              refine ar_goto (k := 74) rfl ?_
              refine tw_top (y := if m = 1 ∧ rTrP s t r then 1 else 0) (by omega) ?_
              refine ar_istoren (k := 76) (l2 := [(3, _), (5, _), (4, _), (2, _), (1, _), (0, _)]) rfl (by decide) rfl ?_
              refine ar_iinc (k := 77) (l2 := [(4, _), (3, _), (5, _), (2, _), (1, _), (0, _)]) rfl (by decide) rfl rfl ?_
              refine ar_goto (k := 78) rfl ?_
              refine ar_sub (l2 := [(4, vi ((r + 1 : Nat) : Int)), (3, vi (if m = 1 ∧ rTrP s t r then 1 else 0)), (2, vi (t : Int)), (1, vi a), (0, vr (some 69))]) (tw_s (tw_e 0 rfl (by omega)) (tw_s (tw_g 1 rfl) (tw_s (tw_g 3 rfl) (tw_s (tw_g 4 rfl) (tw_s (tw_g 5 rfl) tw_s0))))) ?_
              exact ih (r + 1) _ (by omega) (by split <;> omega) hF
          · refine ar_iconst (k := 69) rfl ?_
            refine ar_goto (k := 70) rfl ?_
            refine ar_icmp_ne (k := 72) rfl (by omega) (by omega) (fun c72 => ?_) (fun c72 => ?_)
            · refine ar_iconst (k := 75) rfl ?_
              refine tw_top (y := if m = 1 ∧ rTrP s t r then 1 else 0) (by omega) ?_
              refine ar_istoren (k := 76) (l2 := [(3, _), (5, _), (4, _), (2, _), (1, _), (0, _)]) rfl (by decide) rfl ?_
              refine ar_iinc (k := 77) (l2 := [(4, _), (3, _), (5, _), (2, _), (1, _), (0, _)]) rfl (by decide) rfl rfl ?_
              refine ar_goto (k := 78) rfl ?_
              refine ar_sub (l2 := [(4, vi ((r + 1 : Nat) : Int)), (3, vi (if m = 1 ∧ rTrP s t r then 1 else 0)), (2, vi (t : Int)), (1, vi a), (0, vr (some 69))]) (tw_s (tw_e 0 rfl (by omega)) (tw_s (tw_g 1 rfl) (tw_s (tw_g 3 rfl) (tw_s (tw_g 4 rfl) (tw_s (tw_g 5 rfl) tw_s0))))) ?_
              exact ih (r + 1) _ (by omega) (by split <;> omega) hF
            · refine ar_iconst (k := 73) rfl ?_
              refine ar_goto (k := 74) rfl ?_
              refine tw_top (y := if m = 1 ∧ rTrP s t r then 1 else 0) (by omega) ?_
              refine ar_istoren (k := 76) (l2 := [(3, _), (5, _), (4, _), (2, _), (1, _), (0, _)]) rfl (by decide) rfl ?_
              refine ar_iinc (k := 77) (l2 := [(4, _), (3, _), (5, _), (2, _), (1, _), (0, _)]) rfl (by decide) rfl rfl ?_
              refine ar_goto (k := 78) rfl ?_
              refine ar_sub (l2 := [(4, vi ((r + 1 : Nat) : Int)), (3, vi (if m = 1 ∧ rTrP s t r then 1 else 0)), (2, vi (t : Int)), (1, vi a), (0, vr (some 69))]) (tw_s (tw_e 0 rfl (by omega)) (tw_s (tw_g 1 rfl) (tw_s (tw_g 3 rfl) (tw_s (tw_g 4 rfl) (tw_s (tw_g 5 rfl) tw_s0))))) ?_
              exact ih (r + 1) _ (by omega) (by split <;> omega) hF
      · refine ar_aloadn (k := 38) rfl rfl ?_
        refine br_getR (k := 39) rfl (hS.k (by decide)) flR_9_12 (by decide) rfl (hS.r rfl) ?_
        refine ar_bipush (k := 40) rfl (by decide) ?_
        refine ar_iload (k := 41) rfl rfl ?_
        refine ar_iadd (k := 42) rfl ?_
        refine br_iads (k := 43) rfl (hS.k (by decide)) (by omega) (by omega) (by decide) hs ?_
        refine ar_iloadn (k := 44) rfl rfl ?_
        refine ar_icmp_eq (k := 45) rfl (by omega) (by omega) (fun c45 => ?_) (fun c45 => ?_)
        · refine ar_iconst (k := 56) rfl ?_
          refine ar_istore (k := 57) (l2 := [(5, _), (4, _), (3, _), (2, _), (1, _), (0, _)]) rfl (by decide) rfl ?_
          refine ar_iloadn (k := 58) rfl rfl ?_
          refine ar_if_eq (k := 59) rfl (by omega) (fun c59 => ?_) (fun c59 => ?_)
          · refine ar_iconst (k := 75) rfl ?_
            refine tw_top (y := if m = 1 ∧ rTrP s t r then 1 else 0) (by omega) ?_
            refine ar_istoren (k := 76) (l2 := [(3, _), (5, _), (4, _), (2, _), (1, _), (0, _)]) rfl (by decide) rfl ?_
            refine ar_iinc (k := 77) (l2 := [(4, _), (3, _), (5, _), (2, _), (1, _), (0, _)]) rfl (by decide) rfl rfl ?_
            refine ar_goto (k := 78) rfl ?_
            refine ar_sub (l2 := [(4, vi ((r + 1 : Nat) : Int)), (3, vi (if m = 1 ∧ rTrP s t r then 1 else 0)), (2, vi (t : Int)), (1, vi a), (0, vr (some 69))]) (tw_s (tw_e 0 rfl (by omega)) (tw_s (tw_g 1 rfl) (tw_s (tw_g 3 rfl) (tw_s (tw_g 4 rfl) (tw_s (tw_g 5 rfl) tw_s0))))) ?_
            exact ih (r + 1) _ (by omega) (by split <;> omega) hF
          · refine ar_iload (k := 60) rfl rfl ?_
            refine ar_aloadn (k := 61) rfl rfl ?_
            refine br_getR (k := 62) rfl (hS.k (by decide)) flR_9_12 (by decide) rfl (hS.r rfl) ?_
            refine ar_sipush (k := 63) rfl (by decide) ?_
            refine ar_iload (k := 64) rfl rfl ?_
            refine ar_iadd (k := 65) rfl ?_
            refine br_iads (k := 66) rfl (hS.k (by decide)) (by omega) (by omega) (by decide) hs ?_
            refine ar_iconst (k := 67) rfl ?_
            refine ar_icmp_ne (k := 68) rfl (by omega) (by omega) (fun c68 => ?_) (fun c68 => ?_)
            · refine ar_iconst (k := 71) rfl ?_
              refine ar_icmp_ne (k := 72) rfl (by omega) (by omega) (fun c72 => ?_) (fun c72 => ?_)
              · refine ar_iconst (k := 75) rfl ?_
                refine tw_top (y := if m = 1 ∧ rTrP s t r then 1 else 0) (by omega) ?_
                refine ar_istoren (k := 76) (l2 := [(3, _), (5, _), (4, _), (2, _), (1, _), (0, _)]) rfl (by decide) rfl ?_
                refine ar_iinc (k := 77) (l2 := [(4, _), (3, _), (5, _), (2, _), (1, _), (0, _)]) rfl (by decide) rfl rfl ?_
                refine ar_goto (k := 78) rfl ?_
                refine ar_sub (l2 := [(4, vi ((r + 1 : Nat) : Int)), (3, vi (if m = 1 ∧ rTrP s t r then 1 else 0)), (2, vi (t : Int)), (1, vi a), (0, vr (some 69))]) (tw_s (tw_e 0 rfl (by omega)) (tw_s (tw_g 1 rfl) (tw_s (tw_g 3 rfl) (tw_s (tw_g 4 rfl) (tw_s (tw_g 5 rfl) tw_s0))))) ?_
                exact ih (r + 1) _ (by omega) (by split <;> omega) hF
              · refine ar_iconst (k := 73) rfl ?_
                refine ar_goto (k := 74) rfl ?_
                refine tw_top (y := if m = 1 ∧ rTrP s t r then 1 else 0) (by omega) ?_
                refine ar_istoren (k := 76) (l2 := [(3, _), (5, _), (4, _), (2, _), (1, _), (0, _)]) rfl (by decide) rfl ?_
                refine ar_iinc (k := 77) (l2 := [(4, _), (3, _), (5, _), (2, _), (1, _), (0, _)]) rfl (by decide) rfl rfl ?_
                refine ar_goto (k := 78) rfl ?_
                refine ar_sub (l2 := [(4, vi ((r + 1 : Nat) : Int)), (3, vi (if m = 1 ∧ rTrP s t r then 1 else 0)), (2, vi (t : Int)), (1, vi a), (0, vr (some 69))]) (tw_s (tw_e 0 rfl (by omega)) (tw_s (tw_g 1 rfl) (tw_s (tw_g 3 rfl) (tw_s (tw_g 4 rfl) (tw_s (tw_g 5 rfl) tw_s0))))) ?_
                exact ih (r + 1) _ (by omega) (by split <;> omega) hF
            · refine ar_iconst (k := 69) rfl ?_
              refine ar_goto (k := 70) rfl ?_
              refine ar_icmp_ne (k := 72) rfl (by omega) (by omega) (fun c72 => ?_) (fun c72 => ?_)
              · refine ar_iconst (k := 75) rfl ?_
                refine tw_top (y := if m = 1 ∧ rTrP s t r then 1 else 0) (by omega) ?_
                refine ar_istoren (k := 76) (l2 := [(3, _), (5, _), (4, _), (2, _), (1, _), (0, _)]) rfl (by decide) rfl ?_
                refine ar_iinc (k := 77) (l2 := [(4, _), (3, _), (5, _), (2, _), (1, _), (0, _)]) rfl (by decide) rfl rfl ?_
                refine ar_goto (k := 78) rfl ?_
                refine ar_sub (l2 := [(4, vi ((r + 1 : Nat) : Int)), (3, vi (if m = 1 ∧ rTrP s t r then 1 else 0)), (2, vi (t : Int)), (1, vi a), (0, vr (some 69))]) (tw_s (tw_e 0 rfl (by omega)) (tw_s (tw_g 1 rfl) (tw_s (tw_g 3 rfl) (tw_s (tw_g 4 rfl) (tw_s (tw_g 5 rfl) tw_s0))))) ?_
                exact ih (r + 1) _ (by omega) (by split <;> omega) hF
              · refine ar_iconst (k := 73) rfl ?_
                refine ar_goto (k := 74) rfl ?_
                refine tw_top (y := if m = 1 ∧ rTrP s t r then 1 else 0) (by omega) ?_
                refine ar_istoren (k := 76) (l2 := [(3, _), (5, _), (4, _), (2, _), (1, _), (0, _)]) rfl (by decide) rfl ?_
                refine ar_iinc (k := 77) (l2 := [(4, _), (3, _), (5, _), (2, _), (1, _), (0, _)]) rfl (by decide) rfl rfl ?_
                refine ar_goto (k := 78) rfl ?_
                refine ar_sub (l2 := [(4, vi ((r + 1 : Nat) : Int)), (3, vi (if m = 1 ∧ rTrP s t r then 1 else 0)), (2, vi (t : Int)), (1, vi a), (0, vr (some 69))]) (tw_s (tw_e 0 rfl (by omega)) (tw_s (tw_g 1 rfl) (tw_s (tw_g 3 rfl) (tw_s (tw_g 4 rfl) (tw_s (tw_g 5 rfl) tw_s0))))) ?_
                exact ih (r + 1) _ (by omega) (by split <;> omega) hF
        · refine ar_aloadn (k := 46) rfl rfl ?_
          refine br_getR (k := 47) rfl (hS.k (by decide)) flR_9_12 (by decide) rfl (hS.r rfl) ?_
          refine ar_bipush (k := 48) rfl (by decide) ?_
          refine ar_iload (k := 49) rfl rfl ?_
          refine ar_iadd (k := 50) rfl ?_
          refine br_iads (k := 51) rfl (hS.k (by decide)) (by omega) (by omega) (by decide) hs ?_
          refine ar_iloadn (k := 52) rfl rfl ?_
          refine ar_icmp_eq (k := 53) rfl (by omega) (by omega) (fun c53 => ?_) (fun c53 => ?_)
          · refine ar_iconst (k := 56) rfl ?_
            refine ar_istore (k := 57) (l2 := [(5, _), (4, _), (3, _), (2, _), (1, _), (0, _)]) rfl (by decide) rfl ?_
            refine ar_iloadn (k := 58) rfl rfl ?_
            refine ar_if_eq (k := 59) rfl (by omega) (fun c59 => ?_) (fun c59 => ?_)
            · refine ar_iconst (k := 75) rfl ?_
              refine tw_top (y := if m = 1 ∧ rTrP s t r then 1 else 0) (by omega) ?_
              refine ar_istoren (k := 76) (l2 := [(3, _), (5, _), (4, _), (2, _), (1, _), (0, _)]) rfl (by decide) rfl ?_
              refine ar_iinc (k := 77) (l2 := [(4, _), (3, _), (5, _), (2, _), (1, _), (0, _)]) rfl (by decide) rfl rfl ?_
              refine ar_goto (k := 78) rfl ?_
              refine ar_sub (l2 := [(4, vi ((r + 1 : Nat) : Int)), (3, vi (if m = 1 ∧ rTrP s t r then 1 else 0)), (2, vi (t : Int)), (1, vi a), (0, vr (some 69))]) (tw_s (tw_e 0 rfl (by omega)) (tw_s (tw_g 1 rfl) (tw_s (tw_g 3 rfl) (tw_s (tw_g 4 rfl) (tw_s (tw_g 5 rfl) tw_s0))))) ?_
              exact ih (r + 1) _ (by omega) (by split <;> omega) hF
            · refine ar_iload (k := 60) rfl rfl ?_
              refine ar_aloadn (k := 61) rfl rfl ?_
              refine br_getR (k := 62) rfl (hS.k (by decide)) flR_9_12 (by decide) rfl (hS.r rfl) ?_
              refine ar_sipush (k := 63) rfl (by decide) ?_
              refine ar_iload (k := 64) rfl rfl ?_
              refine ar_iadd (k := 65) rfl ?_
              refine br_iads (k := 66) rfl (hS.k (by decide)) (by omega) (by omega) (by decide) hs ?_
              refine ar_iconst (k := 67) rfl ?_
              refine ar_icmp_ne (k := 68) rfl (by omega) (by omega) (fun c68 => ?_) (fun c68 => ?_)
              · refine ar_iconst (k := 71) rfl ?_
                refine ar_icmp_ne (k := 72) rfl (by omega) (by omega) (fun c72 => ?_) (fun c72 => ?_)
                · refine ar_iconst (k := 75) rfl ?_
                  refine tw_top (y := if m = 1 ∧ rTrP s t r then 1 else 0) (by omega) ?_
                  refine ar_istoren (k := 76) (l2 := [(3, _), (5, _), (4, _), (2, _), (1, _), (0, _)]) rfl (by decide) rfl ?_
                  refine ar_iinc (k := 77) (l2 := [(4, _), (3, _), (5, _), (2, _), (1, _), (0, _)]) rfl (by decide) rfl rfl ?_
                  refine ar_goto (k := 78) rfl ?_
                  refine ar_sub (l2 := [(4, vi ((r + 1 : Nat) : Int)), (3, vi (if m = 1 ∧ rTrP s t r then 1 else 0)), (2, vi (t : Int)), (1, vi a), (0, vr (some 69))]) (tw_s (tw_e 0 rfl (by omega)) (tw_s (tw_g 1 rfl) (tw_s (tw_g 3 rfl) (tw_s (tw_g 4 rfl) (tw_s (tw_g 5 rfl) tw_s0))))) ?_
                  exact ih (r + 1) _ (by omega) (by split <;> omega) hF
                · refine ar_iconst (k := 73) rfl ?_
                  refine ar_goto (k := 74) rfl ?_
                  refine tw_top (y := if m = 1 ∧ rTrP s t r then 1 else 0) (by omega) ?_
                  refine ar_istoren (k := 76) (l2 := [(3, _), (5, _), (4, _), (2, _), (1, _), (0, _)]) rfl (by decide) rfl ?_
                  refine ar_iinc (k := 77) (l2 := [(4, _), (3, _), (5, _), (2, _), (1, _), (0, _)]) rfl (by decide) rfl rfl ?_
                  refine ar_goto (k := 78) rfl ?_
                  refine ar_sub (l2 := [(4, vi ((r + 1 : Nat) : Int)), (3, vi (if m = 1 ∧ rTrP s t r then 1 else 0)), (2, vi (t : Int)), (1, vi a), (0, vr (some 69))]) (tw_s (tw_e 0 rfl (by omega)) (tw_s (tw_g 1 rfl) (tw_s (tw_g 3 rfl) (tw_s (tw_g 4 rfl) (tw_s (tw_g 5 rfl) tw_s0))))) ?_
                  exact ih (r + 1) _ (by omega) (by split <;> omega) hF
              · refine ar_iconst (k := 69) rfl ?_
                refine ar_goto (k := 70) rfl ?_
                refine ar_icmp_ne (k := 72) rfl (by omega) (by omega) (fun c72 => ?_) (fun c72 => ?_)
                · refine ar_iconst (k := 75) rfl ?_
                  refine tw_top (y := if m = 1 ∧ rTrP s t r then 1 else 0) (by omega) ?_
                  refine ar_istoren (k := 76) (l2 := [(3, _), (5, _), (4, _), (2, _), (1, _), (0, _)]) rfl (by decide) rfl ?_
                  refine ar_iinc (k := 77) (l2 := [(4, _), (3, _), (5, _), (2, _), (1, _), (0, _)]) rfl (by decide) rfl rfl ?_
                  refine ar_goto (k := 78) rfl ?_
                  refine ar_sub (l2 := [(4, vi ((r + 1 : Nat) : Int)), (3, vi (if m = 1 ∧ rTrP s t r then 1 else 0)), (2, vi (t : Int)), (1, vi a), (0, vr (some 69))]) (tw_s (tw_e 0 rfl (by omega)) (tw_s (tw_g 1 rfl) (tw_s (tw_g 3 rfl) (tw_s (tw_g 4 rfl) (tw_s (tw_g 5 rfl) tw_s0))))) ?_
                  exact ih (r + 1) _ (by omega) (by split <;> omega) hF
                · refine ar_iconst (k := 73) rfl ?_
                  refine ar_goto (k := 74) rfl ?_
                  refine tw_top (y := if m = 1 ∧ rTrP s t r then 1 else 0) (by omega) ?_
                  refine ar_istoren (k := 76) (l2 := [(3, _), (5, _), (4, _), (2, _), (1, _), (0, _)]) rfl (by decide) rfl ?_
                  refine ar_iinc (k := 77) (l2 := [(4, _), (3, _), (5, _), (2, _), (1, _), (0, _)]) rfl (by decide) rfl rfl ?_
                  refine ar_goto (k := 78) rfl ?_
                  refine ar_sub (l2 := [(4, vi ((r + 1 : Nat) : Int)), (3, vi (if m = 1 ∧ rTrP s t r then 1 else 0)), (2, vi (t : Int)), (1, vi a), (0, vr (some 69))]) (tw_s (tw_e 0 rfl (by omega)) (tw_s (tw_g 1 rfl) (tw_s (tw_g 3 rfl) (tw_s (tw_g 4 rfl) (tw_s (tw_g 5 rfl) tw_s0))))) ?_
                  exact ih (r + 1) _ (by omega) (by split <;> omega) hF
          · refine ar_iconst (k := 54) rfl ?_
            refine ar_goto (k := 55) rfl ?_
            refine ar_istore (k := 57) (l2 := [(5, _), (4, _), (3, _), (2, _), (1, _), (0, _)]) rfl (by decide) rfl ?_
            refine ar_iloadn (k := 58) rfl rfl ?_
            refine ar_if_eq (k := 59) rfl (by omega) (fun c59 => ?_) (fun c59 => ?_)
            · refine ar_iconst (k := 75) rfl ?_
              refine tw_top (y := if m = 1 ∧ rTrP s t r then 1 else 0) (by omega) ?_
              refine ar_istoren (k := 76) (l2 := [(3, _), (5, _), (4, _), (2, _), (1, _), (0, _)]) rfl (by decide) rfl ?_
              refine ar_iinc (k := 77) (l2 := [(4, _), (3, _), (5, _), (2, _), (1, _), (0, _)]) rfl (by decide) rfl rfl ?_
              refine ar_goto (k := 78) rfl ?_
              refine ar_sub (l2 := [(4, vi ((r + 1 : Nat) : Int)), (3, vi (if m = 1 ∧ rTrP s t r then 1 else 0)), (2, vi (t : Int)), (1, vi a), (0, vr (some 69))]) (tw_s (tw_e 0 rfl (by omega)) (tw_s (tw_g 1 rfl) (tw_s (tw_g 3 rfl) (tw_s (tw_g 4 rfl) (tw_s (tw_g 5 rfl) tw_s0))))) ?_
              exact ih (r + 1) _ (by omega) (by split <;> omega) hF
            · refine ar_iload (k := 60) rfl rfl ?_
              refine ar_aloadn (k := 61) rfl rfl ?_
              refine br_getR (k := 62) rfl (hS.k (by decide)) flR_9_12 (by decide) rfl (hS.r rfl) ?_
              refine ar_sipush (k := 63) rfl (by decide) ?_
              refine ar_iload (k := 64) rfl rfl ?_
              refine ar_iadd (k := 65) rfl ?_
              refine br_iads (k := 66) rfl (hS.k (by decide)) (by omega) (by omega) (by decide) hs ?_
              refine ar_iconst (k := 67) rfl ?_
              refine ar_icmp_ne (k := 68) rfl (by omega) (by omega) (fun c68 => ?_) (fun c68 => ?_)
              · refine ar_iconst (k := 71) rfl ?_
                refine ar_icmp_ne (k := 72) rfl (by omega) (by omega) (fun c72 => ?_) (fun c72 => ?_)
                · refine ar_iconst (k := 75) rfl ?_
                  refine tw_top (y := if m = 1 ∧ rTrP s t r then 1 else 0) (by omega) ?_
                  refine ar_istoren (k := 76) (l2 := [(3, _), (5, _), (4, _), (2, _), (1, _), (0, _)]) rfl (by decide) rfl ?_
                  refine ar_iinc (k := 77) (l2 := [(4, _), (3, _), (5, _), (2, _), (1, _), (0, _)]) rfl (by decide) rfl rfl ?_
                  refine ar_goto (k := 78) rfl ?_
                  refine ar_sub (l2 := [(4, vi ((r + 1 : Nat) : Int)), (3, vi (if m = 1 ∧ rTrP s t r then 1 else 0)), (2, vi (t : Int)), (1, vi a), (0, vr (some 69))]) (tw_s (tw_e 0 rfl (by omega)) (tw_s (tw_g 1 rfl) (tw_s (tw_g 3 rfl) (tw_s (tw_g 4 rfl) (tw_s (tw_g 5 rfl) tw_s0))))) ?_
                  exact ih (r + 1) _ (by omega) (by split <;> omega) hF
                · refine ar_iconst (k := 73) rfl ?_
                  refine ar_goto (k := 74) rfl ?_
                  refine tw_top (y := if m = 1 ∧ rTrP s t r then 1 else 0) (by omega) ?_
                  refine ar_istoren (k := 76) (l2 := [(3, _), (5, _), (4, _), (2, _), (1, _), (0, _)]) rfl (by decide) rfl ?_
                  refine ar_iinc (k := 77) (l2 := [(4, _), (3, _), (5, _), (2, _), (1, _), (0, _)]) rfl (by decide) rfl rfl ?_
                  refine ar_goto (k := 78) rfl ?_
                  refine ar_sub (l2 := [(4, vi ((r + 1 : Nat) : Int)), (3, vi (if m = 1 ∧ rTrP s t r then 1 else 0)), (2, vi (t : Int)), (1, vi a), (0, vr (some 69))]) (tw_s (tw_e 0 rfl (by omega)) (tw_s (tw_g 1 rfl) (tw_s (tw_g 3 rfl) (tw_s (tw_g 4 rfl) (tw_s (tw_g 5 rfl) tw_s0))))) ?_
                  exact ih (r + 1) _ (by omega) (by split <;> omega) hF
              · refine ar_iconst (k := 69) rfl ?_
                refine ar_goto (k := 70) rfl ?_
                refine ar_icmp_ne (k := 72) rfl (by omega) (by omega) (fun c72 => ?_) (fun c72 => ?_)
                · refine ar_iconst (k := 75) rfl ?_
                  refine tw_top (y := if m = 1 ∧ rTrP s t r then 1 else 0) (by omega) ?_
                  refine ar_istoren (k := 76) (l2 := [(3, _), (5, _), (4, _), (2, _), (1, _), (0, _)]) rfl (by decide) rfl ?_
                  refine ar_iinc (k := 77) (l2 := [(4, _), (3, _), (5, _), (2, _), (1, _), (0, _)]) rfl (by decide) rfl rfl ?_
                  refine ar_goto (k := 78) rfl ?_
                  refine ar_sub (l2 := [(4, vi ((r + 1 : Nat) : Int)), (3, vi (if m = 1 ∧ rTrP s t r then 1 else 0)), (2, vi (t : Int)), (1, vi a), (0, vr (some 69))]) (tw_s (tw_e 0 rfl (by omega)) (tw_s (tw_g 1 rfl) (tw_s (tw_g 3 rfl) (tw_s (tw_g 4 rfl) (tw_s (tw_g 5 rfl) tw_s0))))) ?_
                  exact ih (r + 1) _ (by omega) (by split <;> omega) hF
                · refine ar_iconst (k := 73) rfl ?_
                  refine ar_goto (k := 74) rfl ?_
                  refine tw_top (y := if m = 1 ∧ rTrP s t r then 1 else 0) (by omega) ?_
                  refine ar_istoren (k := 76) (l2 := [(3, _), (5, _), (4, _), (2, _), (1, _), (0, _)]) rfl (by decide) rfl ?_
                  refine ar_iinc (k := 77) (l2 := [(4, _), (3, _), (5, _), (2, _), (1, _), (0, _)]) rfl (by decide) rfl rfl ?_
                  refine ar_goto (k := 78) rfl ?_
                  refine ar_sub (l2 := [(4, vi ((r + 1 : Nat) : Int)), (3, vi (if m = 1 ∧ rTrP s t r then 1 else 0)), (2, vi (t : Int)), (1, vi a), (0, vr (some 69))]) (tw_s (tw_e 0 rfl (by omega)) (tw_s (tw_g 1 rfl) (tw_s (tw_g 3 rfl) (tw_s (tw_g 4 rfl) (tw_s (tw_g 5 rfl) tw_s0))))) ?_
                  exact ih (r + 1) _ (by omega) (by split <;> omega) hF
theorem l_R_brokenOnes (hS : tSt (K, I, Q, n)) (hs : I 70 = s) (hR : RInv s) : ∀ (k : Nat) (j : Nat) (a : Int), j + k = (s 1).toNat → tw_AW l G mR_brokenOnes 2 0 0 n 0 (tw_fn (some (vi (orV (fun t => if rMayN s (t : Int) (s 3).toNat 0 1 = 1 then bShl 1 t else 0) k j a))) (K, I, Q, n)) 4 [(2, vi (j : Int)), (1, vi a), (0, vr (some 69))] [] (K, I, Q, n) := by
  obtain ⟨h0, h1, h2, h3, h4, h5, h6, hp, hrw, ht, hr, hb, htp, hv⟩ := id hR
  intro k
  induction k with
  | zero =>
    intro j a hj
    refine ar_iloadn (k := 4) rfl rfl ?_
    refine ar_aloadn (k := 5) rfl rfl ?_
    refine br_getR (k := 6) rfl (hS.k (by decide)) flR_9_12 (by decide) rfl (hS.r rfl) ?_
    refine ar_iconst (k := 7) rfl ?_
    refine br_iads (k := 8) rfl (hS.k (by decide)) (by omega) (by omega) (by decide) hs ?_
    refine ar_icmp_ge (k := 9) rfl (by omega) (by omega) (fun c9 => ?_) (fun c9 => ?_)
    · refine ar_iloadn (k := 91) rfl rfl ?_
      refine ar_iret (k := 92) rfl rfl rfl (Nat.le_refl _) ?_
      exact ⟨rfl, rfl⟩
    · exfalso; omega
  | succ k ih =>
    intro j a hj
    refine ar_iloadn (k := 4) rfl rfl ?_
    refine ar_aloadn (k := 5) rfl rfl ?_
    refine br_getR (k := 6) rfl (hS.k (by decide)) flR_9_12 (by decide) rfl (hS.r rfl) ?_
    refine ar_iconst (k := 7) rfl ?_
    refine br_iads (k := 8) rfl (hS.k (by decide)) (by omega) (by omega) (by decide) hs ?_
    refine ar_icmp_ge (k := 9) rfl (by omega) (by omega) (fun c9 => ?_) (fun c9 => ?_)
    · exfalso; omega
    · refine ar_iconst (k := 10) rfl ?_
      refine ar_istoren (k := 11) (l2 := [(3, _), (2, _), (1, _), (0, _)]) rfl (by decide) rfl ?_
      refine ar_iconst (k := 12) rfl ?_
      refine ar_istore (k := 13) (l2 := [(4, _), (3, _), (2, _), (1, _), (0, _)]) rfl (by decide) rfl ?_
      refine ar_sub (l2 := [(4, vi ((0 : Nat) : Int)), (3, vi 1), (2, vi (j : Int)), (1, vi a), (0, vr (some 69))]) (tw_s (tw_e 0 rfl (by rfl)) (tw_s (tw_g 1 rfl) (tw_s (tw_g 2 rfl) (tw_s (tw_g 3 rfl) (tw_s (tw_g 4 rfl) tw_s0))))) ?_
      refine li_R_brokenOnes (t := j) (a := a) hS hs hR (F := rMayN s (j : Int) (s 3).toNat 0 1) (by omega) ?_ _ 0 1 (by omega) (Or.inr rfl) rfl
      intro r2
      have h01 := rMayN_01 (s := s) (t := (j : Int)) (s 3).toNat 0 1 (Or.inr rfl)
      refine ar_iloadn (k := 79) rfl rfl ?_
      refine ar_iloadn (k := 80) rfl rfl ?_
      refine ar_if_eq (k := 81) rfl (by omega) (fun c81 => ?_) (fun c81 => ?_)
      · refine ar_iconst (k := 86) rfl ?_
        refine tw_top (y := (fun t => if rMayN s (t : Int) (s 3).toNat 0 1 = 1 then bShl 1 t else 0) j) (by show _ = (if _ then _ else _); (repeat' split) <;> first | rfl | (exfalso; omega)) ?_
        refine ar_ior (k := 87) rfl ?_
        refine ar_istoren (k := 88) (l2 := [(1, _), (4, _), (3, _), (2, _), (0, _)]) rfl (by decide) rfl ?_
        refine ar_iinc (k := 89) (l2 := [(2, _), (1, _), (4, _), (3, _), (0, _)]) rfl (by decide) rfl rfl ?_
        refine ar_goto (k := 90) rfl ?_
        refine ar_sub (l2 := [(2, vi ((j + 1 : Nat) : Int)), (1, vi (bOr a ((fun t => if rMayN s (t : Int) (s 3).toNat 0 1 = 1 then bShl 1 t else 0) j))), (0, vr (some 69))]) (tw_s (tw_e 0 rfl (by omega)) (tw_s (tw_e 1 rfl (by rfl)) (tw_s (tw_g 4 rfl) tw_s0))) ?_
        exact ih (j + 1) _ (by omega)
      · refine ar_iconst (k := 82) rfl ?_
        refine ar_iloadn (k := 83) rfl rfl ?_
        refine ar_ishl (k := 84) rfl ?_
        refine ar_goto (k := 85) rfl ?_
        refine tw_top (y := (fun t => if rMayN s (t : Int) (s 3).toNat 0 1 = 1 then bShl 1 t else 0) j) (by show _ = (if _ then _ else _); (repeat' split) <;> first | rfl | (exfalso; omega)) ?_
        refine ar_ior (k := 87) rfl ?_
        refine ar_istoren (k := 88) (l2 := [(1, _), (4, _), (3, _), (2, _), (0, _)]) rfl (by decide) rfl ?_
        refine ar_iinc (k := 89) (l2 := [(2, _), (1, _), (4, _), (3, _), (0, _)]) rfl (by decide) rfl rfl ?_
        refine ar_goto (k := 90) rfl ?_
        refine ar_sub (l2 := [(2, vi ((j + 1 : Nat) : Int)), (1, vi (bOr a ((fun t => if rMayN s (t : Int) (s 3).toNat 0 1 = 1 then bShl 1 t else 0) j))), (0, vr (some 69))]) (tw_s (tw_e 0 rfl (by omega)) (tw_s (tw_e 1 rfl (by rfl)) (tw_s (tw_g 4 rfl) tw_s0))) ?_
        exact ih (j + 1) _ (by omega)
theorem c_R_brokenOnes (hS : tSt (K, I, Q, n)) (hs : I 70 = s) (hR : RInv s) : tw_F l G 2 0 0 mR_brokenOnes [vr (some 69)] (K, I, Q, n) (some (vi (rBrk s))) (K, I, Q, n) := by
  obtain ⟨h0, h1, h2, h3, h4, h5, h6, hp, hrw, ht, hr, hb, htp, hv⟩ := id hR
  refine tw_intro okR_brokenOnes (Nat.le_of_ble_eq_true rfl) ?_
  refine ar_iconst (k := 0) rfl ?_
  refine ar_istoren (k := 1) (l2 := [(1, _), (0, _)]) rfl (by decide) rfl ?_
  refine ar_iconst (k := 2) rfl ?_
  refine ar_istoren (k := 3) (l2 := [(2, _), (1, _), (0, _)]) rfl (by decide) rfl ?_
  refine ar_sub (l2 := [(2, vi ((0 : Nat) : Int)), (1, vi 0), (0, vr (some 69))]) (tw_s (tw_e 0 rfl (by rfl)) (tw_s (tw_g 1 rfl) (tw_s (tw_g 2 rfl) tw_s0))) ?_
  exact l_R_brokenOnes hS hs hR _ 0 0 (by omega)
theorem l_R_nextTry {e : Int} (hS : tSt (K, I, Q, n)) (hs : I 70 = s) (hR : RInv s) : ∀ (k : Nat) (j : Nat) (b m : Int), j + k = (s 1).toNat → (b = -5 ∨ (0 ≤ b ∧ b < 10)) → (-100 ≤ m ∧ m ≤ 100) → tw_AW l G mR_nextTry 3 0 0 n 0 (tw_fn (some (vi (rTryN s e k j b m))) (K, I, Q, n)) 13 [(4, vi (j : Int)), (3, vi m), (2, vi b), (1, vi e), (0, vr (some 69))] [] (K, I, Q, n) := by
  obtain ⟨h0, h1, h2, h3, h4, h5, h6, hp, hrw, ht, hr, hb, htp, hv⟩ := id hR
  intro k
  induction k with
  | zero =>
    intro j b m hj hb9 hm9
    refine ar_iload (k := 9) rfl rfl ?_
    refine ar_aloadn (k := 10) rfl rfl ?_
    refine br_getR (k := 11) rfl (hS.k (by decide)) flR_9_12 (by decide) rfl (hS.r rfl) ?_
    refine ar_iconst (k := 12) rfl ?_
    refine br_iads (k := 13) rfl (hS.k (by decide)) (by omega) (by omega) (by decide) hs ?_
    refine ar_icmp_ge (k := 14) rfl (by omega) (by omega) (fun c14 => ?_) (fun c14 => ?_)
    · refine ar_iloadn (k := 76) rfl rfl ?_
      refine ar_iret (k := 77) rfl rfl rfl (Nat.le_refl _) ?_
      exact ⟨rfl, rfl⟩
    · exfalso; omega
  | succ k ih =>
    intro j b m hj hb9 hm9
    refine ar_iload (k := 9) rfl rfl ?_
    refine ar_aloadn (k := 10) rfl rfl ?_
    refine br_getR (k := 11) rfl (hS.k (by decide)) flR_9_12 (by decide) rfl (hS.r rfl) ?_
    refine ar_iconst (k := 12) rfl ?_
    refine br_iads (k := 13) rfl (hS.k (by decide)) (by omega) (by omega) (by decide) hs ?_
    refine ar_icmp_ge (k := 14) rfl (by omega) (by omega) (fun c14 => ?_) (fun c14 => ?_)
    · exfalso; omega
    · have hw := ht j (by omega) (by omega)
      have b1 := bAnd1 (bShr e (j : Int))
      have b2 := bAnd1 (bShr e (s (94 + (j : Int))))
      have b3 := rCnt_bd e
      refine ar_aloadn (k := 15) rfl rfl ?_
      refine br_getR (k := 16) rfl (hS.k (by decide)) flR_9_12 (by decide) rfl (hS.r rfl) ?_
      refine ar_bipush (k := 17) rfl (by decide) ?_
      refine ar_iload (k := 18) rfl rfl ?_
      refine ar_iadd (k := 19) rfl ?_
      refine br_iads (k := 20) rfl (hS.k (by decide)) (by omega) (by omega) (by decide) hs ?_
      refine ar_iload (k := 21) rfl rfl ?_
      refine ar_icmp_le (k := 22) rfl (by omega) (by omega) (fun c22 => ?_) (fun c22 => ?_)
      · first
          | (exfalso; omega)
          | (refine ar_iinc (k := 74) (l2 := [(4, _), (3, _), (2, _), (1, _), (0, _)]) rfl (by decide) rfl rfl ?_; refine ar_goto (k := 75) rfl ?_; refine ar_sub (l2 := [(4, vi ((j + 1 : Nat) : Int)), (3, vi (max (bAnd (bShr e (j : Int)) 1 + bAnd (bShr e (s (94 + (j : Int)))) 1) (rCnt e - (bAnd (bShr e (j : Int)) 1 + bAnd (bShr e (s (94 + (j : Int)))) 1)))), (2, vi ((j : Int))), (1, vi e), (0, vr (some 69))]) (tw_s (tw_e 0 rfl (by omega)) (tw_s (tw_e 1 rfl (by omega)) (tw_s (tw_g 2 rfl) (tw_s (tw_g 3 rfl) (tw_s (tw_g 4 rfl) tw_s0))))) ?_; rw [show rTryN s e (k + 1) j b m = rTryN s e k (j + 1) j (max (bAnd (bShr e (j : Int)) 1 + bAnd (bShr e (s (94 + (j : Int)))) 1) (rCnt e - (bAnd (bShr e (j : Int)) 1 + bAnd (bShr e (s (94 + (j : Int)))) 1))) by rw [rTryN, if_pos (by omega)]]; exact ih (j + 1) _ _ (by omega) (by omega) (by omega))
          | (refine ar_iinc (k := 74) (l2 := [(4, _), (3, _), (2, _), (1, _), (0, _)]) rfl (by decide) rfl rfl ?_; refine ar_goto (k := 75) rfl ?_; refine ar_sub (l2 := [(4, vi ((j + 1 : Nat) : Int)), (3, vi (m)), (2, vi (b)), (1, vi e), (0, vr (some 69))]) (tw_s (tw_e 0 rfl (by omega)) (tw_s (tw_g 1 rfl) (tw_s (tw_g 2 rfl) (tw_s (tw_g 3 rfl) (tw_s (tw_g 4 rfl) tw_s0))))) ?_; rw [show rTryN s e (k + 1) j b m = rTryN s e k (j + 1) b m by rw [rTryN, if_neg (by omega)]]; exact ih (j + 1) _ _ (by omega) (by omega) (by omega))
      · refine ar_iloadn (k := 23) rfl rfl ?_
        refine ar_iload (k := 24) rfl rfl ?_
        refine ar_ishr (k := 25) rfl ?_
        refine ar_iconst (k := 26) rfl ?_
        refine ar_iand (k := 27) rfl ?_
        refine ar_iloadn (k := 28) rfl rfl ?_
        refine ar_aloadn (k := 29) rfl rfl ?_
        refine br_getR (k := 30) rfl (hS.k (by decide)) flR_9_12 (by decide) rfl (hS.r rfl) ?_
        refine ar_bipush (k := 31) rfl (by decide) ?_
        refine ar_iload (k := 32) rfl rfl ?_
        refine ar_iadd (k := 33) rfl ?_
        refine br_iads (k := 34) rfl (hS.k (by decide)) (by omega) (by omega) (by decide) hs ?_
        refine ar_ishr (k := 35) rfl ?_
        refine ar_iconst (k := 36) rfl ?_
        refine ar_iand (k := 37) rfl ?_
        refine ar_iadd (k := 38) rfl ?_
        refine ar_istore (k := 39) (l2 := [(5, _), (4, _), (3, _), (2, _), (1, _), (0, _)]) rfl (by decide) rfl ?_
        refine ar_iloadn (k := 40) rfl rfl ?_
        refine br_callS (k := 41) (as := [_]) rfl lsR_191 c_R_count1 rfl (by decide) (by decide) tw_m0 (Nat.le_of_ble_eq_true rfl) ?_
        refine ar_iload (k := 42) rfl rfl ?_
        refine ar_isub (k := 43) rfl ?_
        refine ar_istore (k := 44) (l2 := [(6, _), (5, _), (4, _), (3, _), (2, _), (1, _), (0, _)]) rfl (by decide) rfl ?_
        refine ar_iload (k := 45) rfl rfl ?_
        refine ar_iload (k := 46) rfl rfl ?_
        refine ar_icmp_le (k := 47) rfl (by omega) (by omega) (fun c47 => ?_) (fun c47 => ?_)
        · refine ar_iload (k := 50) rfl rfl ?_
          refine ar_istore (k := 51) (l2 := [(7, _), (6, _), (5, _), (4, _), (3, _), (2, _), (1, _), (0, _)]) rfl (by decide) rfl ?_
          refine ar_iloadn (k := 52) rfl rfl ?_
          refine ar_bipush (k := 53) rfl (by decide) ?_
          refine ar_icmp_eq (k := 54) rfl (by omega) (by omega) (fun c54 => ?_) (fun c54 => ?_)
          · refine ar_iconst (k := 58) rfl ?_
            refine ar_goto (k := 59) rfl ?_
            refine ar_istore (k := 61) (l2 := [(8, _), (7, _), (6, _), (5, _), (4, _), (3, _), (2, _), (1, _), (0, _)]) rfl (by decide) rfl ?_
            refine ar_iload (k := 62) rfl rfl ?_
            refine ar_if_eq (k := 63) rfl (by omega) (fun c63 => ?_) (fun c63 => ?_)
            · refine ar_iloadn (k := 66) rfl rfl ?_
              refine ar_istoren (k := 67) (l2 := [(2, _), (8, _), (7, _), (6, _), (5, _), (4, _), (3, _), (1, _), (0, _)]) rfl (by decide) rfl ?_
              refine ar_iload (k := 68) rfl rfl ?_
              refine ar_if_eq (k := 69) rfl (by omega) (fun c69 => ?_) (fun c69 => ?_)
              · refine ar_iloadn (k := 72) rfl rfl ?_
                refine ar_istoren (k := 73) (l2 := [(3, _), (2, _), (8, _), (7, _), (6, _), (5, _), (4, _), (1, _), (0, _)]) rfl (by decide) rfl ?_
                first
                  | (exfalso; omega)
                  | (refine ar_iinc (k := 74) (l2 := [(4, _), (3, _), (2, _), (8, _), (7, _), (6, _), (5, _), (1, _), (0, _)]) rfl (by decide) rfl rfl ?_; refine ar_goto (k := 75) rfl ?_; refine ar_sub (l2 := [(4, vi ((j + 1 : Nat) : Int)), (3, vi (max (bAnd (bShr e (j : Int)) 1 + bAnd (bShr e (s (94 + (j : Int)))) 1) (rCnt e - (bAnd (bShr e (j : Int)) 1 + bAnd (bShr e (s (94 + (j : Int)))) 1)))), (2, vi ((j : Int))), (1, vi e), (0, vr (some 69))]) (tw_s (tw_e 0 rfl (by omega)) (tw_s (tw_e 1 rfl (by omega)) (tw_s (tw_g 2 rfl) (tw_s (tw_g 7 rfl) (tw_s (tw_g 8 rfl) tw_s0))))) ?_; rw [show rTryN s e (k + 1) j b m = rTryN s e k (j + 1) j (max (bAnd (bShr e (j : Int)) 1 + bAnd (bShr e (s (94 + (j : Int)))) 1) (rCnt e - (bAnd (bShr e (j : Int)) 1 + bAnd (bShr e (s (94 + (j : Int)))) 1))) by rw [rTryN, if_pos (by omega)]]; exact ih (j + 1) _ _ (by omega) (by omega) (by omega))
                  | (refine ar_iinc (k := 74) (l2 := [(4, _), (3, _), (2, _), (8, _), (7, _), (6, _), (5, _), (1, _), (0, _)]) rfl (by decide) rfl rfl ?_; refine ar_goto (k := 75) rfl ?_; refine ar_sub (l2 := [(4, vi ((j + 1 : Nat) : Int)), (3, vi (m)), (2, vi (b)), (1, vi e), (0, vr (some 69))]) (tw_s (tw_e 0 rfl (by omega)) (tw_s (tw_g 1 rfl) (tw_s (tw_g 2 rfl) (tw_s (tw_g 7 rfl) (tw_s (tw_g 8 rfl) tw_s0))))) ?_; rw [show rTryN s e (k + 1) j b m = rTryN s e k (j + 1) b m by rw [rTryN, if_neg (by omega)]]; exact ih (j + 1) _ _ (by omega) (by omega) (by omega))
              · refine ar_iload (k := 70) rfl rfl ?_
                refine ar_goto (k := 71) rfl ?_
                refine ar_istoren (k := 73) (l2 := [(3, _), (2, _), (8, _), (7, _), (6, _), (5, _), (4, _), (1, _), (0, _)]) rfl (by decide) rfl ?_
                first
                  | (exfalso; omega)
                  | (refine ar_iinc (k := 74) (l2 := [(4, _), (3, _), (2, _), (8, _), (7, _), (6, _), (5, _), (1, _), (0, _)]) rfl (by decide) rfl rfl ?_; refine ar_goto (k := 75) rfl ?_; refine ar_sub (l2 := [(4, vi ((j + 1 : Nat) : Int)), (3, vi (max (bAnd (bShr e (j : Int)) 1 + bAnd (bShr e (s (94 + (j : Int)))) 1) (rCnt e - (bAnd (bShr e (j : Int)) 1 + bAnd (bShr e (s (94 + (j : Int)))) 1)))), (2, vi ((j : Int))), (1, vi e), (0, vr (some 69))]) (tw_s (tw_e 0 rfl (by omega)) (tw_s (tw_e 1 rfl (by omega)) (tw_s (tw_g 2 rfl) (tw_s (tw_g 7 rfl) (tw_s (tw_g 8 rfl) tw_s0))))) ?_; rw [show rTryN s e (k + 1) j b m = rTryN s e k (j + 1) j (max (bAnd (bShr e (j : Int)) 1 + bAnd (bShr e (s (94 + (j : Int)))) 1) (rCnt e - (bAnd (bShr e (j : Int)) 1 + bAnd (bShr e (s (94 + (j : Int)))) 1))) by rw [rTryN, if_pos (by omega)]]; exact ih (j + 1) _ _ (by omega) (by omega) (by omega))
                  | (refine ar_iinc (k := 74) (l2 := [(4, _), (3, _), (2, _), (8, _), (7, _), (6, _), (5, _), (1, _), (0, _)]) rfl (by decide) rfl rfl ?_; refine ar_goto (k := 75) rfl ?_; refine ar_sub (l2 := [(4, vi ((j + 1 : Nat) : Int)), (3, vi (m)), (2, vi (b)), (1, vi e), (0, vr (some 69))]) (tw_s (tw_e 0 rfl (by omega)) (tw_s (tw_g 1 rfl) (tw_s (tw_g 2 rfl) (tw_s (tw_g 7 rfl) (tw_s (tw_g 8 rfl) tw_s0))))) ?_; rw [show rTryN s e (k + 1) j b m = rTryN s e k (j + 1) b m by rw [rTryN, if_neg (by omega)]]; exact ih (j + 1) _ _ (by omega) (by omega) (by omega))
            · refine ar_iload (k := 64) rfl rfl ?_
              refine ar_goto (k := 65) rfl ?_
              refine ar_istoren (k := 67) (l2 := [(2, _), (8, _), (7, _), (6, _), (5, _), (4, _), (3, _), (1, _), (0, _)]) rfl (by decide) rfl ?_
              refine ar_iload (k := 68) rfl rfl ?_
              refine ar_if_eq (k := 69) rfl (by omega) (fun c69 => ?_) (fun c69 => ?_)
              · refine ar_iloadn (k := 72) rfl rfl ?_
                refine ar_istoren (k := 73) (l2 := [(3, _), (2, _), (8, _), (7, _), (6, _), (5, _), (4, _), (1, _), (0, _)]) rfl (by decide) rfl ?_
                first
                  | (exfalso; omega)
                  | (refine ar_iinc (k := 74) (l2 := [(4, _), (3, _), (2, _), (8, _), (7, _), (6, _), (5, _), (1, _), (0, _)]) rfl (by decide) rfl rfl ?_; refine ar_goto (k := 75) rfl ?_; refine ar_sub (l2 := [(4, vi ((j + 1 : Nat) : Int)), (3, vi (max (bAnd (bShr e (j : Int)) 1 + bAnd (bShr e (s (94 + (j : Int)))) 1) (rCnt e - (bAnd (bShr e (j : Int)) 1 + bAnd (bShr e (s (94 + (j : Int)))) 1)))), (2, vi ((j : Int))), (1, vi e), (0, vr (some 69))]) (tw_s (tw_e 0 rfl (by omega)) (tw_s (tw_e 1 rfl (by omega)) (tw_s (tw_g 2 rfl) (tw_s (tw_g 7 rfl) (tw_s (tw_g 8 rfl) tw_s0))))) ?_; rw [show rTryN s e (k + 1) j b m = rTryN s e k (j + 1) j (max (bAnd (bShr e (j : Int)) 1 + bAnd (bShr e (s (94 + (j : Int)))) 1) (rCnt e - (bAnd (bShr e (j : Int)) 1 + bAnd (bShr e (s (94 + (j : Int)))) 1))) by rw [rTryN, if_pos (by omega)]]; exact ih (j + 1) _ _ (by omega) (by omega) (by omega))
                  | (refine ar_iinc (k := 74) (l2 := [(4, _), (3, _), (2, _), (8, _), (7, _), (6, _), (5, _), (1, _), (0, _)]) rfl (by decide) rfl rfl ?_; refine ar_goto (k := 75) rfl ?_; refine ar_sub (l2 := [(4, vi ((j + 1 : Nat) : Int)), (3, vi (m)), (2, vi (b)), (1, vi e), (0, vr (some 69))]) (tw_s (tw_e 0 rfl (by omega)) (tw_s (tw_g 1 rfl) (tw_s (tw_g 2 rfl) (tw_s (tw_g 7 rfl) (tw_s (tw_g 8 rfl) tw_s0))))) ?_; rw [show rTryN s e (k + 1) j b m = rTryN s e k (j + 1) b m by rw [rTryN, if_neg (by omega)]]; exact ih (j + 1) _ _ (by omega) (by omega) (by omega))
              · refine ar_iload (k := 70) rfl rfl ?_
                refine ar_goto (k := 71) rfl ?_
                refine ar_istoren (k := 73) (l2 := [(3, _), (2, _), (8, _), (7, _), (6, _), (5, _), (4, _), (1, _), (0, _)]) rfl (by decide) rfl ?_
                first
                  | (exfalso; omega)
                  | (refine ar_iinc (k := 74) (l2 := [(4, _), (3, _), (2, _), (8, _), (7, _), (6, _), (5, _), (1, _), (0, _)]) rfl (by decide) rfl rfl ?_; refine ar_goto (k := 75) rfl ?_; refine ar_sub (l2 := [(4, vi ((j + 1 : Nat) : Int)), (3, vi (max (bAnd (bShr e (j : Int)) 1 + bAnd (bShr e (s (94 + (j : Int)))) 1) (rCnt e - (bAnd (bShr e (j : Int)) 1 + bAnd (bShr e (s (94 + (j : Int)))) 1)))), (2, vi ((j : Int))), (1, vi e), (0, vr (some 69))]) (tw_s (tw_e 0 rfl (by omega)) (tw_s (tw_e 1 rfl (by omega)) (tw_s (tw_g 2 rfl) (tw_s (tw_g 7 rfl) (tw_s (tw_g 8 rfl) tw_s0))))) ?_; rw [show rTryN s e (k + 1) j b m = rTryN s e k (j + 1) j (max (bAnd (bShr e (j : Int)) 1 + bAnd (bShr e (s (94 + (j : Int)))) 1) (rCnt e - (bAnd (bShr e (j : Int)) 1 + bAnd (bShr e (s (94 + (j : Int)))) 1))) by rw [rTryN, if_pos (by omega)]]; exact ih (j + 1) _ _ (by omega) (by omega) (by omega))
                  | (refine ar_iinc (k := 74) (l2 := [(4, _), (3, _), (2, _), (8, _), (7, _), (6, _), (5, _), (1, _), (0, _)]) rfl (by decide) rfl rfl ?_; refine ar_goto (k := 75) rfl ?_; refine ar_sub (l2 := [(4, vi ((j + 1 : Nat) : Int)), (3, vi (m)), (2, vi (b)), (1, vi e), (0, vr (some 69))]) (tw_s (tw_e 0 rfl (by omega)) (tw_s (tw_g 1 rfl) (tw_s (tw_g 2 rfl) (tw_s (tw_g 7 rfl) (tw_s (tw_g 8 rfl) tw_s0))))) ?_; rw [show rTryN s e (k + 1) j b m = rTryN s e k (j + 1) b m by rw [rTryN, if_neg (by omega)]]; exact ih (j + 1) _ _ (by omega) (by omega) (by omega))
          · refine ar_iload (k := 55) rfl rfl ?_
            refine ar_iloadn (k := 56) rfl rfl ?_
            refine ar_icmp_ge (k := 57) rfl (by omega) (by omega) (fun c57 => ?_) (fun c57 => ?_)
            · refine ar_iconst (k := 60) rfl ?_
              refine ar_istore (k := 61) (l2 := [(8, _), (7, _), (6, _), (5, _), (4, _), (3, _), (2, _), (1, _), (0, _)]) rfl (by decide) rfl ?_
              refine ar_iload (k := 62) rfl rfl ?_
              refine ar_if_eq (k := 63) rfl (by omega) (fun c63 => ?_) (fun c63 => ?_)
              · refine ar_iloadn (k := 66) rfl rfl ?_
                refine ar_istoren (k := 67) (l2 := [(2, _), (8, _), (7, _), (6, _), (5, _), (4, _), (3, _), (1, _), (0, _)]) rfl (by decide) rfl ?_
                refine ar_iload (k := 68) rfl rfl ?_
                refine ar_if_eq (k := 69) rfl (by omega) (fun c69 => ?_) (fun c69 => ?_)
                · refine ar_iloadn (k := 72) rfl rfl ?_
                  refine ar_istoren (k := 73) (l2 := [(3, _), (2, _), (8, _), (7, _), (6, _), (5, _), (4, _), (1, _), (0, _)]) rfl (by decide) rfl ?_
                  first
                    | (exfalso; omega)
                    | (refine ar_iinc (k := 74) (l2 := [(4, _), (3, _), (2, _), (8, _), (7, _), (6, _), (5, _), (1, _), (0, _)]) rfl (by decide) rfl rfl ?_; refine ar_goto (k := 75) rfl ?_; refine ar_sub (l2 := [(4, vi ((j + 1 : Nat) : Int)), (3, vi (max (bAnd (bShr e (j : Int)) 1 + bAnd (bShr e (s (94 + (j : Int)))) 1) (rCnt e - (bAnd (bShr e (j : Int)) 1 + bAnd (bShr e (s (94 + (j : Int)))) 1)))), (2, vi ((j : Int))), (1, vi e), (0, vr (some 69))]) (tw_s (tw_e 0 rfl (by omega)) (tw_s (tw_e 1 rfl (by omega)) (tw_s (tw_g 2 rfl) (tw_s (tw_g 7 rfl) (tw_s (tw_g 8 rfl) tw_s0))))) ?_; rw [show rTryN s e (k + 1) j b m = rTryN s e k (j + 1) j (max (bAnd (bShr e (j : Int)) 1 + bAnd (bShr e (s (94 + (j : Int)))) 1) (rCnt e - (bAnd (bShr e (j : Int)) 1 + bAnd (bShr e (s (94 + (j : Int)))) 1))) by rw [rTryN, if_pos (by omega)]]; exact ih (j + 1) _ _ (by omega) (by omega) (by omega))
                    | (refine ar_iinc (k := 74) (l2 := [(4, _), (3, _), (2, _), (8, _), (7, _), (6, _), (5, _), (1, _), (0, _)]) rfl (by decide) rfl rfl ?_; refine ar_goto (k := 75) rfl ?_; refine ar_sub (l2 := [(4, vi ((j + 1 : Nat) : Int)), (3, vi (m)), (2, vi (b)), (1, vi e), (0, vr (some 69))]) (tw_s (tw_e 0 rfl (by omega)) (tw_s (tw_g 1 rfl) (tw_s (tw_g 2 rfl) (tw_s (tw_g 7 rfl) (tw_s (tw_g 8 rfl) tw_s0))))) ?_; rw [show rTryN s e (k + 1) j b m = rTryN s e k (j + 1) b m by rw [rTryN, if_neg (by omega)]]; exact ih (j + 1) _ _ (by omega) (by omega) (by omega))
                · refine ar_iload (k := 70) rfl rfl ?_
                  refine ar_goto (k := 71) rfl ?_
                  refine ar_istoren (k := 73) (l2 := [(3, _), (2, _), (8, _), (7, _), (6, _), (5, _), (4, _), (1, _), (0, _)]) rfl (by decide) rfl ?_
                  first
                    | (exfalso; omega)
                    | (refine ar_iinc (k := 74) (l2 := [(4, _), (3, _), (2, _), (8, _), (7, _), (6, _), (5, _), (1, _), (0, _)]) rfl (by decide) rfl rfl ?_; refine ar_goto (k := 75) rfl ?_; refine ar_sub (l2 := [(4, vi ((j + 1 : Nat) : Int)), (3, vi (max (bAnd (bShr e (j : Int)) 1 + bAnd (bShr e (s (94 + (j : Int)))) 1) (rCnt e - (bAnd (bShr e (j : Int)) 1 + bAnd (bShr e (s (94 + (j : Int)))) 1)))), (2, vi ((j : Int))), (1, vi e), (0, vr (some 69))]) (tw_s (tw_e 0 rfl (by omega)) (tw_s (tw_e 1 rfl (by omega)) (tw_s (tw_g 2 rfl) (tw_s (tw_g 7 rfl) (tw_s (tw_g 8 rfl) tw_s0))))) ?_; rw [show rTryN s e (k + 1) j b m = rTryN s e k (j + 1) j (max (bAnd (bShr e (j : Int)) 1 + bAnd (bShr e (s (94 + (j : Int)))) 1) (rCnt e - (bAnd (bShr e (j : Int)) 1 + bAnd (bShr e (s (94 + (j : Int)))) 1))) by rw [rTryN, if_pos (by omega)]]; exact ih (j + 1) _ _ (by omega) (by omega) (by omega))
                    | (refine ar_iinc (k := 74) (l2 := [(4, _), (3, _), (2, _), (8, _), (7, _), (6, _), (5, _), (1, _), (0, _)]) rfl (by decide) rfl rfl ?_; refine ar_goto (k := 75) rfl ?_; refine ar_sub (l2 := [(4, vi ((j + 1 : Nat) : Int)), (3, vi (m)), (2, vi (b)), (1, vi e), (0, vr (some 69))]) (tw_s (tw_e 0 rfl (by omega)) (tw_s (tw_g 1 rfl) (tw_s (tw_g 2 rfl) (tw_s (tw_g 7 rfl) (tw_s (tw_g 8 rfl) tw_s0))))) ?_; rw [show rTryN s e (k + 1) j b m = rTryN s e k (j + 1) b m by rw [rTryN, if_neg (by omega)]]; exact ih (j + 1) _ _ (by omega) (by omega) (by omega))
              · refine ar_iload (k := 64) rfl rfl ?_
                refine ar_goto (k := 65) rfl ?_
                refine ar_istoren (k := 67) (l2 := [(2, _), (8, _), (7, _), (6, _), (5, _), (4, _), (3, _), (1, _), (0, _)]) rfl (by decide) rfl ?_
                refine ar_iload (k := 68) rfl rfl ?_
                refine ar_if_eq (k := 69) rfl (by omega) (fun c69 => ?_) (fun c69 => ?_)
                · refine ar_iloadn (k := 72) rfl rfl ?_
                  refine ar_istoren (k := 73) (l2 := [(3, _), (2, _), (8, _), (7, _), (6, _), (5, _), (4, _), (1, _), (0, _)]) rfl (by decide) rfl ?_
                  first
                    | (exfalso; omega)
                    | (refine ar_iinc (k := 74) (l2 := [(4, _), (3, _), (2, _), (8, _), (7, _), (6, _), (5, _), (1, _), (0, _)]) rfl (by decide) rfl rfl ?_; refine ar_goto (k := 75) rfl ?_; refine ar_sub (l2 := [(4, vi ((j + 1 : Nat) : Int)), (3, vi (max (bAnd (bShr e (j : Int)) 1 + bAnd (bShr e (s (94 + (j : Int)))) 1) (rCnt e - (bAnd (bShr e (j : Int)) 1 + bAnd (bShr e (s (94 + (j : Int)))) 1)))), (2, vi ((j : Int))), (1, vi e), (0, vr (some 69))]) (tw_s (tw_e 0 rfl (by omega)) (tw_s (tw_e 1 rfl (by omega)) (tw_s (tw_g 2 rfl) (tw_s (tw_g 7 rfl) (tw_s (tw_g 8 rfl) tw_s0))))) ?_; rw [show rTryN s e (k + 1) j b m = rTryN s e k (j + 1) j (max (bAnd (bShr e (j : Int)) 1 + bAnd (bShr e (s (94 + (j : Int)))) 1) (rCnt e - (bAnd (bShr e (j : Int)) 1 + bAnd (bShr e (s (94 + (j : Int)))) 1))) by rw [rTryN, if_pos (by omega)]]; exact ih (j + 1) _ _ (by omega) (by omega) (by omega))
                    | (refine ar_iinc (k := 74) (l2 := [(4, _), (3, _), (2, _), (8, _), (7, _), (6, _), (5, _), (1, _), (0, _)]) rfl (by decide) rfl rfl ?_; refine ar_goto (k := 75) rfl ?_; refine ar_sub (l2 := [(4, vi ((j + 1 : Nat) : Int)), (3, vi (m)), (2, vi (b)), (1, vi e), (0, vr (some 69))]) (tw_s (tw_e 0 rfl (by omega)) (tw_s (tw_g 1 rfl) (tw_s (tw_g 2 rfl) (tw_s (tw_g 7 rfl) (tw_s (tw_g 8 rfl) tw_s0))))) ?_; rw [show rTryN s e (k + 1) j b m = rTryN s e k (j + 1) b m by rw [rTryN, if_neg (by omega)]]; exact ih (j + 1) _ _ (by omega) (by omega) (by omega))
                · refine ar_iload (k := 70) rfl rfl ?_
                  refine ar_goto (k := 71) rfl ?_
                  refine ar_istoren (k := 73) (l2 := [(3, _), (2, _), (8, _), (7, _), (6, _), (5, _), (4, _), (1, _), (0, _)]) rfl (by decide) rfl ?_
                  first
                    | (exfalso; omega)
                    | (refine ar_iinc (k := 74) (l2 := [(4, _), (3, _), (2, _), (8, _), (7, _), (6, _), (5, _), (1, _), (0, _)]) rfl (by decide) rfl rfl ?_; refine ar_goto (k := 75) rfl ?_; refine ar_sub (l2 := [(4, vi ((j + 1 : Nat) : Int)), (3, vi (max (bAnd (bShr e (j : Int)) 1 + bAnd (bShr e (s (94 + (j : Int)))) 1) (rCnt e - (bAnd (bShr e (j : Int)) 1 + bAnd (bShr e (s (94 + (j : Int)))) 1)))), (2, vi ((j : Int))), (1, vi e), (0, vr (some 69))]) (tw_s (tw_e 0 rfl (by omega)) (tw_s (tw_e 1 rfl (by omega)) (tw_s (tw_g 2 rfl) (tw_s (tw_g 7 rfl) (tw_s (tw_g 8 rfl) tw_s0))))) ?_; rw [show rTryN s e (k + 1) j b m = rTryN s e k (j + 1) j (max (bAnd (bShr e (j : Int)) 1 + bAnd (bShr e (s (94 + (j : Int)))) 1) (rCnt e - (bAnd (bShr e (j : Int)) 1 + bAnd (bShr e (s (94 + (j : Int)))) 1))) by rw [rTryN, if_pos (by omega)]]; exact ih (j + 1) _ _ (by omega) (by omega) (by omega))
                    | (refine ar_iinc (k := 74) (l2 := [(4, _), (3, _), (2, _), (8, _), (7, _), (6, _), (5, _), (1, _), (0, _)]) rfl (by decide) rfl rfl ?_; refine ar_goto (k := 75) rfl ?_; refine ar_sub (l2 := [(4, vi ((j + 1 : Nat) : Int)), (3, vi (m)), (2, vi (b)), (1, vi e), (0, vr (some 69))]) (tw_s (tw_e 0 rfl (by omega)) (tw_s (tw_g 1 rfl) (tw_s (tw_g 2 rfl) (tw_s (tw_g 7 rfl) (tw_s (tw_g 8 rfl) tw_s0))))) ?_; rw [show rTryN s e (k + 1) j b m = rTryN s e k (j + 1) b m by rw [rTryN, if_neg (by omega)]]; exact ih (j + 1) _ _ (by omega) (by omega) (by omega))
            · refine ar_iconst (k := 58) rfl ?_
              refine ar_goto (k := 59) rfl ?_
              refine ar_istore (k := 61) (l2 := [(8, _), (7, _), (6, _), (5, _), (4, _), (3, _), (2, _), (1, _), (0, _)]) rfl (by decide) rfl ?_
              refine ar_iload (k := 62) rfl rfl ?_
              refine ar_if_eq (k := 63) rfl (by omega) (fun c63 => ?_) (fun c63 => ?_)
              · refine ar_iloadn (k := 66) rfl rfl ?_
                refine ar_istoren (k := 67) (l2 := [(2, _), (8, _), (7, _), (6, _), (5, _), (4, _), (3, _), (1, _), (0, _)]) rfl (by decide) rfl ?_
                refine ar_iload (k := 68) rfl rfl ?_
                refine ar_if_eq (k := 69) rfl (by omega) (fun c69 => ?_) (fun c69 => ?_)
                · refine ar_iloadn (k := 72) rfl rfl ?_
                  refine ar_istoren (k := 73) (l2 := [(3, _), (2, _), (8, _), (7, _), (6, _), (5, _), (4, _), (1, _), (0, _)]) rfl (by decide) rfl ?_
                  first
                    | (exfalso; omega)
                    | (refine ar_iinc (k := 74) (l2 := [(4, _), (3, _), (2, _), (8, _), (7, _), (6, _), (5, _), (1, _), (0, _)]) rfl (by decide) rfl rfl ?_; refine ar_goto (k := 75) rfl ?_; refine ar_sub (l2 := [(4, vi ((j + 1 : Nat) : Int)), (3, vi (max (bAnd (bShr e (j : Int)) 1 + bAnd (bShr e (s (94 + (j : Int)))) 1) (rCnt e - (bAnd (bShr e (j : Int)) 1 + bAnd (bShr e (s (94 + (j : Int)))) 1)))), (2, vi ((j : Int))), (1, vi e), (0, vr (some 69))]) (tw_s (tw_e 0 rfl (by omega)) (tw_s (tw_e 1 rfl (by omega)) (tw_s (tw_g 2 rfl) (tw_s (tw_g 7 rfl) (tw_s (tw_g 8 rfl) tw_s0))))) ?_; rw [show rTryN s e (k + 1) j b m = rTryN s e k (j + 1) j (max (bAnd (bShr e (j : Int)) 1 + bAnd (bShr e (s (94 + (j : Int)))) 1) (rCnt e - (bAnd (bShr e (j : Int)) 1 + bAnd (bShr e (s (94 + (j : Int)))) 1))) by rw [rTryN, if_pos (by omega)]]; exact ih (j + 1) _ _ (by omega) (by omega) (by omega))
                    | (refine ar_iinc (k := 74) (l2 := [(4, _), (3, _), (2, _), (8, _), (7, _), (6, _), (5, _), (1, _), (0, _)]) rfl (by decide) rfl rfl ?_; refine ar_goto (k := 75) rfl ?_; refine ar_sub (l2 := [(4, vi ((j + 1 : Nat) : Int)), (3, vi (m)), (2, vi (b)), (1, vi e), (0, vr (some 69))]) (tw_s (tw_e 0 rfl (by omega)) (tw_s (tw_g 1 rfl) (tw_s (tw_g 2 rfl) (tw_s (tw_g 7 rfl) (tw_s (tw_g 8 rfl) tw_s0))))) ?_; rw [show rTryN s e (k + 1) j b m = rTryN s e k (j + 1) b m by rw [rTryN, if_neg (by omega)]]; exact ih (j + 1) _ _ (by omega) (by omega) (by omega))
                · refine ar_iload (k := 70) rfl rfl ?_
                  refine ar_goto (k := 71) rfl ?_
                  refine ar_istoren (k := 73) (l2 := [(3, _), (2, _), (8, _), (7, _), (6, _), (5, _), (4, _), (1, _), (0, _)]) rfl (by decide) rfl ?_
                  first
                    | (exfalso; omega)
                    | (refine ar_iinc (k := 74) (l2 := [(4, _), (3, _), (2, _), (8, _), (7, _), (6, _), (5, _), (1, _), (0, _)]) rfl (by decide) rfl rfl ?_; refine ar_goto (k := 75) rfl ?_; refine ar_sub (l2 := [(4, vi ((j + 1 : Nat) : Int)), (3, vi (max (bAnd (bShr e (j : Int)) 1 + bAnd (bShr e (s (94 + (j : Int)))) 1) (rCnt e - (bAnd (bShr e (j : Int)) 1 + bAnd (bShr e (s (94 + (j : Int)))) 1)))), (2, vi ((j : Int))), (1, vi e), (0, vr (some 69))]) (tw_s (tw_e 0 rfl (by omega)) (tw_s (tw_e 1 rfl (by omega)) (tw_s (tw_g 2 rfl) (tw_s (tw_g 7 rfl) (tw_s (tw_g 8 rfl) tw_s0))))) ?_; rw [show rTryN s e (k + 1) j b m = rTryN s e k (j + 1) j (max (bAnd (bShr e (j : Int)) 1 + bAnd (bShr e (s (94 + (j : Int)))) 1) (rCnt e - (bAnd (bShr e (j : Int)) 1 + bAnd (bShr e (s (94 + (j : Int)))) 1))) by rw [rTryN, if_pos (by omega)]]; exact ih (j + 1) _ _ (by omega) (by omega) (by omega))
                    | (refine ar_iinc (k := 74) (l2 := [(4, _), (3, _), (2, _), (8, _), (7, _), (6, _), (5, _), (1, _), (0, _)]) rfl (by decide) rfl rfl ?_; refine ar_goto (k := 75) rfl ?_; refine ar_sub (l2 := [(4, vi ((j + 1 : Nat) : Int)), (3, vi (m)), (2, vi (b)), (1, vi e), (0, vr (some 69))]) (tw_s (tw_e 0 rfl (by omega)) (tw_s (tw_g 1 rfl) (tw_s (tw_g 2 rfl) (tw_s (tw_g 7 rfl) (tw_s (tw_g 8 rfl) tw_s0))))) ?_; rw [show rTryN s e (k + 1) j b m = rTryN s e k (j + 1) b m by rw [rTryN, if_neg (by omega)]]; exact ih (j + 1) _ _ (by omega) (by omega) (by omega))
              · refine ar_iload (k := 64) rfl rfl ?_
                refine ar_goto (k := 65) rfl ?_
                refine ar_istoren (k := 67) (l2 := [(2, _), (8, _), (7, _), (6, _), (5, _), (4, _), (3, _), (1, _), (0, _)]) rfl (by decide) rfl ?_
                refine ar_iload (k := 68) rfl rfl ?_
                refine ar_if_eq (k := 69) rfl (by omega) (fun c69 => ?_) (fun c69 => ?_)
                · refine ar_iloadn (k := 72) rfl rfl ?_
                  refine ar_istoren (k := 73) (l2 := [(3, _), (2, _), (8, _), (7, _), (6, _), (5, _), (4, _), (1, _), (0, _)]) rfl (by decide) rfl ?_
                  first
                    | (exfalso; omega)
                    | (refine ar_iinc (k := 74) (l2 := [(4, _), (3, _), (2, _), (8, _), (7, _), (6, _), (5, _), (1, _), (0, _)]) rfl (by decide) rfl rfl ?_; refine ar_goto (k := 75) rfl ?_; refine ar_sub (l2 := [(4, vi ((j + 1 : Nat) : Int)), (3, vi (max (bAnd (bShr e (j : Int)) 1 + bAnd (bShr e (s (94 + (j : Int)))) 1) (rCnt e - (bAnd (bShr e (j : Int)) 1 + bAnd (bShr e (s (94 + (j : Int)))) 1)))), (2, vi ((j : Int))), (1, vi e), (0, vr (some 69))]) (tw_s (tw_e 0 rfl (by omega)) (tw_s (tw_e 1 rfl (by omega)) (tw_s (tw_g 2 rfl) (tw_s (tw_g 7 rfl) (tw_s (tw_g 8 rfl) tw_s0))))) ?_; rw [show rTryN s e (k + 1) j b m = rTryN s e k (j + 1) j (max (bAnd (bShr e (j : Int)) 1 + bAnd (bShr e (s (94 + (j : Int)))) 1) (rCnt e - (bAnd (bShr e (j : Int)) 1 + bAnd (bShr e (s (94 + (j : Int)))) 1))) by rw [rTryN, if_pos (by omega)]]; exact ih (j + 1) _ _ (by omega) (by omega) (by omega))
                    | (refine ar_iinc (k := 74) (l2 := [(4, _), (3, _), (2, _), (8, _), (7, _), (6, _), (5, _), (1, _), (0, _)]) rfl (by decide) rfl rfl ?_; refine ar_goto (k := 75) rfl ?_; refine ar_sub (l2 := [(4, vi ((j + 1 : Nat) : Int)), (3, vi (m)), (2, vi (b)), (1, vi e), (0, vr (some 69))]) (tw_s (tw_e 0 rfl (by omega)) (tw_s (tw_g 1 rfl) (tw_s (tw_g 2 rfl) (tw_s (tw_g 7 rfl) (tw_s (tw_g 8 rfl) tw_s0))))) ?_; rw [show rTryN s e (k + 1) j b m = rTryN s e k (j + 1) b m by rw [rTryN, if_neg (by omega)]]; exact ih (j + 1) _ _ (by omega) (by omega) (by omega))
                · refine ar_iload (k := 70) rfl rfl ?_
                  refine ar_goto (k := 71) rfl ?_
                  refine ar_istoren (k := 73) (l2 := [(3, _), (2, _), (8, _), (7, _), (6, _), (5, _), (4, _), (1, _), (0, _)]) rfl (by decide) rfl ?_
                  first
                    | (exfalso; omega)
                    | (refine ar_iinc (k := 74) (l2 := [(4, _), (3, _), (2, _), (8, _), (7, _), (6, _), (5, _), (1, _), (0, _)]) rfl (by decide) rfl rfl ?_; refine ar_goto (k := 75) rfl ?_; refine ar_sub (l2 := [(4, vi ((j + 1 : Nat) : Int)), (3, vi (max (bAnd (bShr e (j : Int)) 1 + bAnd (bShr e (s (94 + (j : Int)))) 1) (rCnt e - (bAnd (bShr e (j : Int)) 1 + bAnd (bShr e (s (94 + (j : Int)))) 1)))), (2, vi ((j : Int))), (1, vi e), (0, vr (some 69))]) (tw_s (tw_e 0 rfl (by omega)) (tw_s (tw_e 1 rfl (by omega)) (tw_s (tw_g 2 rfl) (tw_s (tw_g 7 rfl) (tw_s (tw_g 8 rfl) tw_s0))))) ?_; rw [show rTryN s e (k + 1) j b m = rTryN s e k (j + 1) j (max (bAnd (bShr e (j : Int)) 1 + bAnd (bShr e (s (94 + (j : Int)))) 1) (rCnt e - (bAnd (bShr e (j : Int)) 1 + bAnd (bShr e (s (94 + (j : Int)))) 1))) by rw [rTryN, if_pos (by omega)]]; exact ih (j + 1) _ _ (by omega) (by omega) (by omega))
                    | (refine ar_iinc (k := 74) (l2 := [(4, _), (3, _), (2, _), (8, _), (7, _), (6, _), (5, _), (1, _), (0, _)]) rfl (by decide) rfl rfl ?_; refine ar_goto (k := 75) rfl ?_; refine ar_sub (l2 := [(4, vi ((j + 1 : Nat) : Int)), (3, vi (m)), (2, vi (b)), (1, vi e), (0, vr (some 69))]) (tw_s (tw_e 0 rfl (by omega)) (tw_s (tw_g 1 rfl) (tw_s (tw_g 2 rfl) (tw_s (tw_g 7 rfl) (tw_s (tw_g 8 rfl) tw_s0))))) ?_; rw [show rTryN s e (k + 1) j b m = rTryN s e k (j + 1) b m by rw [rTryN, if_neg (by omega)]]; exact ih (j + 1) _ _ (by omega) (by omega) (by omega))
        · refine ar_iload (k := 48) rfl rfl ?_
          refine ar_goto (k := 49) rfl ?_
          refine ar_istore (k := 51) (l2 := [(7, _), (6, _), (5, _), (4, _), (3, _), (2, _), (1, _), (0, _)]) rfl (by decide) rfl ?_
          refine ar_iloadn (k := 52) rfl rfl ?_
          refine ar_bipush (k := 53) rfl (by decide) ?_
          refine ar_icmp_eq (k := 54) rfl (by omega) (by omega) (fun c54 => ?_) (fun c54 => ?_)
          · refine ar_iconst (k := 58) rfl ?_
            refine ar_goto (k := 59) rfl ?_
            refine ar_istore (k := 61) (l2 := [(8, _), (7, _), (6, _), (5, _), (4, _), (3, _), (2, _), (1, _), (0, _)]) rfl (by decide) rfl ?_
            refine ar_iload (k := 62) rfl rfl ?_
            refine ar_if_eq (k := 63) rfl (by omega) (fun c63 => ?_) (fun c63 => ?_)
            · refine ar_iloadn (k := 66) rfl rfl ?_
              refine ar_istoren (k := 67) (l2 := [(2, _), (8, _), (7, _), (6, _), (5, _), (4, _), (3, _), (1, _), (0, _)]) rfl (by decide) rfl ?_
              refine ar_iload (k := 68) rfl rfl ?_
              refine ar_if_eq (k := 69) rfl (by omega) (fun c69 => ?_) (fun c69 => ?_)
              · refine ar_iloadn (k := 72) rfl rfl ?_
                refine ar_istoren (k := 73) (l2 := [(3, _), (2, _), (8, _), (7, _), (6, _), (5, _), (4, _), (1, _), (0, _)]) rfl (by decide) rfl ?_
                first
                  | (exfalso; omega)
                  | (refine ar_iinc (k := 74) (l2 := [(4, _), (3, _), (2, _), (8, _), (7, _), (6, _), (5, _), (1, _), (0, _)]) rfl (by decide) rfl rfl ?_; refine ar_goto (k := 75) rfl ?_; refine ar_sub (l2 := [(4, vi ((j + 1 : Nat) : Int)), (3, vi (max (bAnd (bShr e (j : Int)) 1 + bAnd (bShr e (s (94 + (j : Int)))) 1) (rCnt e - (bAnd (bShr e (j : Int)) 1 + bAnd (bShr e (s (94 + (j : Int)))) 1)))), (2, vi ((j : Int))), (1, vi e), (0, vr (some 69))]) (tw_s (tw_e 0 rfl (by omega)) (tw_s (tw_e 1 rfl (by omega)) (tw_s (tw_g 2 rfl) (tw_s (tw_g 7 rfl) (tw_s (tw_g 8 rfl) tw_s0))))) ?_; rw [show rTryN s e (k + 1) j b m = rTryN s e k (j + 1) j (max (bAnd (bShr e (j : Int)) 1 + bAnd (bShr e (s (94 + (j : Int)))) 1) (rCnt e - (bAnd (bShr e (j : Int)) 1 + bAnd (bShr e (s (94 + (j : Int)))) 1))) by rw [rTryN, if_pos (by omega)]]; exact ih (j + 1) _ _ (by omega) (by omega) (by omega))
                  | (refine ar_iinc (k := 74) (l2 := [(4, _), (3, _), (2, _), (8, _), (7, _), (6, _), (5, _), (1, _), (0, _)]) rfl (by decide) rfl rfl ?_; refine ar_goto (k := 75) rfl ?_; refine ar_sub (l2 := [(4, vi ((j + 1 : Nat) : Int)), (3, vi (m)), (2, vi (b)), (1, vi e), (0, vr (some 69))]) (tw_s (tw_e 0 rfl (by omega)) (tw_s (tw_g 1 rfl) (tw_s (tw_g 2 rfl) (tw_s (tw_g 7 rfl) (tw_s (tw_g 8 rfl) tw_s0))))) ?_; rw [show rTryN s e (k + 1) j b m = rTryN s e k (j + 1) b m by rw [rTryN, if_neg (by omega)]]; exact ih (j + 1) _ _ (by omega) (by omega) (by omega))
              · refine ar_iload (k := 70) rfl rfl ?_
                refine ar_goto (k := 71) rfl ?_
                refine ar_istoren (k := 73) (l2 := [(3, _), (2, _), (8, _), (7, _), (6, _), (5, _), (4, _), (1, _), (0, _)]) rfl (by decide) rfl ?_
                first
                  | (exfalso; omega)
                  | (refine ar_iinc (k := 74) (l2 := [(4, _), (3, _), (2, _), (8, _), (7, _), (6, _), (5, _), (1, _), (0, _)]) rfl (by decide) rfl rfl ?_; refine ar_goto (k := 75) rfl ?_; refine ar_sub (l2 := [(4, vi ((j + 1 : Nat) : Int)), (3, vi (max (bAnd (bShr e (j : Int)) 1 + bAnd (bShr e (s (94 + (j : Int)))) 1) (rCnt e - (bAnd (bShr e (j : Int)) 1 + bAnd (bShr e (s (94 + (j : Int)))) 1)))), (2, vi ((j : Int))), (1, vi e), (0, vr (some 69))]) (tw_s (tw_e 0 rfl (by omega)) (tw_s (tw_e 1 rfl (by omega)) (tw_s (tw_g 2 rfl) (tw_s (tw_g 7 rfl) (tw_s (tw_g 8 rfl) tw_s0))))) ?_; rw [show rTryN s e (k + 1) j b m = rTryN s e k (j + 1) j (max (bAnd (bShr e (j : Int)) 1 + bAnd (bShr e (s (94 + (j : Int)))) 1) (rCnt e - (bAnd (bShr e (j : Int)) 1 + bAnd (bShr e (s (94 + (j : Int)))) 1))) by rw [rTryN, if_pos (by omega)]]; exact ih (j + 1) _ _ (by omega) (by omega) (by omega))
                  | (refine ar_iinc (k := 74) (l2 := [(4, _), (3, _), (2, _), (8, _), (7, _), (6, _), (5, _), (1, _), (0, _)]) rfl (by decide) rfl rfl ?_; refine ar_goto (k := 75) rfl ?_; refine ar_sub (l2 := [(4, vi ((j + 1 : Nat) : Int)), (3, vi (m)), (2, vi (b)), (1, vi e), (0, vr (some 69))]) (tw_s (tw_e 0 rfl (by omega)) (tw_s (tw_g 1 rfl) (tw_s (tw_g 2 rfl) (tw_s (tw_g 7 rfl) (tw_s (tw_g 8 rfl) tw_s0))))) ?_; rw [show rTryN s e (k + 1) j b m = rTryN s e k (j + 1) b m by rw [rTryN, if_neg (by omega)]]; exact ih (j + 1) _ _ (by omega) (by omega) (by omega))
            · refine ar_iload (k := 64) rfl rfl ?_
              refine ar_goto (k := 65) rfl ?_
              refine ar_istoren (k := 67) (l2 := [(2, _), (8, _), (7, _), (6, _), (5, _), (4, _), (3, _), (1, _), (0, _)]) rfl (by decide) rfl ?_
              refine ar_iload (k := 68) rfl rfl ?_
              refine ar_if_eq (k := 69) rfl (by omega) (fun c69 => ?_) (fun c69 => ?_)
              · refine ar_iloadn (k := 72) rfl rfl ?_
                refine ar_istoren (k := 73) (l2 := [(3, _), (2, _), (8, _), (7, _), (6, _), (5, _), (4, _), (1, _), (0, _)]) rfl (by decide) rfl ?_
                first
                  | (exfalso; omega)
                  | (refine ar_iinc (k := 74) (l2 := [(4, _), (3, _), (2, _), (8, _), (7, _), (6, _), (5, _), (1, _), (0, _)]) rfl (by decide) rfl rfl ?_; refine ar_goto (k := 75) rfl ?_; refine ar_sub (l2 := [(4, vi ((j + 1 : Nat) : Int)), (3, vi (max (bAnd (bShr e (j : Int)) 1 + bAnd (bShr e (s (94 + (j : Int)))) 1) (rCnt e - (bAnd (bShr e (j : Int)) 1 + bAnd (bShr e (s (94 + (j : Int)))) 1)))), (2, vi ((j : Int))), (1, vi e), (0, vr (some 69))]) (tw_s (tw_e 0 rfl (by omega)) (tw_s (tw_e 1 rfl (by omega)) (tw_s (tw_g 2 rfl) (tw_s (tw_g 7 rfl) (tw_s (tw_g 8 rfl) tw_s0))))) ?_; rw [show rTryN s e (k + 1) j b m = rTryN s e k (j + 1) j (max (bAnd (bShr e (j : Int)) 1 + bAnd (bShr e (s (94 + (j : Int)))) 1) (rCnt e - (bAnd (bShr e (j : Int)) 1 + bAnd (bShr e (s (94 + (j : Int)))) 1))) by rw [rTryN, if_pos (by omega)]]; exact ih (j + 1) _ _ (by omega) (by omega) (by omega))
                  | (refine ar_iinc (k := 74) (l2 := [(4, _), (3, _), (2, _), (8, _), (7, _), (6, _), (5, _), (1, _), (0, _)]) rfl (by decide) rfl rfl ?_; refine ar_goto (k := 75) rfl ?_; refine ar_sub (l2 := [(4, vi ((j + 1 : Nat) : Int)), (3, vi (m)), (2, vi (b)), (1, vi e), (0, vr (some 69))]) (tw_s (tw_e 0 rfl (by omega)) (tw_s (tw_g 1 rfl) (tw_s (tw_g 2 rfl) (tw_s (tw_g 7 rfl) (tw_s (tw_g 8 rfl) tw_s0))))) ?_; rw [show rTryN s e (k + 1) j b m = rTryN s e k (j + 1) b m by rw [rTryN, if_neg (by omega)]]; exact ih (j + 1) _ _ (by omega) (by omega) (by omega))
              · refine ar_iload (k := 70) rfl rfl ?_
                refine ar_goto (k := 71) rfl ?_
                refine ar_istoren (k := 73) (l2 := [(3, _), (2, _), (8, _), (7, _), (6, _), (5, _), (4, _), (1, _), (0, _)]) rfl (by decide) rfl ?_
                first
                  | (exfalso; omega)
                  | (refine ar_iinc (k := 74) (l2 := [(4, _), (3, _), (2, _), (8, _), (7, _), (6, _), (5, _), (1, _), (0, _)]) rfl (by decide) rfl rfl ?_; refine ar_goto (k := 75) rfl ?_; refine ar_sub (l2 := [(4, vi ((j + 1 : Nat) : Int)), (3, vi (max (bAnd (bShr e (j : Int)) 1 + bAnd (bShr e (s (94 + (j : Int)))) 1) (rCnt e - (bAnd (bShr e (j : Int)) 1 + bAnd (bShr e (s (94 + (j : Int)))) 1)))), (2, vi ((j : Int))), (1, vi e), (0, vr (some 69))]) (tw_s (tw_e 0 rfl (by omega)) (tw_s (tw_e 1 rfl (by omega)) (tw_s (tw_g 2 rfl) (tw_s (tw_g 7 rfl) (tw_s (tw_g 8 rfl) tw_s0))))) ?_; rw [show rTryN s e (k + 1) j b m = rTryN s e k (j + 1) j (max (bAnd (bShr e (j : Int)) 1 + bAnd (bShr e (s (94 + (j : Int)))) 1) (rCnt e - (bAnd (bShr e (j : Int)) 1 + bAnd (bShr e (s (94 + (j : Int)))) 1))) by rw [rTryN, if_pos (by omega)]]; exact ih (j + 1) _ _ (by omega) (by omega) (by omega))
                  | (refine ar_iinc (k := 74) (l2 := [(4, _), (3, _), (2, _), (8, _), (7, _), (6, _), (5, _), (1, _), (0, _)]) rfl (by decide) rfl rfl ?_; refine ar_goto (k := 75) rfl ?_; refine ar_sub (l2 := [(4, vi ((j + 1 : Nat) : Int)), (3, vi (m)), (2, vi (b)), (1, vi e), (0, vr (some 69))]) (tw_s (tw_e 0 rfl (by omega)) (tw_s (tw_g 1 rfl) (tw_s (tw_g 2 rfl) (tw_s (tw_g 7 rfl) (tw_s (tw_g 8 rfl) tw_s0))))) ?_; rw [show rTryN s e (k + 1) j b m = rTryN s e k (j + 1) b m by rw [rTryN, if_neg (by omega)]]; exact ih (j + 1) _ _ (by omega) (by omega) (by omega))
          · refine ar_iload (k := 55) rfl rfl ?_
            refine ar_iloadn (k := 56) rfl rfl ?_
            refine ar_icmp_ge (k := 57) rfl (by omega) (by omega) (fun c57 => ?_) (fun c57 => ?_)
            · refine ar_iconst (k := 60) rfl ?_
              refine ar_istore (k := 61) (l2 := [(8, _), (7, _), (6, _), (5, _), (4, _), (3, _), (2, _), (1, _), (0, _)]) rfl (by decide) rfl ?_
              refine ar_iload (k := 62) rfl rfl ?_
              refine ar_if_eq (k := 63) rfl (by omega) (fun c63 => ?_) (fun c63 => ?_)
              · refine ar_iloadn (k := 66) rfl rfl ?_
                refine ar_istoren (k := 67) (l2 := [(2, _), (8, _), (7, _), (6, _), (5, _), (4, _), (3, _), (1, _), (0, _)]) rfl (by decide) rfl ?_
                refine ar_iload (k := 68) rfl rfl ?_
                refine ar_if_eq (k := 69) rfl (by omega) (fun c69 => ?_) (fun c69 => ?_)
                · refine ar_iloadn (k := 72) rfl rfl ?_
                  refine ar_istoren (k := 73) (l2 := [(3, _), (2, _), (8, _), (7, _), (6, _), (5, _), (4, _), (1, _), (0, _)]) rfl (by decide) rfl ?_
                  first
                    | (exfalso; omega)
                    | (refine ar_iinc (k := 74) (l2 := [(4, _), (3, _), (2, _), (8, _), (7, _), (6, _), (5, _), (1, _), (0, _)]) rfl (by decide) rfl rfl ?_; refine ar_goto (k := 75) rfl ?_; refine ar_sub (l2 := [(4, vi ((j + 1 : Nat) : Int)), (3, vi (max (bAnd (bShr e (j : Int)) 1 + bAnd (bShr e (s (94 + (j : Int)))) 1) (rCnt e - (bAnd (bShr e (j : Int)) 1 + bAnd (bShr e (s (94 + (j : Int)))) 1)))), (2, vi ((j : Int))), (1, vi e), (0, vr (some 69))]) (tw_s (tw_e 0 rfl (by omega)) (tw_s (tw_e 1 rfl (by omega)) (tw_s (tw_g 2 rfl) (tw_s (tw_g 7 rfl) (tw_s (tw_g 8 rfl) tw_s0))))) ?_; rw [show rTryN s e (k + 1) j b m = rTryN s e k (j + 1) j (max (bAnd (bShr e (j : Int)) 1 + bAnd (bShr e (s (94 + (j : Int)))) 1) (rCnt e - (bAnd (bShr e (j : Int)) 1 + bAnd (bShr e (s (94 + (j : Int)))) 1))) by rw [rTryN, if_pos (by omega)]]; exact ih (j + 1) _ _ (by omega) (by omega) (by omega))
                    | (refine ar_iinc (k := 74) (l2 := [(4, _), (3, _), (2, _), (8, _), (7, _), (6, _), (5, _), (1, _), (0, _)]) rfl (by decide) rfl rfl ?_; refine ar_goto (k := 75) rfl ?_; refine ar_sub (l2 := [(4, vi ((j + 1 : Nat) : Int)), (3, vi (m)), (2, vi (b)), (1, vi e), (0, vr (some 69))]) (tw_s (tw_e 0 rfl (by omega)) (tw_s (tw_g 1 rfl) (tw_s (tw_g 2 rfl) (tw_s (tw_g 7 rfl) (tw_s (tw_g 8 rfl) tw_s0))))) ?_; rw [show rTryN s e (k + 1) j b m = rTryN s e k (j + 1) b m by rw [rTryN, if_neg (by omega)]]; exact ih (j + 1) _ _ (by omega) (by omega) (by omega))
                · refine ar_iload (k := 70) rfl rfl ?_
                  refine ar_goto (k := 71) rfl ?_
                  refine ar_istoren (k := 73) (l2 := [(3, _), (2, _), (8, _), (7, _), (6, _), (5, _), (4, _), (1, _), (0, _)]) rfl (by decide) rfl ?_
                  first
                    | (exfalso; omega)
                    | (refine ar_iinc (k := 74) (l2 := [(4, _), (3, _), (2, _), (8, _), (7, _), (6, _), (5, _), (1, _), (0, _)]) rfl (by decide) rfl rfl ?_; refine ar_goto (k := 75) rfl ?_; refine ar_sub (l2 := [(4, vi ((j + 1 : Nat) : Int)), (3, vi (max (bAnd (bShr e (j : Int)) 1 + bAnd (bShr e (s (94 + (j : Int)))) 1) (rCnt e - (bAnd (bShr e (j : Int)) 1 + bAnd (bShr e (s (94 + (j : Int)))) 1)))), (2, vi ((j : Int))), (1, vi e), (0, vr (some 69))]) (tw_s (tw_e 0 rfl (by omega)) (tw_s (tw_e 1 rfl (by omega)) (tw_s (tw_g 2 rfl) (tw_s (tw_g 7 rfl) (tw_s (tw_g 8 rfl) tw_s0))))) ?_; rw [show rTryN s e (k + 1) j b m = rTryN s e k (j + 1) j (max (bAnd (bShr e (j : Int)) 1 + bAnd (bShr e (s (94 + (j : Int)))) 1) (rCnt e - (bAnd (bShr e (j : Int)) 1 + bAnd (bShr e (s (94 + (j : Int)))) 1))) by rw [rTryN, if_pos (by omega)]]; exact ih (j + 1) _ _ (by omega) (by omega) (by omega))
                    | (refine ar_iinc (k := 74) (l2 := [(4, _), (3, _), (2, _), (8, _), (7, _), (6, _), (5, _), (1, _), (0, _)]) rfl (by decide) rfl rfl ?_; refine ar_goto (k := 75) rfl ?_; refine ar_sub (l2 := [(4, vi ((j + 1 : Nat) : Int)), (3, vi (m)), (2, vi (b)), (1, vi e), (0, vr (some 69))]) (tw_s (tw_e 0 rfl (by omega)) (tw_s (tw_g 1 rfl) (tw_s (tw_g 2 rfl) (tw_s (tw_g 7 rfl) (tw_s (tw_g 8 rfl) tw_s0))))) ?_; rw [show rTryN s e (k + 1) j b m = rTryN s e k (j + 1) b m by rw [rTryN, if_neg (by omega)]]; exact ih (j + 1) _ _ (by omega) (by omega) (by omega))
              · refine ar_iload (k := 64) rfl rfl ?_
                refine ar_goto (k := 65) rfl ?_
                refine ar_istoren (k := 67) (l2 := [(2, _), (8, _), (7, _), (6, _), (5, _), (4, _), (3, _), (1, _), (0, _)]) rfl (by decide) rfl ?_
                refine ar_iload (k := 68) rfl rfl ?_
                refine ar_if_eq (k := 69) rfl (by omega) (fun c69 => ?_) (fun c69 => ?_)
                · refine ar_iloadn (k := 72) rfl rfl ?_
                  refine ar_istoren (k := 73) (l2 := [(3, _), (2, _), (8, _), (7, _), (6, _), (5, _), (4, _), (1, _), (0, _)]) rfl (by decide) rfl ?_
                  first
                    | (exfalso; omega)
                    | (refine ar_iinc (k := 74) (l2 := [(4, _), (3, _), (2, _), (8, _), (7, _), (6, _), (5, _), (1, _), (0, _)]) rfl (by decide) rfl rfl ?_; refine ar_goto (k := 75) rfl ?_; refine ar_sub (l2 := [(4, vi ((j + 1 : Nat) : Int)), (3, vi (max (bAnd (bShr e (j : Int)) 1 + bAnd (bShr e (s (94 + (j : Int)))) 1) (rCnt e - (bAnd (bShr e (j : Int)) 1 + bAnd (bShr e (s (94 + (j : Int)))) 1)))), (2, vi ((j : Int))), (1, vi e), (0, vr (some 69))]) (tw_s (tw_e 0 rfl (by omega)) (tw_s (tw_e 1 rfl (by omega)) (tw_s (tw_g 2 rfl) (tw_s (tw_g 7 rfl) (tw_s (tw_g 8 rfl) tw_s0))))) ?_; rw [show rTryN s e (k + 1) j b m = rTryN s e k (j + 1) j (max (bAnd (bShr e (j : Int)) 1 + bAnd (bShr e (s (94 + (j : Int)))) 1) (rCnt e - (bAnd (bShr e (j : Int)) 1 + bAnd (bShr e (s (94 + (j : Int)))) 1))) by rw [rTryN, if_pos (by omega)]]; exact ih (j + 1) _ _ (by omega) (by omega) (by omega))
                    | (refine ar_iinc (k := 74) (l2 := [(4, _), (3, _), (2, _), (8, _), (7, _), (6, _), (5, _), (1, _), (0, _)]) rfl (by decide) rfl rfl ?_; refine ar_goto (k := 75) rfl ?_; refine ar_sub (l2 := [(4, vi ((j + 1 : Nat) : Int)), (3, vi (m)), (2, vi (b)), (1, vi e), (0, vr (some 69))]) (tw_s (tw_e 0 rfl (by omega)) (tw_s (tw_g 1 rfl) (tw_s (tw_g 2 rfl) (tw_s (tw_g 7 rfl) (tw_s (tw_g 8 rfl) tw_s0))))) ?_; rw [show rTryN s e (k + 1) j b m = rTryN s e k (j + 1) b m by rw [rTryN, if_neg (by omega)]]; exact ih (j + 1) _ _ (by omega) (by omega) (by omega))
                · refine ar_iload (k := 70) rfl rfl ?_
                  refine ar_goto (k := 71) rfl ?_
                  refine ar_istoren (k := 73) (l2 := [(3, _), (2, _), (8, _), (7, _), (6, _), (5, _), (4, _), (1, _), (0, _)]) rfl (by decide) rfl ?_
                  first
                    | (exfalso; omega)
                    | (refine ar_iinc (k := 74) (l2 := [(4, _), (3, _), (2, _), (8, _), (7, _), (6, _), (5, _), (1, _), (0, _)]) rfl (by decide) rfl rfl ?_; refine ar_goto (k := 75) rfl ?_; refine ar_sub (l2 := [(4, vi ((j + 1 : Nat) : Int)), (3, vi (max (bAnd (bShr e (j : Int)) 1 + bAnd (bShr e (s (94 + (j : Int)))) 1) (rCnt e - (bAnd (bShr e (j : Int)) 1 + bAnd (bShr e (s (94 + (j : Int)))) 1)))), (2, vi ((j : Int))), (1, vi e), (0, vr (some 69))]) (tw_s (tw_e 0 rfl (by omega)) (tw_s (tw_e 1 rfl (by omega)) (tw_s (tw_g 2 rfl) (tw_s (tw_g 7 rfl) (tw_s (tw_g 8 rfl) tw_s0))))) ?_; rw [show rTryN s e (k + 1) j b m = rTryN s e k (j + 1) j (max (bAnd (bShr e (j : Int)) 1 + bAnd (bShr e (s (94 + (j : Int)))) 1) (rCnt e - (bAnd (bShr e (j : Int)) 1 + bAnd (bShr e (s (94 + (j : Int)))) 1))) by rw [rTryN, if_pos (by omega)]]; exact ih (j + 1) _ _ (by omega) (by omega) (by omega))
                    | (refine ar_iinc (k := 74) (l2 := [(4, _), (3, _), (2, _), (8, _), (7, _), (6, _), (5, _), (1, _), (0, _)]) rfl (by decide) rfl rfl ?_; refine ar_goto (k := 75) rfl ?_; refine ar_sub (l2 := [(4, vi ((j + 1 : Nat) : Int)), (3, vi (m)), (2, vi (b)), (1, vi e), (0, vr (some 69))]) (tw_s (tw_e 0 rfl (by omega)) (tw_s (tw_g 1 rfl) (tw_s (tw_g 2 rfl) (tw_s (tw_g 7 rfl) (tw_s (tw_g 8 rfl) tw_s0))))) ?_; rw [show rTryN s e (k + 1) j b m = rTryN s e k (j + 1) b m by rw [rTryN, if_neg (by omega)]]; exact ih (j + 1) _ _ (by omega) (by omega) (by omega))
            · refine ar_iconst (k := 58) rfl ?_
              refine ar_goto (k := 59) rfl ?_
              refine ar_istore (k := 61) (l2 := [(8, _), (7, _), (6, _), (5, _), (4, _), (3, _), (2, _), (1, _), (0, _)]) rfl (by decide) rfl ?_
              refine ar_iload (k := 62) rfl rfl ?_
              refine ar_if_eq (k := 63) rfl (by omega) (fun c63 => ?_) (fun c63 => ?_)
              · refine ar_iloadn (k := 66) rfl rfl ?_
                refine ar_istoren (k := 67) (l2 := [(2, _), (8, _), (7, _), (6, _), (5, _), (4, _), (3, _), (1, _), (0, _)]) rfl (by decide) rfl ?_
                refine ar_iload (k := 68) rfl rfl ?_
                refine ar_if_eq (k := 69) rfl (by omega) (fun c69 => ?_) (fun c69 => ?_)
                · refine ar_iloadn (k := 72) rfl rfl ?_
                  refine ar_istoren (k := 73) (l2 := [(3, _), (2, _), (8, _), (7, _), (6, _), (5, _), (4, _), (1, _), (0, _)]) rfl (by decide) rfl ?_
                  first
                    | (exfalso; omega)
                    | (refine ar_iinc (k := 74) (l2 := [(4, _), (3, _), (2, _), (8, _), (7, _), (6, _), (5, _), (1, _), (0, _)]) rfl (by decide) rfl rfl ?_; refine ar_goto (k := 75) rfl ?_; refine ar_sub (l2 := [(4, vi ((j + 1 : Nat) : Int)), (3, vi (max (bAnd (bShr e (j : Int)) 1 + bAnd (bShr e (s (94 + (j : Int)))) 1) (rCnt e - (bAnd (bShr e (j : Int)) 1 + bAnd (bShr e (s (94 + (j : Int)))) 1)))), (2, vi ((j : Int))), (1, vi e), (0, vr (some 69))]) (tw_s (tw_e 0 rfl (by omega)) (tw_s (tw_e 1 rfl (by omega)) (tw_s (tw_g 2 rfl) (tw_s (tw_g 7 rfl) (tw_s (tw_g 8 rfl) tw_s0))))) ?_; rw [show rTryN s e (k + 1) j b m = rTryN s e k (j + 1) j (max (bAnd (bShr e (j : Int)) 1 + bAnd (bShr e (s (94 + (j : Int)))) 1) (rCnt e - (bAnd (bShr e (j : Int)) 1 + bAnd (bShr e (s (94 + (j : Int)))) 1))) by rw [rTryN, if_pos (by omega)]]; exact ih (j + 1) _ _ (by omega) (by omega) (by omega))
                    | (refine ar_iinc (k := 74) (l2 := [(4, _), (3, _), (2, _), (8, _), (7, _), (6, _), (5, _), (1, _), (0, _)]) rfl (by decide) rfl rfl ?_; refine ar_goto (k := 75) rfl ?_; refine ar_sub (l2 := [(4, vi ((j + 1 : Nat) : Int)), (3, vi (m)), (2, vi (b)), (1, vi e), (0, vr (some 69))]) (tw_s (tw_e 0 rfl (by omega)) (tw_s (tw_g 1 rfl) (tw_s (tw_g 2 rfl) (tw_s (tw_g 7 rfl) (tw_s (tw_g 8 rfl) tw_s0))))) ?_; rw [show rTryN s e (k + 1) j b m = rTryN s e k (j + 1) b m by rw [rTryN, if_neg (by omega)]]; exact ih (j + 1) _ _ (by omega) (by omega) (by omega))
                · refine ar_iload (k := 70) rfl rfl ?_
                  refine ar_goto (k := 71) rfl ?_
                  refine ar_istoren (k := 73) (l2 := [(3, _), (2, _), (8, _), (7, _), (6, _), (5, _), (4, _), (1, _), (0, _)]) rfl (by decide) rfl ?_
                  first
                    | (exfalso; omega)
                    | (refine ar_iinc (k := 74) (l2 := [(4, _), (3, _), (2, _), (8, _), (7, _), (6, _), (5, _), (1, _), (0, _)]) rfl (by decide) rfl rfl ?_; refine ar_goto (k := 75) rfl ?_; refine ar_sub (l2 := [(4, vi ((j + 1 : Nat) : Int)), (3, vi (max (bAnd (bShr e (j : Int)) 1 + bAnd (bShr e (s (94 + (j : Int)))) 1) (rCnt e - (bAnd (bShr e (j : Int)) 1 + bAnd (bShr e (s (94 + (j : Int)))) 1)))), (2, vi ((j : Int))), (1, vi e), (0, vr (some 69))]) (tw_s (tw_e 0 rfl (by omega)) (tw_s (tw_e 1 rfl (by omega)) (tw_s (tw_g 2 rfl) (tw_s (tw_g 7 rfl) (tw_s (tw_g 8 rfl) tw_s0))))) ?_; rw [show rTryN s e (k + 1) j b m = rTryN s e k (j + 1) j (max (bAnd (bShr e (j : Int)) 1 + bAnd (bShr e (s (94 + (j : Int)))) 1) (rCnt e - (bAnd (bShr e (j : Int)) 1 + bAnd (bShr e (s (94 + (j : Int)))) 1))) by rw [rTryN, if_pos (by omega)]]; exact ih (j + 1) _ _ (by omega) (by omega) (by omega))
                    | (refine ar_iinc (k := 74) (l2 := [(4, _), (3, _), (2, _), (8, _), (7, _), (6, _), (5, _), (1, _), (0, _)]) rfl (by decide) rfl rfl ?_; refine ar_goto (k := 75) rfl ?_; refine ar_sub (l2 := [(4, vi ((j + 1 : Nat) : Int)), (3, vi (m)), (2, vi (b)), (1, vi e), (0, vr (some 69))]) (tw_s (tw_e 0 rfl (by omega)) (tw_s (tw_g 1 rfl) (tw_s (tw_g 2 rfl) (tw_s (tw_g 7 rfl) (tw_s (tw_g 8 rfl) tw_s0))))) ?_; rw [show rTryN s e (k + 1) j b m = rTryN s e k (j + 1) b m by rw [rTryN, if_neg (by omega)]]; exact ih (j + 1) _ _ (by omega) (by omega) (by omega))
              · refine ar_iload (k := 64) rfl rfl ?_
                refine ar_goto (k := 65) rfl ?_
                refine ar_istoren (k := 67) (l2 := [(2, _), (8, _), (7, _), (6, _), (5, _), (4, _), (3, _), (1, _), (0, _)]) rfl (by decide) rfl ?_
                refine ar_iload (k := 68) rfl rfl ?_
                refine ar_if_eq (k := 69) rfl (by omega) (fun c69 => ?_) (fun c69 => ?_)
                · refine ar_iloadn (k := 72) rfl rfl ?_
                  refine ar_istoren (k := 73) (l2 := [(3, _), (2, _), (8, _), (7, _), (6, _), (5, _), (4, _), (1, _), (0, _)]) rfl (by decide) rfl ?_
                  first
                    | (exfalso; omega)
                    | (refine ar_iinc (k := 74) (l2 := [(4, _), (3, _), (2, _), (8, _), (7, _), (6, _), (5, _), (1, _), (0, _)]) rfl (by decide) rfl rfl ?_; refine ar_goto (k := 75) rfl ?_; refine ar_sub (l2 := [(4, vi ((j + 1 : Nat) : Int)), (3, vi (max (bAnd (bShr e (j : Int)) 1 + bAnd (bShr e (s (94 + (j : Int)))) 1) (rCnt e - (bAnd (bShr e (j : Int)) 1 + bAnd (bShr e (s (94 + (j : Int)))) 1)))), (2, vi ((j : Int))), (1, vi e), (0, vr (some 69))]) (tw_s (tw_e 0 rfl (by omega)) (tw_s (tw_e 1 rfl (by omega)) (tw_s (tw_g 2 rfl) (tw_s (tw_g 7 rfl) (tw_s (tw_g 8 rfl) tw_s0))))) ?_; rw [show rTryN s e (k + 1) j b m = rTryN s e k (j + 1) j (max (bAnd (bShr e (j : Int)) 1 + bAnd (bShr e (s (94 + (j : Int)))) 1) (rCnt e - (bAnd (bShr e (j : Int)) 1 + bAnd (bShr e (s (94 + (j : Int)))) 1))) by rw [rTryN, if_pos (by omega)]]; exact ih (j + 1) _ _ (by omega) (by omega) (by omega))
                    | (refine ar_iinc (k := 74) (l2 := [(4, _), (3, _), (2, _), (8, _), (7, _), (6, _), (5, _), (1, _), (0, _)]) rfl (by decide) rfl rfl ?_; refine ar_goto (k := 75) rfl ?_; refine ar_sub (l2 := [(4, vi ((j + 1 : Nat) : Int)), (3, vi (m)), (2, vi (b)), (1, vi e), (0, vr (some 69))]) (tw_s (tw_e 0 rfl (by omega)) (tw_s (tw_g 1 rfl) (tw_s (tw_g 2 rfl) (tw_s (tw_g 7 rfl) (tw_s (tw_g 8 rfl) tw_s0))))) ?_; rw [show rTryN s e (k + 1) j b m = rTryN s e k (j + 1) b m by rw [rTryN, if_neg (by omega)]]; exact ih (j + 1) _ _ (by omega) (by omega) (by omega))
                · refine ar_iload (k := 70) rfl rfl ?_
                  refine ar_goto (k := 71) rfl ?_
                  refine ar_istoren (k := 73) (l2 := [(3, _), (2, _), (8, _), (7, _), (6, _), (5, _), (4, _), (1, _), (0, _)]) rfl (by decide) rfl ?_
                  first
                    | (exfalso; omega)
                    | (refine ar_iinc (k := 74) (l2 := [(4, _), (3, _), (2, _), (8, _), (7, _), (6, _), (5, _), (1, _), (0, _)]) rfl (by decide) rfl rfl ?_; refine ar_goto (k := 75) rfl ?_; refine ar_sub (l2 := [(4, vi ((j + 1 : Nat) : Int)), (3, vi (max (bAnd (bShr e (j : Int)) 1 + bAnd (bShr e (s (94 + (j : Int)))) 1) (rCnt e - (bAnd (bShr e (j : Int)) 1 + bAnd (bShr e (s (94 + (j : Int)))) 1)))), (2, vi ((j : Int))), (1, vi e), (0, vr (some 69))]) (tw_s (tw_e 0 rfl (by omega)) (tw_s (tw_e 1 rfl (by omega)) (tw_s (tw_g 2 rfl) (tw_s (tw_g 7 rfl) (tw_s (tw_g 8 rfl) tw_s0))))) ?_; rw [show rTryN s e (k + 1) j b m = rTryN s e k (j + 1) j (max (bAnd (bShr e (j : Int)) 1 + bAnd (bShr e (s (94 + (j : Int)))) 1) (rCnt e - (bAnd (bShr e (j : Int)) 1 + bAnd (bShr e (s (94 + (j : Int)))) 1))) by rw [rTryN, if_pos (by omega)]]; exact ih (j + 1) _ _ (by omega) (by omega) (by omega))
                    | (refine ar_iinc (k := 74) (l2 := [(4, _), (3, _), (2, _), (8, _), (7, _), (6, _), (5, _), (1, _), (0, _)]) rfl (by decide) rfl rfl ?_; refine ar_goto (k := 75) rfl ?_; refine ar_sub (l2 := [(4, vi ((j + 1 : Nat) : Int)), (3, vi (m)), (2, vi (b)), (1, vi e), (0, vr (some 69))]) (tw_s (tw_e 0 rfl (by omega)) (tw_s (tw_g 1 rfl) (tw_s (tw_g 2 rfl) (tw_s (tw_g 7 rfl) (tw_s (tw_g 8 rfl) tw_s0))))) ?_; rw [show rTryN s e (k + 1) j b m = rTryN s e k (j + 1) b m by rw [rTryN, if_neg (by omega)]]; exact ih (j + 1) _ _ (by omega) (by omega) (by omega))
theorem c_R_nextTry (hS : tSt (K, I, Q, n)) (hs : I 70 = s) (hR : RInv s) : tw_F l G 3 0 0 mR_nextTry [vr (some 69)] (K, I, Q, n) (some (vi (rTry s))) (K, I, Q, n) := by
  obtain ⟨h0, h1, h2, h3, h4, h5, h6, hp, hrw, ht, hr, hb, htp, hv⟩ := id hR
  refine tw_intro okR_nextTry (Nat.le_of_ble_eq_true rfl) ?_
  refine ar_aloadn (k := 0) rfl rfl ?_
  refine br_callV (k := 1) (as := []) rfl lvR_219 (hS.k (by decide)) rfl (c_R_brokenOnes hS hs hR) rfl (by decide) (by decide) tw_m0 (Nat.le_of_ble_eq_true rfl) ?_
  refine ar_istoren (k := 2) (l2 := [(1, _), (0, _)]) rfl (by decide) rfl ?_
  refine ar_bipush (k := 3) rfl (by decide) ?_
  refine ar_istoren (k := 4) (l2 := [(2, _), (1, _), (0, _)]) rfl (by decide) rfl ?_
  refine ar_iconst (k := 5) rfl ?_
  refine ar_istoren (k := 6) (l2 := [(3, _), (2, _), (1, _), (0, _)]) rfl (by decide) rfl ?_
  refine ar_iconst (k := 7) rfl ?_
  refine ar_istore (k := 8) (l2 := [(4, _), (3, _), (2, _), (1, _), (0, _)]) rfl (by decide) rfl ?_
  refine ar_sub (l2 := [(4, vi ((0 : Nat) : Int)), (3, vi 0), (2, vi (-5)), (1, vi (rBrk s)), (0, vr (some 69))]) (tw_s (tw_e 0 rfl (by rfl)) (tw_s (tw_g 1 rfl) (tw_s (tw_g 2 rfl) (tw_s (tw_g 3 rfl) (tw_s (tw_g 4 rfl) tw_s0))))) ?_
  exact l_R_nextTry hS hs hR _ 0 (-5) 0 (by omega) (Or.inl rfl) (by decide)
theorem c_R_find {w : Int} (hS : tSt (K, I, Q, n)) (hs : I 70 = s) (hR : RInv s) (tw : tr w) : tw_F l G 4 0 0 mR_find [vr (some 69), vi w] (K, I, Q, n) (some (vi (if w = 0 then rBrk s else if w = 1 then rTry s else -1))) (K, I, Q, n) := by
  obtain ⟨h0, h1, h2, h3, h4, h5, h6, hp, hrw, ht, hr, hb, htp, hv⟩ := id hR
  refine tw_intro okR_find (Nat.le_of_ble_eq_true rfl) ?_
  refine ar_iloadn (k := 0) rfl rfl ?_
  refine ar_if_ne (k := 1) rfl (by omega) (fun c1 => ?_) (fun c1 => ?_)
  · refine ar_iloadn (k := 5) rfl rfl ?_
    refine ar_iconst (k := 6) rfl ?_
    refine ar_icmp_ne (k := 7) rfl (by omega) (by omega) (fun c7 => ?_) (fun c7 => ?_)
    · refine ar_iconst (k := 11) rfl ?_
      refine ar_iret (k := 12) rfl rfl rfl (Nat.le_refl _) ?_
      exact ⟨congrArg (fun z => some (vi z)) (by omega), rfl⟩
    · refine ar_aloadn (k := 8) rfl rfl ?_
      refine br_callV (k := 9) (as := []) rfl lvR_222 (hS.k (by decide)) rfl (c_R_nextTry hS hs hR) rfl (by decide) (by decide) tw_m0 (Nat.le_of_ble_eq_true rfl) ?_
      refine ar_goto (k := 10) rfl ?_
      refine ar_iret (k := 12) rfl rfl rfl (Nat.le_refl _) ?_
      exact ⟨congrArg (fun z => some (vi z)) (by omega), rfl⟩
  · refine ar_aloadn (k := 2) rfl rfl ?_
    refine br_callV (k := 3) (as := []) rfl lvR_219 (hS.k (by decide)) rfl (c_R_brokenOnes hS hs hR) rfl (by decide) (by decide) tw_m0 (Nat.le_of_ble_eq_true rfl) ?_
    refine ar_goto (k := 4) rfl ?_
    refine ar_iret (k := 12) rfl rfl rfl (Nat.le_refl _) ?_
    exact ⟨congrArg (fun z => some (vi z)) (by omega), rfl⟩
theorem li_R_fits {t : Nat} {a w : Int} (hS : tSt (K, I, Q, n)) (hs : I 70 = s) (hR : RInv s) {P : Option tV → tH → Prop} {F : Int} (w1 : 0 ≤ w ∧ w < 10) (t1 : t < 10) (cont : ∀ (r : Int), tw_AW l G mR_fits 3 0 0 n 0 P 165 [(5, vi r), (4, vi F), (3, vi (t : Int)), (2, vi a), (0, vr (some 69)), (1, vi w)] [] (K, I, Q, n)) : ∀ (k r : Nat) (m : Int), r + k = (s 3).toNat → (m = 0 ∨ m = 1) → rFitN s w t k r m = F → tw_AW l G mR_fits 3 0 0 n 0 P 39 [(5, vi (r : Int)), (4, vi m), (3, vi (t : Int)), (2, vi a), (0, vr (some 69)), (1, vi w)] [] (K, I, Q, n) := by
  obtain ⟨h0, h1, h2, h3, h4, h5, h6, hp, hrw, ht, hr, hb, htp, hv⟩ := id hR
  intro k
  induction k with
  | zero =>
    intro r m hj hm hF
    refine ar_iload (k := 25) rfl rfl ?_
    refine ar_aloadn (k := 26) rfl rfl ?_
    refine br_getR (k := 27) rfl (hS.k (by decide)) flR_9_12 (by decide) rfl (hS.r rfl) ?_
    refine ar_iconst (k := 28) rfl ?_
    refine br_iads (k := 29) rfl (hS.k (by decide)) (by omega) (by omega) (by decide) hs ?_
    refine ar_icmp_ge (k := 30) rfl (by omega) (by omega) (fun c30 => ?_) (fun c30 => ?_)
    · rw [rFitN] at hF
      subst hF
      exact cont _
    · exfalso; omega
  | succ k ih =>
    intro r m hj hm hF
    have hw := hr r (by omega) (by omega)
    refine ar_iload (k := 25) rfl rfl ?_
    refine ar_aloadn (k := 26) rfl rfl ?_
    refine br_getR (k := 27) rfl (hS.k (by decide)) flR_9_12 (by decide) rfl (hS.r rfl) ?_
    refine ar_iconst (k := 28) rfl ?_
    refine br_iads (k := 29) rfl (hS.k (by decide)) (by omega) (by omega) (by decide) hs ?_
    refine ar_icmp_ge (k := 30) rfl (by omega) (by omega) (fun c30 => ?_) (fun c30 => ?_)
    · exfalso; omega
    · refine ar_aloadn (k := 31) rfl rfl ?_
      refine br_getR (k := 32) rfl (hS.k (by decide)) flR_9_12 (by decide) rfl (hS.r rfl) ?_
      refine ar_bipush (k := 33) rfl (by decide) ?_
      refine ar_iload (k := 34) rfl rfl ?_
      refine ar_iadd (k := 35) rfl ?_
      refine br_iads (k := 36) rfl (hS.k (by decide)) (by omega) (by omega) (by decide) hs ?_
      refine ar_iloadn (k := 37) rfl rfl ?_
      refine ar_icmp_ne (k := 38) rfl (by omega) (by omega) (fun c38 => ?_) (fun c38 => ?_)
      · refine ar_aloadn (k := 46) rfl rfl ?_
        refine br_getR (k := 47) rfl (hS.k (by decide)) flR_9_12 (by decide) rfl (hS.r rfl) ?_
        refine ar_bipush (k := 48) rfl (by decide) ?_
        refine ar_iload (k := 49) rfl rfl ?_
        refine ar_iadd (k := 50) rfl ?_
        refine br_iads (k := 51) rfl (hS.k (by decide)) (by omega) (by omega) (by decide) hs ?_
        refine ar_iloadn (k := 52) rfl rfl ?_
        refine ar_icmp_ne (k := 53) rfl (by omega) (by omega) (fun c53 => ?_) (fun c53 => ?_)
        · refine ar_iconst (k := 61) rfl ?_
          refine tw_top (y := rOth s w r) (by unfold rOth; omega) ?_
          have ho : -1 ≤ rOth s w r ∧ rOth s w r < 10 := by unfold rOth; omega
          refine ar_istore (k := 62) (l2 := [(6, _), (5, _), (4, _), (3, _), (2, _), (0, _), (1, _)]) rfl (by decide) rfl ?_
          refine ar_iload (k := 63) rfl rfl ?_
          refine ar_if_eq (k := 64) rfl (by omega) (fun c64 => ?_) (fun c64 => ?_)
          · refine ar_iconst (k := 88) rfl ?_
            refine tw_top (y := if m = 1 ∧ (rOth s w r = -1 ∨ (rOth s w r = t ↔ s (138 + (r : Int)) = 1)) then 1 else 0) (by omega) ?_
            refine ar_istore (k := 89) (l2 := [(4, _), (6, _), (5, _), (3, _), (2, _), (0, _), (1, _)]) rfl (by decide) rfl ?_
            refine ar_iinc (k := 90) (l2 := [(5, _), (4, _), (6, _), (3, _), (2, _), (0, _), (1, _)]) rfl (by decide) rfl rfl ?_
            refine ar_goto (k := 91) rfl ?_
            refine ar_sub (l2 := [(5, vi ((r + 1 : Nat) : Int)), (4, vi (if m = 1 ∧ (rOth s w r = -1 ∨ (rOth s w r = t ↔ s (138 + (r : Int)) = 1)) then 1 else 0)), (3, vi (t : Int)), (2, vi a), (0, vr (some 69)), (1, vi w)]) (tw_s (tw_e 0 rfl (by omega)) (tw_s (tw_g 1 rfl) (tw_s (tw_g 3 rfl) (tw_s (tw_g 4 rfl) (tw_s (tw_g 5 rfl) (tw_s (tw_g 6 rfl) tw_s0)))))) ?_
            exact ih (r + 1) _ (by omega) (by split <;> omega) hF
          · refine ar_iload (k := 65) rfl rfl ?_
            refine ar_iconst (k := 66) rfl ?_
            refine ar_icmp_eq (k := 67) rfl (by omega) (by omega) (fun c67 => ?_) (fun c67 => ?_)
            · refine ar_iconst (k := 86) rfl ?_
              refine ar_goto (k := 87) rfl ?_
              refine tw_top (y := if m = 1 ∧ (rOth s w r = -1 ∨ (rOth s w r = t ↔ s (138 + (r : Int)) = 1)) then 1 else 0) (by omega) ?_
              refine ar_istore (k := 89) (l2 := [(4, _), (6, _), (5, _), (3, _), (2, _), (0, _), (1, _)]) rfl (by decide) rfl ?_
              refine ar_iinc (k := 90) (l2 := [(5, _), (4, _), (6, _), (3, _), (2, _), (0, _), (1, _)]) rfl (by decide) rfl rfl ?_
              refine ar_goto (k := 91) rfl ?_
              refine ar_sub (l2 := [(5, vi ((r + 1 : Nat) : Int)), (4, vi (if m = 1 ∧ (rOth s w r = -1 ∨ (rOth s w r = t ↔ s (138 + (r : Int)) = 1)) then 1 else 0)), (3, vi (t : Int)), (2, vi a), (0, vr (some 69)), (1, vi w)]) (tw_s (tw_e 0 rfl (by omega)) (tw_s (tw_g 1 rfl) (tw_s (tw_g 3 rfl) (tw_s (tw_g 4 rfl) (tw_s (tw_g 5 rfl) (tw_s (tw_g 6 rfl) tw_s0)))))) ?_
              exact ih (r + 1) _ (by omega) (by split <;> omega) hF
            · refine ar_iload (k := 68) rfl rfl ?_
              refine ar_iloadn (k := 69) rfl rfl ?_
              refine ar_icmp_ne (k := 70) rfl (by omega) (by omega) (fun c70 => ?_) (fun c70 => ?_)
              · refine ar_iconst (k := 73) rfl ?_
                refine ar_aloadn (k := 74) rfl rfl ?_
                refine br_getR (k := 75) rfl (hS.k (by decide)) flR_9_12 (by decide) rfl (hS.r rfl) ?_
                refine ar_sipush (k := 76) rfl (by decide) ?_
                refine ar_iload (k := 77) rfl rfl ?_
                refine ar_iadd (k := 78) rfl ?_
                refine br_iads (k := 79) rfl (hS.k (by decide)) (by omega) (by omega) (by decide) hs ?_
                refine ar_iconst (k := 80) rfl ?_
                refine ar_icmp_ne (k := 81) rfl (by omega) (by omega) (fun c81 => ?_) (fun c81 => ?_)
                · refine ar_iconst (k := 84) rfl ?_
                  refine ar_icmp_ne (k := 85) rfl (by omega) (by omega) (fun c85 => ?_) (fun c85 => ?_)
                  · refine ar_iconst (k := 88) rfl ?_
                    refine tw_top (y := if m = 1 ∧ (rOth s w r = -1 ∨ (rOth s w r = t ↔ s (138 + (r : Int)) = 1)) then 1 else 0) (by omega) ?_
                    refine ar_istore (k := 89) (l2 := [(4, _), (6, _), (5, _), (3, _), (2, _), (0, _), (1, _)]) rfl (by decide) rfl ?_
                    refine ar_iinc (k := 90) (l2 := [(5, _), (4, _), (6, _), (3, _), (2, _), (0, _), (1, _)]) rfl (by decide) rfl rfl ?_
                    refine ar_goto (k := 91) rfl ?_
                    refine ar_sub (l2 := [(5, vi ((r + 1 : Nat) : Int)), (4, vi (if m = 1 ∧ (rOth s w r = -1 ∨ (rOth s w r = t ↔ s (138 + (r : Int)) = 1)) then 1 else 0)), (3, vi (t : Int)), (2, vi a), (0, vr (some 69)), (1, vi w)]) (tw_s (tw_e 0 rfl (by omega)) (tw_s (tw_g 1 rfl) (tw_s (tw_g 3 rfl) (tw_s (tw_g 4 rfl) (tw_s (tw_g 5 rfl) (tw_s (tw_g 6 rfl) tw_s0)))))) ?_
                    exact ih (r + 1) _ (by omega) (by split <;> omega) hF
                  · refine ar_iconst (k := 86) rfl ?_
                    refine ar_goto (k := 87) rfl ?_
                    refine tw_top (y := if m = 1 ∧ (rOth s w r = -1 ∨ (rOth s w r = t ↔ s (138 + (r : Int)) = 1)) then 1 else 0) (by omega) ?_
                    refine ar_istore (k := 89) (l2 := [(4, _), (6, _), (5, _), (3, _), (2, _), (0, _), (1, _)]) rfl (by decide) rfl ?_
                    refine ar_iinc (k := 90) (l2 := [(5, _), (4, _), (6, _), (3, _), (2, _), (0, _), (1, _)]) rfl (by decide) rfl rfl ?_
                    refine ar_goto (k := 91) rfl ?_
                    refine ar_sub (l2 := [(5, vi ((r + 1 : Nat) : Int)), (4, vi (if m = 1 ∧ (rOth s w r = -1 ∨ (rOth s w r = t ↔ s (138 + (r : Int)) = 1)) then 1 else 0)), (3, vi (t : Int)), (2, vi a), (0, vr (some 69)), (1, vi w)]) (tw_s (tw_e 0 rfl (by omega)) (tw_s (tw_g 1 rfl) (tw_s (tw_g 3 rfl) (tw_s (tw_g 4 rfl) (tw_s (tw_g 5 rfl) (tw_s (tw_g 6 rfl) tw_s0)))))) ?_
                    exact ih (r + 1) _ (by omega) (by split <;> omega) hF
                · refine ar_iconst (k := 82) rfl ?_
                  refine ar_goto (k := 83) rfl ?_
                  refine ar_icmp_ne (k := 85) rfl (by omega) (by omega) (fun c85 => ?_) (fun c85 => ?_)
                  · refine ar_iconst (k := 88) rfl ?_
                    refine tw_top (y := if m = 1 ∧ (rOth s w r = -1 ∨ (rOth s w r = t ↔ s (138 + (r : Int)) = 1)) then 1 else 0) (by omega) ?_
                    refine ar_istore (k := 89) (l2 := [(4, _), (6, _), (5, _), (3, _), (2, _), (0, _), (1, _)]) rfl (by decide) rfl ?_
                    refine ar_iinc (k := 90) (l2 := [(5, _), (4, _), (6, _), (3, _), (2, _), (0, _), (1, _)]) rfl (by decide) rfl rfl ?_
                    refine ar_goto (k := 91) rfl ?_
                    refine ar_sub (l2 := [(5, vi ((r + 1 : Nat) : Int)), (4, vi (if m = 1 ∧ (rOth s w r = -1 ∨ (rOth s w r = t ↔ s (138 + (r : Int)) = 1)) then 1 else 0)), (3, vi (t : Int)), (2, vi a), (0, vr (some 69)), (1, vi w)]) (tw_s (tw_e 0 rfl (by omega)) (tw_s (tw_g 1 rfl) (tw_s (tw_g 3 rfl) (tw_s (tw_g 4 rfl) (tw_s (tw_g 5 rfl) (tw_s (tw_g 6 rfl) tw_s0)))))) ?_
                    exact ih (r + 1) _ (by omega) (by split <;> omega) hF
                  · refine ar_iconst (k := 86) rfl ?_
                    refine ar_goto (k := 87) rfl ?_
                    refine tw_top (y := if m = 1 ∧ (rOth s w r = -1 ∨ (rOth s w r = t ↔ s (138 + (r : Int)) = 1)) then 1 else 0) (by omega) ?_
                    refine ar_istore (k := 89) (l2 := [(4, _), (6, _), (5, _), (3, _), (2, _), (0, _), (1, _)]) rfl (by decide) rfl ?_
                    refine ar_iinc (k := 90) (l2 := [(5, _), (4, _), (6, _), (3, _), (2, _), (0, _), (1, _)]) rfl (by decide) rfl rfl ?_
                    refine ar_goto (k := 91) rfl ?_
                    refine ar_sub (l2 := [(5, vi ((r + 1 : Nat) : Int)), (4, vi (if m = 1 ∧ (rOth s w r = -1 ∨ (rOth s w r = t ↔ s (138 + (r : Int)) = 1)) then 1 else 0)), (3, vi (t : Int)), (2, vi a), (0, vr (some 69)), (1, vi w)]) (tw_s (tw_e 0 rfl (by omega)) (tw_s (tw_g 1 rfl) (tw_s (tw_g 3 rfl) (tw_s (tw_g 4 rfl) (tw_s (tw_g 5 rfl) (tw_s (tw_g 6 rfl) tw_s0)))))) ?_
                    exact ih (r + 1) _ (by omega) (by split <;> omega) hF
              · refine ar_iconst (k := 71) rfl ?_
                refine ar_goto (k := 72) rfl ?_
                refine ar_aloadn (k := 74) rfl rfl ?_
                refine br_getR (k := 75) rfl (hS.k (by decide)) flR_9_12 (by decide) rfl (hS.r rfl) ?_
                refine ar_sipush (k := 76) rfl (by decide) ?_
                refine ar_iload (k := 77) rfl rfl ?_
                refine ar_iadd (k := 78) rfl ?_
                refine br_iads (k := 79) rfl (hS.k (by decide)) (by omega) (by omega) (by decide) hs ?_
                refine ar_iconst (k := 80) rfl ?_
                refine ar_icmp_ne (k := 81) rfl (by omega) (by omega) (fun c81 => ?_) (fun c81 => ?_)
                · refine ar_iconst (k := 84) rfl ?_
                  refine ar_icmp_ne (k := 85) rfl (by omega) (by omega) (fun c85 => ?_) (fun c85 => ?_)
                  · refine ar_iconst (k := 88) rfl ?_
                    refine tw_top (y := if m = 1 ∧ (rOth s w r = -1 ∨ (rOth s w r = t ↔ s (138 + (r : Int)) = 1)) then 1 else 0) (by omega) ?_
                    refine ar_istore (k := 89) (l2 := [(4, _), (6, _), (5, _), (3, _), (2, _), (0, _), (1, _)]) rfl (by decide) rfl ?_
                    refine ar_iinc (k := 90) (l2 := [(5, _), (4, _), (6, _), (3, _), (2, _), (0, _), (1, _)]) rfl (by decide) rfl rfl ?_
                    refine ar_goto (k := 91) rfl ?_
                    refine ar_sub (l2 := [(5, vi ((r + 1 : Nat) : Int)), (4, vi (if m = 1 ∧ (rOth s w r = -1 ∨ (rOth s w r = t ↔ s (138 + (r : Int)) = 1)) then 1 else 0)), (3, vi (t : Int)), (2, vi a), (0, vr (some 69)), (1, vi w)]) (tw_s (tw_e 0 rfl (by omega)) (tw_s (tw_g 1 rfl) (tw_s (tw_g 3 rfl) (tw_s (tw_g 4 rfl) (tw_s (tw_g 5 rfl) (tw_s (tw_g 6 rfl) tw_s0)))))) ?_
                    exact ih (r + 1) _ (by omega) (by split <;> omega) hF
                  · refine ar_iconst (k := 86) rfl ?_
                    refine ar_goto (k := 87) rfl ?_
                    refine tw_top (y := if m = 1 ∧ (rOth s w r = -1 ∨ (rOth s w r = t ↔ s (138 + (r : Int)) = 1)) then 1 else 0) (by omega) ?_
                    refine ar_istore (k := 89) (l2 := [(4, _), (6, _), (5, _), (3, _), (2, _), (0, _), (1, _)]) rfl (by decide) rfl ?_
                    refine ar_iinc (k := 90) (l2 := [(5, _), (4, _), (6, _), (3, _), (2, _), (0, _), (1, _)]) rfl (by decide) rfl rfl ?_
                    refine ar_goto (k := 91) rfl ?_
                    refine ar_sub (l2 := [(5, vi ((r + 1 : Nat) : Int)), (4, vi (if m = 1 ∧ (rOth s w r = -1 ∨ (rOth s w r = t ↔ s (138 + (r : Int)) = 1)) then 1 else 0)), (3, vi (t : Int)), (2, vi a), (0, vr (some 69)), (1, vi w)]) (tw_s (tw_e 0 rfl (by omega)) (tw_s (tw_g 1 rfl) (tw_s (tw_g 3 rfl) (tw_s (tw_g 4 rfl) (tw_s (tw_g 5 rfl) (tw_s (tw_g 6 rfl) tw_s0)))))) ?_
                    exact ih (r + 1) _ (by omega) (by split <;> omega) hF
                · refine ar_iconst (k := 82) rfl ?_
                  refine ar_goto (k := 83) rfl ?_
                  refine ar_icmp_ne (k := 85) rfl (by omega) (by omega) (fun c85 => ?_) (fun c85 => ?_)
                  · refine ar_iconst (k := 88) rfl ?_
                    refine tw_top (y := if m = 1 ∧ (rOth s w r = -1 ∨ (rOth s w r = t ↔ s (138 + (r : Int)) = 1)) then 1 else 0) (by omega) ?_
                    refine ar_istore (k := 89) (l2 := [(4, _), (6, _), (5, _), (3, _), (2, _), (0, _), (1, _)]) rfl (by decide) rfl ?_
                    refine ar_iinc (k := 90) (l2 := [(5, _), (4, _), (6, _), (3, _), (2, _), (0, _), (1, _)]) rfl (by decide) rfl rfl ?_
                    refine ar_goto (k := 91) rfl ?_
                    refine ar_sub (l2 := [(5, vi ((r + 1 : Nat) : Int)), (4, vi (if m = 1 ∧ (rOth s w r = -1 ∨ (rOth s w r = t ↔ s (138 + (r : Int)) = 1)) then 1 else 0)), (3, vi (t : Int)), (2, vi a), (0, vr (some 69)), (1, vi w)]) (tw_s (tw_e 0 rfl (by omega)) (tw_s (tw_g 1 rfl) (tw_s (tw_g 3 rfl) (tw_s (tw_g 4 rfl) (tw_s (tw_g 5 rfl) (tw_s (tw_g 6 rfl) tw_s0)))))) ?_
                    exact ih (r + 1) _ (by omega) (by split <;> omega) hF
                  · refine ar_iconst (k := 86) rfl ?_
                    refine ar_goto (k := 87) rfl ?_
                    refine tw_top (y := if m = 1 ∧ (rOth s w r = -1 ∨ (rOth s w r = t ↔ s (138 + (r : Int)) = 1)) then 1 else 0) (by omega) ?_
                    refine ar_istore (k := 89) (l2 := [(4, _), (6, _), (5, _), (3, _), (2, _), (0, _), (1, _)]) rfl (by decide) rfl ?_
                    refine ar_iinc (k := 90) (l2 := [(5, _), (4, _), (6, _), (3, _), (2, _), (0, _), (1, _)]) rfl (by decide) rfl rfl ?_
                    refine ar_goto (k := 91) rfl ?_
                    refine ar_sub (l2 := [(5, vi ((r + 1 : Nat) : Int)), (4, vi (if m = 1 ∧ (rOth s w r = -1 ∨ (rOth s w r = t ↔ s (138 + (r : Int)) = 1)) then 1 else 0)), (3, vi (t : Int)), (2, vi a), (0, vr (some 69)), (1, vi w)]) (tw_s (tw_e 0 rfl (by omega)) (tw_s (tw_g 1 rfl) (tw_s (tw_g 3 rfl) (tw_s (tw_g 4 rfl) (tw_s (tw_g 5 rfl) (tw_s (tw_g 6 rfl) tw_s0)))))) ?_
                    exact ih (r + 1) _ (by omega) (by split <;> omega) hF
        · refine ar_aloadn (k := 54) rfl rfl ?_
          refine br_getR (k := 55) rfl (hS.k (by decide)) flR_9_12 (by decide) rfl (hS.r rfl) ?_
          refine ar_bipush (k := 56) rfl (by decide) ?_
          refine ar_iload (k := 57) rfl rfl ?_
          refine ar_iadd (k := 58) rfl ?_
          refine br_iads (k := 59) rfl (hS.k (by decide)) (by omega) (by omega) (by decide) hs ?_
          refine ar_goto (k := 60) rfl ?_
          refine tw_top (y := rOth s w r) (by unfold rOth; omega) ?_
          have ho : -1 ≤ rOth s w r ∧ rOth s w r < 10 := by unfold rOth; omega
          refine ar_istore (k := 62) (l2 := [(6, _), (5, _), (4, _), (3, _), (2, _), (0, _), (1, _)]) rfl (by decide) rfl ?_
          refine ar_iload (k := 63) rfl rfl ?_
          refine ar_if_eq (k := 64) rfl (by omega) (fun c64 => ?_) (fun c64 => ?_)
          · refine ar_iconst (k := 88) rfl ?_
            refine tw_top (y := if m = 1 ∧ (rOth s w r = -1 ∨ (rOth s w r = t ↔ s (138 + (r : Int)) = 1)) then 1 else 0) (by omega) ?_
            refine ar_istore (k := 89) (l2 := [(4, _), (6, _), (5, _), (3, _), (2, _), (0, _), (1, _)]) rfl (by decide) rfl ?_
            refine ar_iinc (k := 90) (l2 := [(5, _), (4, _), (6, _), (3, _), (2, _), (0, _), (1, _)]) rfl (by decide) rfl rfl ?_
            refine ar_goto (k := 91) rfl ?_
            refine ar_sub (l2 := [(5, vi ((r + 1 : Nat) : Int)), (4, vi (if m = 1 ∧ (rOth s w r = -1 ∨ (rOth s w r = t ↔ s (138 + (r : Int)) = 1)) then 1 else 0)), (3, vi (t : Int)), (2, vi a), (0, vr (some 69)), (1, vi w)]) (tw_s (tw_e 0 rfl (by omega)) (tw_s (tw_g 1 rfl) (tw_s (tw_g 3 rfl) (tw_s (tw_g 4 rfl) (tw_s (tw_g 5 rfl) (tw_s (tw_g 6 rfl) tw_s0)))))) ?_
            exact ih (r + 1) _ (by omega) (by split <;> omega) hF
          · refine ar_iload (k := 65) rfl rfl ?_
            refine ar_iconst (k := 66) rfl ?_
            refine ar_icmp_eq (k := 67) rfl (by omega) (by omega) (fun c67 => ?_) (fun c67 => ?_)
            · refine ar_iconst (k := 86) rfl ?_
              refine ar_goto (k := 87) rfl ?_
              refine tw_top (y := if m = 1 ∧ (rOth s w r = -1 ∨ (rOth s w r = t ↔ s (138 + (r : Int)) = 1)) then 1 else 0) (by omega) ?_
              refine ar_istore (k := 89) (l2 := [(4, _), (6, _), (5, _), (3, _), (2, _), (0, _), (1, _)]) rfl (by decide) rfl ?_
              refine ar_iinc (k := 90) (l2 := [(5, _), (4, _), (6, _), (3, _), (2, _), (0, _), (1, _)]) rfl (by decide) rfl rfl ?_
              refine ar_goto (k := 91) rfl ?_
              refine ar_sub (l2 := [(5, vi ((r + 1 : Nat) : Int)), (4, vi (if m = 1 ∧ (rOth s w r = -1 ∨ (rOth s w r = t ↔ s (138 + (r : Int)) = 1)) then 1 else 0)), (3, vi (t : Int)), (2, vi a), (0, vr (some 69)), (1, vi w)]) (tw_s (tw_e 0 rfl (by omega)) (tw_s (tw_g 1 rfl) (tw_s (tw_g 3 rfl) (tw_s (tw_g 4 rfl) (tw_s (tw_g 5 rfl) (tw_s (tw_g 6 rfl) tw_s0)))))) ?_
              exact ih (r + 1) _ (by omega) (by split <;> omega) hF
            · refine ar_iload (k := 68) rfl rfl ?_
              refine ar_iloadn (k := 69) rfl rfl ?_
              refine ar_icmp_ne (k := 70) rfl (by omega) (by omega) (fun c70 => ?_) (fun c70 => ?_)
              · refine ar_iconst (k := 73) rfl ?_
                refine ar_aloadn (k := 74) rfl rfl ?_
                refine br_getR (k := 75) rfl (hS.k (by decide)) flR_9_12 (by decide) rfl (hS.r rfl) ?_
                refine ar_sipush (k := 76) rfl (by decide) ?_
                refine ar_iload (k := 77) rfl rfl ?_
                refine ar_iadd (k := 78) rfl ?_
                refine br_iads (k := 79) rfl (hS.k (by decide)) (by omega) (by omega) (by decide) hs ?_
                refine ar_iconst (k := 80) rfl ?_
                refine ar_icmp_ne (k := 81) rfl (by omega) (by omega) (fun c81 => ?_) (fun c81 => ?_)
                · refine ar_iconst (k := 84) rfl ?_
                  refine ar_icmp_ne (k := 85) rfl (by omega) (by omega) (fun c85 => ?_) (fun c85 => ?_)
                  · refine ar_iconst (k := 88) rfl ?_
                    refine tw_top (y := if m = 1 ∧ (rOth s w r = -1 ∨ (rOth s w r = t ↔ s (138 + (r : Int)) = 1)) then 1 else 0) (by omega) ?_
                    refine ar_istore (k := 89) (l2 := [(4, _), (6, _), (5, _), (3, _), (2, _), (0, _), (1, _)]) rfl (by decide) rfl ?_
                    refine ar_iinc (k := 90) (l2 := [(5, _), (4, _), (6, _), (3, _), (2, _), (0, _), (1, _)]) rfl (by decide) rfl rfl ?_
                    refine ar_goto (k := 91) rfl ?_
                    refine ar_sub (l2 := [(5, vi ((r + 1 : Nat) : Int)), (4, vi (if m = 1 ∧ (rOth s w r = -1 ∨ (rOth s w r = t ↔ s (138 + (r : Int)) = 1)) then 1 else 0)), (3, vi (t : Int)), (2, vi a), (0, vr (some 69)), (1, vi w)]) (tw_s (tw_e 0 rfl (by omega)) (tw_s (tw_g 1 rfl) (tw_s (tw_g 3 rfl) (tw_s (tw_g 4 rfl) (tw_s (tw_g 5 rfl) (tw_s (tw_g 6 rfl) tw_s0)))))) ?_
                    exact ih (r + 1) _ (by omega) (by split <;> omega) hF
                  · refine ar_iconst (k := 86) rfl ?_
                    refine ar_goto (k := 87) rfl ?_
                    refine tw_top (y := if m = 1 ∧ (rOth s w r = -1 ∨ (rOth s w r = t ↔ s (138 + (r : Int)) = 1)) then 1 else 0) (by omega) ?_
                    refine ar_istore (k := 89) (l2 := [(4, _), (6, _), (5, _), (3, _), (2, _), (0, _), (1, _)]) rfl (by decide) rfl ?_
                    refine ar_iinc (k := 90) (l2 := [(5, _), (4, _), (6, _), (3, _), (2, _), (0, _), (1, _)]) rfl (by decide) rfl rfl ?_
                    refine ar_goto (k := 91) rfl ?_
                    refine ar_sub (l2 := [(5, vi ((r + 1 : Nat) : Int)), (4, vi (if m = 1 ∧ (rOth s w r = -1 ∨ (rOth s w r = t ↔ s (138 + (r : Int)) = 1)) then 1 else 0)), (3, vi (t : Int)), (2, vi a), (0, vr (some 69)), (1, vi w)]) (tw_s (tw_e 0 rfl (by omega)) (tw_s (tw_g 1 rfl) (tw_s (tw_g 3 rfl) (tw_s (tw_g 4 rfl) (tw_s (tw_g 5 rfl) (tw_s (tw_g 6 rfl) tw_s0)))))) ?_
                    exact ih (r + 1) _ (by omega) (by split <;> omega) hF
                · refine ar_iconst (k := 82) rfl ?_
                  refine ar_goto (k := 83) rfl ?_
                  refine ar_icmp_ne (k := 85) rfl (by omega) (by omega) (fun c85 => ?_) (fun c85 => ?_)
                  · refine ar_iconst (k := 88) rfl ?_
                    refine tw_top (y := if m = 1 ∧ (rOth s w r = -1 ∨ (rOth s w r = t ↔ s (138 + (r : Int)) = 1)) then 1 else 0) (by omega) ?_
                    refine ar_istore (k := 89) (l2 := [(4, _), (6, _), (5, _), (3, _), (2, _), (0, _), (1, _)]) rfl (by decide) rfl ?_
                    refine ar_iinc (k := 90) (l2 := [(5, _), (4, _), (6, _), (3, _), (2, _), (0, _), (1, _)]) rfl (by decide) rfl rfl ?_
                    refine ar_goto (k := 91) rfl ?_
                    refine ar_sub (l2 := [(5, vi ((r + 1 : Nat) : Int)), (4, vi (if m = 1 ∧ (rOth s w r = -1 ∨ (rOth s w r = t ↔ s (138 + (r : Int)) = 1)) then 1 else 0)), (3, vi (t : Int)), (2, vi a), (0, vr (some 69)), (1, vi w)]) (tw_s (tw_e 0 rfl (by omega)) (tw_s (tw_g 1 rfl) (tw_s (tw_g 3 rfl) (tw_s (tw_g 4 rfl) (tw_s (tw_g 5 rfl) (tw_s (tw_g 6 rfl) tw_s0)))))) ?_
                    exact ih (r + 1) _ (by omega) (by split <;> omega) hF
                  · refine ar_iconst (k := 86) rfl ?_
                    refine ar_goto (k := 87) rfl ?_
                    refine tw_top (y := if m = 1 ∧ (rOth s w r = -1 ∨ (rOth s w r = t ↔ s (138 + (r : Int)) = 1)) then 1 else 0) (by omega) ?_
                    refine ar_istore (k := 89) (l2 := [(4, _), (6, _), (5, _), (3, _), (2, _), (0, _), (1, _)]) rfl (by decide) rfl ?_
                    refine ar_iinc (k := 90) (l2 := [(5, _), (4, _), (6, _), (3, _), (2, _), (0, _), (1, _)]) rfl (by decide) rfl rfl ?_
                    refine ar_goto (k := 91) rfl ?_
                    refine ar_sub (l2 := [(5, vi ((r + 1 : Nat) : Int)), (4, vi (if m = 1 ∧ (rOth s w r = -1 ∨ (rOth s w r = t ↔ s (138 + (r : Int)) = 1)) then 1 else 0)), (3, vi (t : Int)), (2, vi a), (0, vr (some 69)), (1, vi w)]) (tw_s (tw_e 0 rfl (by omega)) (tw_s (tw_g 1 rfl) (tw_s (tw_g 3 rfl) (tw_s (tw_g 4 rfl) (tw_s (tw_g 5 rfl) (tw_s (tw_g 6 rfl) tw_s0)))))) ?_
                    exact ih (r + 1) _ (by omega) (by split <;> omega) hF
              · refine ar_iconst (k := 71) rfl ?_
                refine ar_goto (k := 72) rfl ?_
                refine ar_aloadn (k := 74) rfl rfl ?_
                refine br_getR (k := 75) rfl (hS.k (by decide)) flR_9_12 (by decide) rfl (hS.r rfl) ?_
                refine ar_sipush (k := 76) rfl (by decide) ?_
                refine ar_iload (k := 77) rfl rfl ?_
                refine ar_iadd (k := 78) rfl ?_
                refine br_iads (k := 79) rfl (hS.k (by decide)) (by omega) (by omega) (by decide) hs ?_
                refine ar_iconst (k := 80) rfl ?_
                refine ar_icmp_ne (k := 81) rfl (by omega) (by omega) (fun c81 => ?_) (fun c81 => ?_)
                · refine ar_iconst (k := 84) rfl ?_
                  refine ar_icmp_ne (k := 85) rfl (by omega) (by omega) (fun c85 => ?_) (fun c85 => ?_)
                  · refine ar_iconst (k := 88) rfl ?_
                    refine tw_top (y := if m = 1 ∧ (rOth s w r = -1 ∨ (rOth s w r = t ↔ s (138 + (r : Int)) = 1)) then 1 else 0) (by omega) ?_
                    refine ar_istore (k := 89) (l2 := [(4, _), (6, _), (5, _), (3, _), (2, _), (0, _), (1, _)]) rfl (by decide) rfl ?_
                    refine ar_iinc (k := 90) (l2 := [(5, _), (4, _), (6, _), (3, _), (2, _), (0, _), (1, _)]) rfl (by decide) rfl rfl ?_
                    refine ar_goto (k := 91) rfl ?_
                    refine ar_sub (l2 := [(5, vi ((r + 1 : Nat) : Int)), (4, vi (if m = 1 ∧ (rOth s w r = -1 ∨ (rOth s w r = t ↔ s (138 + (r : Int)) = 1)) then 1 else 0)), (3, vi (t : Int)), (2, vi a), (0, vr (some 69)), (1, vi w)]) (tw_s (tw_e 0 rfl (by omega)) (tw_s (tw_g 1 rfl) (tw_s (tw_g 3 rfl) (tw_s (tw_g 4 rfl) (tw_s (tw_g 5 rfl) (tw_s (tw_g 6 rfl) tw_s0)))))) ?_
                    exact ih (r + 1) _ (by omega) (by split <;> omega) hF
                  · refine ar_iconst (k := 86) rfl ?_
                    refine ar_goto (k := 87) rfl ?_
                    refine tw_top (y := if m = 1 ∧ (rOth s w r = -1 ∨ (rOth s w r = t ↔ s (138 + (r : Int)) = 1)) then 1 else 0) (by omega) ?_
                    refine ar_istore (k := 89) (l2 := [(4, _), (6, _), (5, _), (3, _), (2, _), (0, _), (1, _)]) rfl (by decide) rfl ?_
                    refine ar_iinc (k := 90) (l2 := [(5, _), (4, _), (6, _), (3, _), (2, _), (0, _), (1, _)]) rfl (by decide) rfl rfl ?_
                    refine ar_goto (k := 91) rfl ?_
                    refine ar_sub (l2 := [(5, vi ((r + 1 : Nat) : Int)), (4, vi (if m = 1 ∧ (rOth s w r = -1 ∨ (rOth s w r = t ↔ s (138 + (r : Int)) = 1)) then 1 else 0)), (3, vi (t : Int)), (2, vi a), (0, vr (some 69)), (1, vi w)]) (tw_s (tw_e 0 rfl (by omega)) (tw_s (tw_g 1 rfl) (tw_s (tw_g 3 rfl) (tw_s (tw_g 4 rfl) (tw_s (tw_g 5 rfl) (tw_s (tw_g 6 rfl) tw_s0)))))) ?_
                    exact ih (r + 1) _ (by omega) (by split <;> omega) hF
                · refine ar_iconst (k := 82) rfl ?_
                  refine ar_goto (k := 83) rfl ?_
                  refine ar_icmp_ne (k := 85) rfl (by omega) (by omega) (fun c85 => ?_) (fun c85 => ?_)
                  · refine ar_iconst (k := 88) rfl ?_
                    refine tw_top (y := if m = 1 ∧ (rOth s w r = -1 ∨ (rOth s w r = t ↔ s (138 + (r : Int)) = 1)) then 1 else 0) (by omega) ?_
                    refine ar_istore (k := 89) (l2 := [(4, _), (6, _), (5, _), (3, _), (2, _), (0, _), (1, _)]) rfl (by decide) rfl ?_
                    refine ar_iinc (k := 90) (l2 := [(5, _), (4, _), (6, _), (3, _), (2, _), (0, _), (1, _)]) rfl (by decide) rfl rfl ?_
                    refine ar_goto (k := 91) rfl ?_
                    refine ar_sub (l2 := [(5, vi ((r + 1 : Nat) : Int)), (4, vi (if m = 1 ∧ (rOth s w r = -1 ∨ (rOth s w r = t ↔ s (138 + (r : Int)) = 1)) then 1 else 0)), (3, vi (t : Int)), (2, vi a), (0, vr (some 69)), (1, vi w)]) (tw_s (tw_e 0 rfl (by omega)) (tw_s (tw_g 1 rfl) (tw_s (tw_g 3 rfl) (tw_s (tw_g 4 rfl) (tw_s (tw_g 5 rfl) (tw_s (tw_g 6 rfl) tw_s0)))))) ?_
                    exact ih (r + 1) _ (by omega) (by split <;> omega) hF
                  · refine ar_iconst (k := 86) rfl ?_
                    refine ar_goto (k := 87) rfl ?_
                    refine tw_top (y := if m = 1 ∧ (rOth s w r = -1 ∨ (rOth s w r = t ↔ s (138 + (r : Int)) = 1)) then 1 else 0) (by omega) ?_
                    refine ar_istore (k := 89) (l2 := [(4, _), (6, _), (5, _), (3, _), (2, _), (0, _), (1, _)]) rfl (by decide) rfl ?_
                    refine ar_iinc (k := 90) (l2 := [(5, _), (4, _), (6, _), (3, _), (2, _), (0, _), (1, _)]) rfl (by decide) rfl rfl ?_
                    refine ar_goto (k := 91) rfl ?_
                    refine ar_sub (l2 := [(5, vi ((r + 1 : Nat) : Int)), (4, vi (if m = 1 ∧ (rOth s w r = -1 ∨ (rOth s w r = t ↔ s (138 + (r : Int)) = 1)) then 1 else 0)), (3, vi (t : Int)), (2, vi a), (0, vr (some 69)), (1, vi w)]) (tw_s (tw_e 0 rfl (by omega)) (tw_s (tw_g 1 rfl) (tw_s (tw_g 3 rfl) (tw_s (tw_g 4 rfl) (tw_s (tw_g 5 rfl) (tw_s (tw_g 6 rfl) tw_s0)))))) ?_
                    exact ih (r + 1) _ (by omega) (by split <;> omega) hF
      · refine ar_aloadn (k := 39) rfl rfl ?_
        refine br_getR (k := 40) rfl (hS.k (by decide)) flR_9_12 (by decide) rfl (hS.r rfl) ?_
        refine ar_bipush (k := 41) rfl (by decide) ?_
        refine ar_iload (k := 42) rfl rfl ?_
        refine ar_iadd (k := 43) rfl ?_
        refine br_iads (k := 44) rfl (hS.k (by decide)) (by omega) (by omega) (by decide) hs ?_
        refine ar_goto (k := 45) rfl ?_
        refine tw_top (y := rOth s w r) (by unfold rOth; omega) ?_
        have ho : -1 ≤ rOth s w r ∧ rOth s w r < 10 := by unfold rOth; omega
        refine ar_istore (k := 62) (l2 := [(6, _), (5, _), (4, _), (3, _), (2, _), (0, _), (1, _)]) rfl (by decide) rfl ?_
        refine ar_iload (k := 63) rfl rfl ?_
        refine ar_if_eq (k := 64) rfl (by omega) (fun c64 => ?_) (fun c64 => ?_)
        · refine ar_iconst (k := 88) rfl ?_
          refine tw_top (y := if m = 1 ∧ (rOth s w r = -1 ∨ (rOth s w r = t ↔ s (138 + (r : Int)) = 1)) then 1 else 0) (by omega) ?_
          refine ar_istore (k := 89) (l2 := [(4, _), (6, _), (5, _), (3, _), (2, _), (0, _), (1, _)]) rfl (by decide) rfl ?_
          refine ar_iinc (k := 90) (l2 := [(5, _), (4, _), (6, _), (3, _), (2, _), (0, _), (1, _)]) rfl (by decide) rfl rfl ?_
          refine ar_goto (k := 91) rfl ?_
          refine ar_sub (l2 := [(5, vi ((r + 1 : Nat) : Int)), (4, vi (if m = 1 ∧ (rOth s w r = -1 ∨ (rOth s w r = t ↔ s (138 + (r : Int)) = 1)) then 1 else 0)), (3, vi (t : Int)), (2, vi a), (0, vr (some 69)), (1, vi w)]) (tw_s (tw_e 0 rfl (by omega)) (tw_s (tw_g 1 rfl) (tw_s (tw_g 3 rfl) (tw_s (tw_g 4 rfl) (tw_s (tw_g 5 rfl) (tw_s (tw_g 6 rfl) tw_s0)))))) ?_
          exact ih (r + 1) _ (by omega) (by split <;> omega) hF
        · refine ar_iload (k := 65) rfl rfl ?_
          refine ar_iconst (k := 66) rfl ?_
          refine ar_icmp_eq (k := 67) rfl (by omega) (by omega) (fun c67 => ?_) (fun c67 => ?_)
          · refine ar_iconst (k := 86) rfl ?_
            refine ar_goto (k := 87) rfl ?_
            refine tw_top (y := if m = 1 ∧ (rOth s w r = -1 ∨ (rOth s w r = t ↔ s (138 + (r : Int)) = 1)) then 1 else 0) (by omega) ?_
            refine ar_istore (k := 89) (l2 := [(4, _), (6, _), (5, _), (3, _), (2, _), (0, _), (1, _)]) rfl (by decide) rfl ?_
            refine ar_iinc (k := 90) (l2 := [(5, _), (4, _), (6, _), (3, _), (2, _), (0, _), (1, _)]) rfl (by decide) rfl rfl ?_
            refine ar_goto (k := 91) rfl ?_
            refine ar_sub (l2 := [(5, vi ((r + 1 : Nat) : Int)), (4, vi (if m = 1 ∧ (rOth s w r = -1 ∨ (rOth s w r = t ↔ s (138 + (r : Int)) = 1)) then 1 else 0)), (3, vi (t : Int)), (2, vi a), (0, vr (some 69)), (1, vi w)]) (tw_s (tw_e 0 rfl (by omega)) (tw_s (tw_g 1 rfl) (tw_s (tw_g 3 rfl) (tw_s (tw_g 4 rfl) (tw_s (tw_g 5 rfl) (tw_s (tw_g 6 rfl) tw_s0)))))) ?_
            exact ih (r + 1) _ (by omega) (by split <;> omega) hF
          · refine ar_iload (k := 68) rfl rfl ?_
            refine ar_iloadn (k := 69) rfl rfl ?_
            refine ar_icmp_ne (k := 70) rfl (by omega) (by omega) (fun c70 => ?_) (fun c70 => ?_)
            · refine ar_iconst (k := 73) rfl ?_
              refine ar_aloadn (k := 74) rfl rfl ?_
              refine br_getR (k := 75) rfl (hS.k (by decide)) flR_9_12 (by decide) rfl (hS.r rfl) ?_
              refine ar_sipush (k := 76) rfl (by decide) ?_
              refine ar_iload (k := 77) rfl rfl ?_
              refine ar_iadd (k := 78) rfl ?_
              refine br_iads (k := 79) rfl (hS.k (by decide)) (by omega) (by omega) (by decide) hs ?_
              refine ar_iconst (k := 80) rfl ?_
              refine ar_icmp_ne (k := 81) rfl (by omega) (by omega) (fun c81 => ?_) (fun c81 => ?_)
              · refine ar_iconst (k := 84) rfl ?_
                refine ar_icmp_ne (k := 85) rfl (by omega) (by omega) (fun c85 => ?_) (fun c85 => ?_)
                · refine ar_iconst (k := 88) rfl ?_
                  refine tw_top (y := if m = 1 ∧ (rOth s w r = -1 ∨ (rOth s w r = t ↔ s (138 + (r : Int)) = 1)) then 1 else 0) (by omega) ?_
                  refine ar_istore (k := 89) (l2 := [(4, _), (6, _), (5, _), (3, _), (2, _), (0, _), (1, _)]) rfl (by decide) rfl ?_
                  refine ar_iinc (k := 90) (l2 := [(5, _), (4, _), (6, _), (3, _), (2, _), (0, _), (1, _)]) rfl (by decide) rfl rfl ?_
                  refine ar_goto (k := 91) rfl ?_
                  refine ar_sub (l2 := [(5, vi ((r + 1 : Nat) : Int)), (4, vi (if m = 1 ∧ (rOth s w r = -1 ∨ (rOth s w r = t ↔ s (138 + (r : Int)) = 1)) then 1 else 0)), (3, vi (t : Int)), (2, vi a), (0, vr (some 69)), (1, vi w)]) (tw_s (tw_e 0 rfl (by omega)) (tw_s (tw_g 1 rfl) (tw_s (tw_g 3 rfl) (tw_s (tw_g 4 rfl) (tw_s (tw_g 5 rfl) (tw_s (tw_g 6 rfl) tw_s0)))))) ?_
                  exact ih (r + 1) _ (by omega) (by split <;> omega) hF
                · refine ar_iconst (k := 86) rfl ?_
                  refine ar_goto (k := 87) rfl ?_
                  refine tw_top (y := if m = 1 ∧ (rOth s w r = -1 ∨ (rOth s w r = t ↔ s (138 + (r : Int)) = 1)) then 1 else 0) (by omega) ?_
                  refine ar_istore (k := 89) (l2 := [(4, _), (6, _), (5, _), (3, _), (2, _), (0, _), (1, _)]) rfl (by decide) rfl ?_
                  refine ar_iinc (k := 90) (l2 := [(5, _), (4, _), (6, _), (3, _), (2, _), (0, _), (1, _)]) rfl (by decide) rfl rfl ?_
                  refine ar_goto (k := 91) rfl ?_
                  refine ar_sub (l2 := [(5, vi ((r + 1 : Nat) : Int)), (4, vi (if m = 1 ∧ (rOth s w r = -1 ∨ (rOth s w r = t ↔ s (138 + (r : Int)) = 1)) then 1 else 0)), (3, vi (t : Int)), (2, vi a), (0, vr (some 69)), (1, vi w)]) (tw_s (tw_e 0 rfl (by omega)) (tw_s (tw_g 1 rfl) (tw_s (tw_g 3 rfl) (tw_s (tw_g 4 rfl) (tw_s (tw_g 5 rfl) (tw_s (tw_g 6 rfl) tw_s0)))))) ?_
                  exact ih (r + 1) _ (by omega) (by split <;> omega) hF
              · refine ar_iconst (k := 82) rfl ?_
                refine ar_goto (k := 83) rfl ?_
                refine ar_icmp_ne (k := 85) rfl (by omega) (by omega) (fun c85 => ?_) (fun c85 => ?_)
                · refine ar_iconst (k := 88) rfl ?_
                  refine tw_top (y := if m = 1 ∧ (rOth s w r = -1 ∨ (rOth s w r = t ↔ s (138 + (r : Int)) = 1)) then 1 else 0) (by omega) ?_
                  refine ar_istore (k := 89) (l2 := [(4, _), (6, _), (5, _), (3, _), (2, _), (0, _), (1, _)]) rfl (by decide) rfl ?_
                  refine ar_iinc (k := 90) (l2 := [(5, _), (4, _), (6, _), (3, _), (2, _), (0, _), (1, _)]) rfl (by decide) rfl rfl ?_
                  refine ar_goto (k := 91) rfl ?_
                  refine ar_sub (l2 := [(5, vi ((r + 1 : Nat) : Int)), (4, vi (if m = 1 ∧ (rOth s w r = -1 ∨ (rOth s w r = t ↔ s (138 + (r : Int)) = 1)) then 1 else 0)), (3, vi (t : Int)), (2, vi a), (0, vr (some 69)), (1, vi w)]) (tw_s (tw_e 0 rfl (by omega)) (tw_s (tw_g 1 rfl) (tw_s (tw_g 3 rfl) (tw_s (tw_g 4 rfl) (tw_s (tw_g 5 rfl) (tw_s (tw_g 6 rfl) tw_s0)))))) ?_
                  exact ih (r + 1) _ (by omega) (by split <;> omega) hF
                · refine ar_iconst (k := 86) rfl ?_
                  refine ar_goto (k := 87) rfl ?_
                  refine tw_top (y := if m = 1 ∧ (rOth s w r = -1 ∨ (rOth s w r = t ↔ s (138 + (r : Int)) = 1)) then 1 else 0) (by omega) ?_
                  refine ar_istore (k := 89) (l2 := [(4, _), (6, _), (5, _), (3, _), (2, _), (0, _), (1, _)]) rfl (by decide) rfl ?_
                  refine ar_iinc (k := 90) (l2 := [(5, _), (4, _), (6, _), (3, _), (2, _), (0, _), (1, _)]) rfl (by decide) rfl rfl ?_
                  refine ar_goto (k := 91) rfl ?_
                  refine ar_sub (l2 := [(5, vi ((r + 1 : Nat) : Int)), (4, vi (if m = 1 ∧ (rOth s w r = -1 ∨ (rOth s w r = t ↔ s (138 + (r : Int)) = 1)) then 1 else 0)), (3, vi (t : Int)), (2, vi a), (0, vr (some 69)), (1, vi w)]) (tw_s (tw_e 0 rfl (by omega)) (tw_s (tw_g 1 rfl) (tw_s (tw_g 3 rfl) (tw_s (tw_g 4 rfl) (tw_s (tw_g 5 rfl) (tw_s (tw_g 6 rfl) tw_s0)))))) ?_
                  exact ih (r + 1) _ (by omega) (by split <;> omega) hF
            · refine ar_iconst (k := 71) rfl ?_
              refine ar_goto (k := 72) rfl ?_
              refine ar_aloadn (k := 74) rfl rfl ?_
              refine br_getR (k := 75) rfl (hS.k (by decide)) flR_9_12 (by decide) rfl (hS.r rfl) ?_
              refine ar_sipush (k := 76) rfl (by decide) ?_
              refine ar_iload (k := 77) rfl rfl ?_
              refine ar_iadd (k := 78) rfl ?_
              refine br_iads (k := 79) rfl (hS.k (by decide)) (by omega) (by omega) (by decide) hs ?_
              refine ar_iconst (k := 80) rfl ?_
              refine ar_icmp_ne (k := 81) rfl (by omega) (by omega) (fun c81 => ?_) (fun c81 => ?_)
              · refine ar_iconst (k := 84) rfl ?_
                refine ar_icmp_ne (k := 85) rfl (by omega) (by omega) (fun c85 => ?_) (fun c85 => ?_)
                · refine ar_iconst (k := 88) rfl ?_
                  refine tw_top (y := if m = 1 ∧ (rOth s w r = -1 ∨ (rOth s w r = t ↔ s (138 + (r : Int)) = 1)) then 1 else 0) (by omega) ?_
                  refine ar_istore (k := 89) (l2 := [(4, _), (6, _), (5, _), (3, _), (2, _), (0, _), (1, _)]) rfl (by decide) rfl ?_
                  refine ar_iinc (k := 90) (l2 := [(5, _), (4, _), (6, _), (3, _), (2, _), (0, _), (1, _)]) rfl (by decide) rfl rfl ?_
                  refine ar_goto (k := 91) rfl ?_
                  refine ar_sub (l2 := [(5, vi ((r + 1 : Nat) : Int)), (4, vi (if m = 1 ∧ (rOth s w r = -1 ∨ (rOth s w r = t ↔ s (138 + (r : Int)) = 1)) then 1 else 0)), (3, vi (t : Int)), (2, vi a), (0, vr (some 69)), (1, vi w)]) (tw_s (tw_e 0 rfl (by omega)) (tw_s (tw_g 1 rfl) (tw_s (tw_g 3 rfl) (tw_s (tw_g 4 rfl) (tw_s (tw_g 5 rfl) (tw_s (tw_g 6 rfl) tw_s0)))))) ?_
                  exact ih (r + 1) _ (by omega) (by split <;> omega) hF
                · refine ar_iconst (k := 86) rfl ?_
                  refine ar_goto (k := 87) rfl ?_
                  refine tw_top (y := if m = 1 ∧ (rOth s w r = -1 ∨ (rOth s w r = t ↔ s (138 + (r : Int)) = 1)) then 1 else 0) (by omega) ?_
                  refine ar_istore (k := 89) (l2 := [(4, _), (6, _), (5, _), (3, _), (2, _), (0, _), (1, _)]) rfl (by decide) rfl ?_
                  refine ar_iinc (k := 90) (l2 := [(5, _), (4, _), (6, _), (3, _), (2, _), (0, _), (1, _)]) rfl (by decide) rfl rfl ?_
                  refine ar_goto (k := 91) rfl ?_
                  refine ar_sub (l2 := [(5, vi ((r + 1 : Nat) : Int)), (4, vi (if m = 1 ∧ (rOth s w r = -1 ∨ (rOth s w r = t ↔ s (138 + (r : Int)) = 1)) then 1 else 0)), (3, vi (t : Int)), (2, vi a), (0, vr (some 69)), (1, vi w)]) (tw_s (tw_e 0 rfl (by omega)) (tw_s (tw_g 1 rfl) (tw_s (tw_g 3 rfl) (tw_s (tw_g 4 rfl) (tw_s (tw_g 5 rfl) (tw_s (tw_g 6 rfl) tw_s0)))))) ?_
                  exact ih (r + 1) _ (by omega) (by split <;> omega) hF
              · refine ar_iconst (k := 82) rfl ?_
                refine ar_goto (k := 83) rfl ?_
                refine ar_icmp_ne (k := 85) rfl (by omega) (by omega) (fun c85 => ?_) (fun c85 => ?_)
                · refine ar_iconst (k := 88) rfl ?_
                  refine tw_top (y := if m = 1 ∧ (rOth s w r = -1 ∨ (rOth s w r = t ↔ s (138 + (r : Int)) = 1)) then 1 else 0) (by omega) ?_
                  refine ar_istore (k := 89) (l2 := [(4, _), (6, _), (5, _), (3, _), (2, _), (0, _), (1, _)]) rfl (by decide) rfl ?_
                  refine ar_iinc (k := 90) (l2 := [(5, _), (4, _), (6, _), (3, _), (2, _), (0, _), (1, _)]) rfl (by decide) rfl rfl ?_
                  refine ar_goto (k := 91) rfl ?_
                  refine ar_sub (l2 := [(5, vi ((r + 1 : Nat) : Int)), (4, vi (if m = 1 ∧ (rOth s w r = -1 ∨ (rOth s w r = t ↔ s (138 + (r : Int)) = 1)) then 1 else 0)), (3, vi (t : Int)), (2, vi a), (0, vr (some 69)), (1, vi w)]) (tw_s (tw_e 0 rfl (by omega)) (tw_s (tw_g 1 rfl) (tw_s (tw_g 3 rfl) (tw_s (tw_g 4 rfl) (tw_s (tw_g 5 rfl) (tw_s (tw_g 6 rfl) tw_s0)))))) ?_
                  exact ih (r + 1) _ (by omega) (by split <;> omega) hF
                · refine ar_iconst (k := 86) rfl ?_
                  refine ar_goto (k := 87) rfl ?_
                  refine tw_top (y := if m = 1 ∧ (rOth s w r = -1 ∨ (rOth s w r = t ↔ s (138 + (r : Int)) = 1)) then 1 else 0) (by omega) ?_
                  refine ar_istore (k := 89) (l2 := [(4, _), (6, _), (5, _), (3, _), (2, _), (0, _), (1, _)]) rfl (by decide) rfl ?_
                  refine ar_iinc (k := 90) (l2 := [(5, _), (4, _), (6, _), (3, _), (2, _), (0, _), (1, _)]) rfl (by decide) rfl rfl ?_
                  refine ar_goto (k := 91) rfl ?_
                  refine ar_sub (l2 := [(5, vi ((r + 1 : Nat) : Int)), (4, vi (if m = 1 ∧ (rOth s w r = -1 ∨ (rOth s w r = t ↔ s (138 + (r : Int)) = 1)) then 1 else 0)), (3, vi (t : Int)), (2, vi a), (0, vr (some 69)), (1, vi w)]) (tw_s (tw_e 0 rfl (by omega)) (tw_s (tw_g 1 rfl) (tw_s (tw_g 3 rfl) (tw_s (tw_g 4 rfl) (tw_s (tw_g 5 rfl) (tw_s (tw_g 6 rfl) tw_s0)))))) ?_
                  exact ih (r + 1) _ (by omega) (by split <;> omega) hF
theorem l_R_fits {w : Int} (hS : tSt (K, I, Q, n)) (hs : I 70 = s) (hR : RInv s) (w1 : 0 ≤ w ∧ w < 10) : ∀ (k : Nat) (j : Nat) (a : Int), j + k = (s 1).toNat → tw_AW l G mR_fits 3 0 0 n 0 (tw_fn (some (vi (orV (fun t => if rFitN s w (t : Int) (s 3).toNat 0 (if (t : Int) ≠ w then 1 else 0) = 1 then bShl 1 t else 0) k j a))) (K, I, Q, n)) 14 [(3, vi (j : Int)), (2, vi a), (0, vr (some 69)), (1, vi w)] [] (K, I, Q, n) := by
  obtain ⟨h0, h1, h2, h3, h4, h5, h6, hp, hrw, ht, hr, hb, htp, hv⟩ := id hR
  intro k
  induction k with
  | zero =>
    intro j a hj
    refine ar_iloadn (k := 10) rfl rfl ?_
    refine ar_aloadn (k := 11) rfl rfl ?_
    refine br_getR (k := 12) rfl (hS.k (by decide)) flR_9_12 (by decide) rfl (hS.r rfl) ?_
    refine ar_iconst (k := 13) rfl ?_
    refine br_iads (k := 14) rfl (hS.k (by decide)) (by omega) (by omega) (by decide) hs ?_
    refine ar_icmp_ge (k := 15) rfl (by omega) (by omega) (fun c15 => ?_) (fun c15 => ?_)
    · refine ar_iloadn (k := 104) rfl rfl ?_
      refine ar_iret (k := 105) rfl rfl rfl (Nat.le_refl _) ?_
      exact ⟨rfl, rfl⟩
    · exfalso; omega
  | succ k ih =>
    intro j a hj
    refine ar_iloadn (k := 10) rfl rfl ?_
    refine ar_aloadn (k := 11) rfl rfl ?_
    refine br_getR (k := 12) rfl (hS.k (by decide)) flR_9_12 (by decide) rfl (hS.r rfl) ?_
    refine ar_iconst (k := 13) rfl ?_
    refine br_iads (k := 14) rfl (hS.k (by decide)) (by omega) (by omega) (by decide) hs ?_
    refine ar_icmp_ge (k := 15) rfl (by omega) (by omega) (fun c15 => ?_) (fun c15 => ?_)
    · exfalso; omega
    · refine ar_iloadn (k := 16) rfl rfl ?_
      refine ar_iloadn (k := 17) rfl rfl ?_
      refine ar_icmp_eq (k := 18) rfl (by omega) (by omega) (fun c18 => ?_) (fun c18 => ?_)
      · refine ar_iconst (k := 21) rfl ?_
        refine ar_istore (k := 22) (l2 := [(4, _), (3, _), (2, _), (0, _), (1, _)]) rfl (by decide) rfl ?_
        refine ar_iconst (k := 23) rfl ?_
        refine ar_istore (k := 24) (l2 := [(5, _), (4, _), (3, _), (2, _), (0, _), (1, _)]) rfl (by decide) rfl ?_
        refine ar_sub (l2 := [(5, vi ((0 : Nat) : Int)), (4, vi (if (j : Int) ≠ w then 1 else 0)), (3, vi (j : Int)), (2, vi a), (0, vr (some 69)), (1, vi w)]) (tw_s (tw_e 0 rfl (by rfl)) (tw_s (tw_e 1 rfl (by omega)) (tw_s (tw_g 2 rfl) (tw_s (tw_g 3 rfl) (tw_s (tw_g 4 rfl) (tw_s (tw_g 5 rfl) tw_s0)))))) ?_
        refine li_R_fits (t := j) (a := a) (w := w) hS hs hR (F := rFitN s w (j : Int) (s 3).toNat 0 (if (j : Int) ≠ w then 1 else 0)) (by omega) (by omega) ?_ _ 0 _ (by omega) (by omega) rfl
        intro r2
        have h01 := rFitN_01 (s := s) (a := w) (t := (j : Int)) (s 3).toNat 0 (if (j : Int) ≠ w then 1 else 0) (by omega)
        obtain ⟨fv, hfv⟩ : ∃ fv, rFitN s w (j : Int) (s 3).toNat 0 (if (j : Int) ≠ w then 1 else 0) = fv := ⟨_, rfl⟩
        rw [hfv] at h01
        rw [hfv]
        refine ar_iloadn (k := 92) rfl rfl ?_
        refine ar_iload (k := 93) rfl rfl ?_
        refine ar_if_eq (k := 94) rfl (by omega) (fun c94 => ?_) (fun c94 => ?_)
        · refine ar_iconst (k := 99) rfl ?_
          refine tw_top (y := (fun t => if rFitN s w (t : Int) (s 3).toNat 0 (if (t : Int) ≠ w then 1 else 0) = 1 then bShl 1 t else 0) j) (by show _ = (if rFitN s w (j : Int) (s 3).toNat 0 (if (j : Int) ≠ w then 1 else 0) = 1 then _ else _); rw [hfv]; (repeat' split) <;> first | rfl | (exfalso; omega)) ?_
          refine ar_ior (k := 100) rfl ?_
          refine ar_istoren (k := 101) (l2 := [(2, _), (5, _), (4, _), (3, _), (0, _), (1, _)]) rfl (by decide) rfl ?_
          refine ar_iinc (k := 102) (l2 := [(3, _), (2, _), (5, _), (4, _), (0, _), (1, _)]) rfl (by decide) rfl rfl ?_
          refine ar_goto (k := 103) rfl ?_
          refine ar_sub (l2 := [(3, vi ((j + 1 : Nat) : Int)), (2, vi (bOr a ((fun t => if rFitN s w (t : Int) (s 3).toNat 0 (if (t : Int) ≠ w then 1 else 0) = 1 then bShl 1 t else 0) j))), (0, vr (some 69)), (1, vi w)]) (tw_s (tw_e 0 rfl (by omega)) (tw_s (tw_e 1 rfl (by rfl)) (tw_s (tw_g 4 rfl) (tw_s (tw_g 5 rfl) tw_s0)))) ?_
          exact ih (j + 1) _ (by omega)
        · refine ar_iconst (k := 95) rfl ?_
          refine ar_iloadn (k := 96) rfl rfl ?_
          refine ar_ishl (k := 97) rfl ?_
          refine ar_goto (k := 98) rfl ?_
          refine tw_top (y := (fun t => if rFitN s w (t : Int) (s 3).toNat 0 (if (t : Int) ≠ w then 1 else 0) = 1 then bShl 1 t else 0) j) (by show _ = (if rFitN s w (j : Int) (s 3).toNat 0 (if (j : Int) ≠ w then 1 else 0) = 1 then _ else _); rw [hfv]; (repeat' split) <;> first | rfl | (exfalso; omega)) ?_
          refine ar_ior (k := 100) rfl ?_
          refine ar_istoren (k := 101) (l2 := [(2, _), (5, _), (4, _), (3, _), (0, _), (1, _)]) rfl (by decide) rfl ?_
          refine ar_iinc (k := 102) (l2 := [(3, _), (2, _), (5, _), (4, _), (0, _), (1, _)]) rfl (by decide) rfl rfl ?_
          refine ar_goto (k := 103) rfl ?_
          refine ar_sub (l2 := [(3, vi ((j + 1 : Nat) : Int)), (2, vi (bOr a ((fun t => if rFitN s w (t : Int) (s 3).toNat 0 (if (t : Int) ≠ w then 1 else 0) = 1 then bShl 1 t else 0) j))), (0, vr (some 69)), (1, vi w)]) (tw_s (tw_e 0 rfl (by omega)) (tw_s (tw_e 1 rfl (by rfl)) (tw_s (tw_g 4 rfl) (tw_s (tw_g 5 rfl) tw_s0)))) ?_
          exact ih (j + 1) _ (by omega)
      · refine ar_iconst (k := 19) rfl ?_
        refine ar_goto (k := 20) rfl ?_
        refine ar_istore (k := 22) (l2 := [(4, _), (3, _), (2, _), (0, _), (1, _)]) rfl (by decide) rfl ?_
        refine ar_iconst (k := 23) rfl ?_
        refine ar_istore (k := 24) (l2 := [(5, _), (4, _), (3, _), (2, _), (0, _), (1, _)]) rfl (by decide) rfl ?_
        refine ar_sub (l2 := [(5, vi ((0 : Nat) : Int)), (4, vi (if (j : Int) ≠ w then 1 else 0)), (3, vi (j : Int)), (2, vi a), (0, vr (some 69)), (1, vi w)]) (tw_s (tw_e 0 rfl (by rfl)) (tw_s (tw_e 1 rfl (by omega)) (tw_s (tw_g 2 rfl) (tw_s (tw_g 3 rfl) (tw_s (tw_g 4 rfl) (tw_s (tw_g 5 rfl) tw_s0)))))) ?_
        refine li_R_fits (t := j) (a := a) (w := w) hS hs hR (F := rFitN s w (j : Int) (s 3).toNat 0 (if (j : Int) ≠ w then 1 else 0)) (by omega) (by omega) ?_ _ 0 _ (by omega) (by omega) rfl
        intro r2
        have h01 := rFitN_01 (s := s) (a := w) (t := (j : Int)) (s 3).toNat 0 (if (j : Int) ≠ w then 1 else 0) (by omega)
        obtain ⟨fv, hfv⟩ : ∃ fv, rFitN s w (j : Int) (s 3).toNat 0 (if (j : Int) ≠ w then 1 else 0) = fv := ⟨_, rfl⟩
        rw [hfv] at h01
        rw [hfv]
        refine ar_iloadn (k := 92) rfl rfl ?_
        refine ar_iload (k := 93) rfl rfl ?_
        refine ar_if_eq (k := 94) rfl (by omega) (fun c94 => ?_) (fun c94 => ?_)
        · refine ar_iconst (k := 99) rfl ?_
          refine tw_top (y := (fun t => if rFitN s w (t : Int) (s 3).toNat 0 (if (t : Int) ≠ w then 1 else 0) = 1 then bShl 1 t else 0) j) (by show _ = (if rFitN s w (j : Int) (s 3).toNat 0 (if (j : Int) ≠ w then 1 else 0) = 1 then _ else _); rw [hfv]; (repeat' split) <;> first | rfl | (exfalso; omega)) ?_
          refine ar_ior (k := 100) rfl ?_
          refine ar_istoren (k := 101) (l2 := [(2, _), (5, _), (4, _), (3, _), (0, _), (1, _)]) rfl (by decide) rfl ?_
          refine ar_iinc (k := 102) (l2 := [(3, _), (2, _), (5, _), (4, _), (0, _), (1, _)]) rfl (by decide) rfl rfl ?_
          refine ar_goto (k := 103) rfl ?_
          refine ar_sub (l2 := [(3, vi ((j + 1 : Nat) : Int)), (2, vi (bOr a ((fun t => if rFitN s w (t : Int) (s 3).toNat 0 (if (t : Int) ≠ w then 1 else 0) = 1 then bShl 1 t else 0) j))), (0, vr (some 69)), (1, vi w)]) (tw_s (tw_e 0 rfl (by omega)) (tw_s (tw_e 1 rfl (by rfl)) (tw_s (tw_g 4 rfl) (tw_s (tw_g 5 rfl) tw_s0)))) ?_
          exact ih (j + 1) _ (by omega)
        · refine ar_iconst (k := 95) rfl ?_
          refine ar_iloadn (k := 96) rfl rfl ?_
          refine ar_ishl (k := 97) rfl ?_
          refine ar_goto (k := 98) rfl ?_
          refine tw_top (y := (fun t => if rFitN s w (t : Int) (s 3).toNat 0 (if (t : Int) ≠ w then 1 else 0) = 1 then bShl 1 t else 0) j) (by show _ = (if rFitN s w (j : Int) (s 3).toNat 0 (if (j : Int) ≠ w then 1 else 0) = 1 then _ else _); rw [hfv]; (repeat' split) <;> first | rfl | (exfalso; omega)) ?_
          refine ar_ior (k := 100) rfl ?_
          refine ar_istoren (k := 101) (l2 := [(2, _), (5, _), (4, _), (3, _), (0, _), (1, _)]) rfl (by decide) rfl ?_
          refine ar_iinc (k := 102) (l2 := [(3, _), (2, _), (5, _), (4, _), (0, _), (1, _)]) rfl (by decide) rfl rfl ?_
          refine ar_goto (k := 103) rfl ?_
          refine ar_sub (l2 := [(3, vi ((j + 1 : Nat) : Int)), (2, vi (bOr a ((fun t => if rFitN s w (t : Int) (s 3).toNat 0 (if (t : Int) ≠ w then 1 else 0) = 1 then bShl 1 t else 0) j))), (0, vr (some 69)), (1, vi w)]) (tw_s (tw_e 0 rfl (by omega)) (tw_s (tw_e 1 rfl (by rfl)) (tw_s (tw_g 4 rfl) (tw_s (tw_g 5 rfl) tw_s0)))) ?_
          exact ih (j + 1) _ (by omega)
theorem c_R_fits {w : Int} (hS : tSt (K, I, Q, n)) (hs : I 70 = s) (hR : RInv s) (tw : tr w) : tw_F l G 3 0 0 mR_fits [vr (some 69), vi w] (K, I, Q, n) (some (vi (if 0 ≤ w ∧ w ≤ s 1 - 1 then rFits s w else -1))) (K, I, Q, n) := by
  obtain ⟨h0, h1, h2, h3, h4, h5, h6, hp, hrw, ht, hr, hb, htp, hv⟩ := id hR
  refine tw_intro okR_fits (Nat.le_of_ble_eq_true rfl) ?_
  refine ar_aloadn (k := 0) rfl rfl ?_
  refine ar_iloadn (k := 1) rfl rfl ?_
  refine br_callV (k := 2) (as := [_]) rfl lvR_120 (hS.k (by decide)) rfl (c_S_isTool hS hs (by omega) h1) rfl (by decide) (by decide) tw_m0 (Nat.le_of_ble_eq_true rfl) ?_
  refine ar_if_ne (k := 3) rfl (by omega) (fun c3 => ?_) (fun c3 => ?_)
  · refine ar_iconst (k := 6) rfl ?_
    refine ar_istoren (k := 7) (l2 := [(2, _), (0, _), (1, _)]) rfl (by decide) rfl ?_
    refine ar_iconst (k := 8) rfl ?_
    refine ar_istoren (k := 9) (l2 := [(3, _), (2, _), (0, _), (1, _)]) rfl (by decide) rfl ?_
    refine ar_sub (l2 := [(3, vi ((0 : Nat) : Int)), (2, vi 0), (0, vr (some 69)), (1, vi w)]) (tw_s (tw_e 0 rfl (by rfl)) (tw_s (tw_g 1 rfl) (tw_s (tw_g 2 rfl) (tw_s (tw_g 3 rfl) tw_s0)))) ?_
    rw [if_pos (by omega)]
    exact l_R_fits hS hs hR (by omega) _ 0 0 (by omega)
  · refine ar_iconst (k := 4) rfl ?_
    refine ar_iret (k := 5) rfl rfl rfl (Nat.le_refl _) ?_
    exact ⟨congrArg (fun z => some (vi z)) (by omega), rfl⟩
theorem l_R_looked (hS : tSt (K, I, Q, n)) (hR : RInv s) (hV : RVal s) : ∀ (k : Nat) (j : Nat) (J : Nat → Int → Int), j + k = (s 4).toNat → J 70 = s → rk I J → tw_AW l G mR_looked 6 0 0 n 0 (fun r h' => r = some (vi (fstD (-5) (fun r => decide (¬ rGoP s (s (162 + (r : Int))) (rWork s (s (150 + (r : Int)))))) k j)) ∧ ∃ L, h' = (K, L, Q, n) ∧ rk I L) 2 [(1, vi (j : Int)), (0, vr (some 69))] [] (K, J, Q, n) := by
  obtain ⟨h0, h1, h2, h3, h4, h5, h6, hp, hrw, ht, hr, hb, htp, hv⟩ := id hR
  intro k
  induction k with
  | zero =>
    intro j J hj hs hk
    refine ar_iloadn (k := 2) rfl rfl ?_
    refine ar_aloadn (k := 3) rfl rfl ?_
    refine br_getR (k := 4) rfl (hS.k (by decide)) flR_9_12 (by decide) rfl (hS.r rfl) ?_
    refine ar_iconst (k := 5) rfl ?_
    refine br_iads (k := 6) rfl (hS.k (by decide)) (by omega) (by omega) (by decide) hs ?_
    refine ar_icmp_ge (k := 7) rfl (by omega) (by omega) (fun c7 => ?_) (fun c7 => ?_)
    · refine ar_bipush (k := 29) rfl (by decide) ?_
      refine ar_iret (k := 30) rfl rfl rfl (Nat.le_refl _) ?_
      exact ⟨rfl, J, rfl, hk⟩
    · exfalso; omega
  | succ k ih =>
    intro j J hj hs hk
    refine ar_iloadn (k := 2) rfl rfl ?_
    refine ar_aloadn (k := 3) rfl rfl ?_
    refine br_getR (k := 4) rfl (hS.k (by decide)) flR_9_12 (by decide) rfl (hS.r rfl) ?_
    refine ar_iconst (k := 5) rfl ?_
    refine br_iads (k := 6) rfl (hS.k (by decide)) (by omega) (by omega) (by decide) hs ?_
    refine ar_icmp_ge (k := 7) rfl (by omega) (by omega) (fun c7 => ?_) (fun c7 => ?_)
    · exfalso; omega
    · have hw := hb j (by omega) (by omega)
      refine ar_aloadn (k := 8) rfl rfl ?_
      refine ar_aloadn (k := 9) rfl rfl ?_
      refine br_getR (k := 10) rfl (hS.k (by decide)) flR_9_12 (by decide) rfl (hS.r rfl) ?_
      refine ar_sipush (k := 11) rfl (by decide) ?_
      refine ar_iloadn (k := 12) rfl rfl ?_
      refine ar_iadd (k := 13) rfl ?_
      refine br_iads (k := 14) rfl (hS.k (by decide)) (by omega) (by omega) (by decide) hs ?_
      refine ar_aloadn (k := 15) rfl rfl ?_
      refine ar_aloadn (k := 16) rfl rfl ?_
      refine br_getR (k := 17) rfl (hS.k (by decide)) flR_9_12 (by decide) rfl (hS.r rfl) ?_
      refine ar_sipush (k := 18) rfl (by decide) ?_
      refine ar_iloadn (k := 19) rfl rfl ?_
      refine ar_iadd (k := 20) rfl ?_
      refine br_iads (k := 21) rfl (hS.k (by decide)) (by omega) (by omega) (by decide) hs ?_
      refine br_callVR (k := 22) (as := [_]) rfl lvR_160 (hS.k (by decide)) rfl (c_R_workedAt hS hs hR hV (by omega)) rfl (by decide) (by decide) tw_m0 (Nat.le_of_ble_eq_true rfl) (fun I22 q22 => ?_)
      have hs22 : I22 70 = s := q22.s.trans hs
      have hk22 := rk.trans hk q22
      refine br_callV (k := 23) (as := [_, _]) rfl lvR_163 (hS.k (by decide)) rfl (c_R_doesGo hS hs22 hR (by omega)) rfl (by decide) (by decide) tw_m0 (Nat.le_of_ble_eq_true rfl) ?_
      refine ar_if_ne (k := 24) rfl (by omega) (fun c24 => ?_) (fun c24 => ?_)
      · refine ar_iinc (k := 27) (l2 := [(1, _), (0, _)]) rfl (by decide) rfl rfl ?_
        refine ar_goto (k := 28) rfl ?_
        refine ar_sub (l2 := [(1, vi ((j + 1 : Nat) : Int)), (0, vr (some 69))]) (tw_s (tw_e 0 rfl (by omega)) (tw_s (tw_g 1 rfl) tw_s0)) ?_
        rw [show fstD (-5) (fun r => decide (¬ rGoP s (s (162 + (r : Int))) (rWork s (s (150 + (r : Int)))))) (k + 1) j = fstD (-5) (fun r => decide (¬ rGoP s (s (162 + (r : Int))) (rWork s (s (150 + (r : Int)))))) k (j + 1) by rw [fstD, if_neg (by simp only [decide_eq_true_eq]; omega)]]
        exact ih (j + 1) I22 (by omega) hs22 hk22
      · refine ar_iloadn (k := 25) rfl rfl ?_
        refine ar_iret (k := 26) rfl rfl rfl (Nat.le_refl _) ?_
        refine ⟨congrArg (fun z => some (vi z)) ?_, I22, rfl, hk22⟩
        rw [fstD, if_pos (by simp only [decide_eq_true_eq]; omega)]
theorem c_R_looked (hS : tSt (K, I, Q, n)) (hs : I 70 = s) (hR : RInv s) (hV : RVal s) : tw_R l G 6 mR_looked [vr (some 69)] K I Q n (some (vi (rLook s))) := by
  obtain ⟨h0, h1, h2, h3, h4, h5, h6, hp, hrw, ht, hr, hb, htp, hv⟩ := id hR
  refine tw_intro okR_looked (Nat.le_of_ble_eq_true rfl) ?_
  refine ar_iconst (k := 0) rfl ?_
  refine ar_istoren (k := 1) (l2 := [(1, _), (0, _)]) rfl (by decide) rfl ?_
  refine ar_sub (l2 := [(1, vi ((0 : Nat) : Int)), (0, vr (some 69))]) (tw_s (tw_e 0 rfl (by rfl)) (tw_s (tw_g 1 rfl) tw_s0)) ?_
  exact l_R_looked (I := I) hS hR hV _ 0 I (by omega) hs rk.rf
end RK
end
