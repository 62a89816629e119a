-- ===== PART A: goes FIRST, ahead of the names: the tables' words, and 'selects' of the private methods out of them =====
/-- a private method of a class that the tables say can be made, by its rows of tables_1 -/
def lw_okq (q : MethodName × Nat) : Prop := (q.1.cls ≠ "java/lang/invoke/MethodHandle" ∧ q.1.cls ≠ "java/lang/invoke/VarHandle") ∧ Cond.instantiable q.1.cls q.2 ∈ tables_1 ∧ Cond.privateMethod q.1 ∈ tables_1 ∧ Cond.instanceMethod q.1 ∈ tables_1
theorem lw_p0 : lw_okq (⟨"PoleRiver$Thinker", "shareOut", "([J)Z"⟩, 1) := ⟨⟨by decide +kernel, by decide +kernel⟩, List.mem_of_getElem? (i := 347) (by decide +kernel), List.mem_of_getElem? (i := 526) (by decide +kernel), List.mem_of_getElem? (i := 527) (by decide +kernel)⟩
theorem lw_p1 : lw_okq (⟨"PoleRiver", "refuse", "(I)Z"⟩, 19) := ⟨⟨by decide +kernel, by decide +kernel⟩, List.mem_of_getElem? (i := 23) (by decide +kernel), List.mem_of_getElem? (i := 608) (by decide +kernel), List.mem_of_getElem? (i := 609) (by decide +kernel)⟩
theorem lw_p2 : lw_okq (⟨"PoleRiver", "agree", "()Z"⟩, 19) := ⟨⟨by decide +kernel, by decide +kernel⟩, List.mem_of_getElem? (i := 23) (by decide +kernel), List.mem_of_getElem? (i := 617) (by decide +kernel), List.mem_of_getElem? (i := 618) (by decide +kernel)⟩
theorem lw_p3 : lw_okq (⟨"PoleRiver", "placeStatus", "(II)I"⟩, 19) := ⟨⟨by decide +kernel, by decide +kernel⟩, List.mem_of_getElem? (i := 23) (by decide +kernel), List.mem_of_getElem? (i := 625) (by decide +kernel), List.mem_of_getElem? (i := 626) (by decide +kernel)⟩
theorem lw_p4 : lw_okq (⟨"PoleRiver", "fail", "(I)I"⟩, 19) := ⟨⟨by decide +kernel, by decide +kernel⟩, List.mem_of_getElem? (i := 23) (by decide +kernel), List.mem_of_getElem? (i := 641) (by decide +kernel), List.mem_of_getElem? (i := 642) (by decide +kernel)⟩
theorem lw_p5 : lw_okq (⟨"PoleRiver$RiverReader", "takeSize", "()Z"⟩, 7) := ⟨⟨by decide +kernel, by decide +kernel⟩, List.mem_of_getElem? (i := 297) (by decide +kernel), List.mem_of_getElem? (i := 685) (by decide +kernel), List.mem_of_getElem? (i := 686) (by decide +kernel)⟩
theorem lw_p6 : lw_okq (⟨"PoleRiver$RiverReader", "takePart", "()Z"⟩, 7) := ⟨⟨by decide +kernel, by decide +kernel⟩, List.mem_of_getElem? (i := 297) (by decide +kernel), List.mem_of_getElem? (i := 771) (by decide +kernel), List.mem_of_getElem? (i := 772) (by decide +kernel)⟩
theorem lw_p7 : lw_okq (⟨"PoleRiver$RiverReader", "takeRow", "()Z"⟩, 7) := ⟨⟨by decide +kernel, by decide +kernel⟩, List.mem_of_getElem? (i := 297) (by decide +kernel), List.mem_of_getElem? (i := 777) (by decide +kernel), List.mem_of_getElem? (i := 778) (by decide +kernel)⟩
theorem lw_p8 : lw_okq (⟨"PoleRiver$RiverReader", "takeBar", "()Z"⟩, 7) := ⟨⟨by decide +kernel, by decide +kernel⟩, List.mem_of_getElem? (i := 297) (by decide +kernel), List.mem_of_getElem? (i := 785) (by decide +kernel), List.mem_of_getElem? (i := 786) (by decide +kernel)⟩
theorem lw_p9 : lw_okq (⟨"PoleRiver$Text", "isReserved", "()Z"⟩, 11) := ⟨⟨by decide +kernel, by decide +kernel⟩, List.mem_of_getElem? (i := 246) (by decide +kernel), List.mem_of_getElem? (i := 793) (by decide +kernel), List.mem_of_getElem? (i := 794) (by decide +kernel)⟩
theorem lw_p10 : lw_okq (⟨"PoleRiver$RiverReader", "takeAt", "()Z"⟩, 7) := ⟨⟨by decide +kernel, by decide +kernel⟩, List.mem_of_getElem? (i := 297) (by decide +kernel), List.mem_of_getElem? (i := 807) (by decide +kernel), List.mem_of_getElem? (i := 808) (by decide +kernel)⟩
theorem lw_p11 : lw_okq (⟨"PoleRiver$RiverReader", "giveCells", "(IIIII)Z"⟩, 7) := ⟨⟨by decide +kernel, by decide +kernel⟩, List.mem_of_getElem? (i := 297) (by decide +kernel), List.mem_of_getElem? (i := 812) (by decide +kernel), List.mem_of_getElem? (i := 813) (by decide +kernel)⟩
theorem lw_p12 : lw_okq (⟨"PoleRiver$RiverReader", "takeStage", "()Z"⟩, 7) := ⟨⟨by decide +kernel, by decide +kernel⟩, List.mem_of_getElem? (i := 297) (by decide +kernel), List.mem_of_getElem? (i := 817) (by decide +kernel), List.mem_of_getElem? (i := 818) (by decide +kernel)⟩
theorem lw_p13 : lw_okq (⟨"PoleRiver$RiverReader", "takeBoat", "()Z"⟩, 7) := ⟨⟨by decide +kernel, by decide +kernel⟩, List.mem_of_getElem? (i := 297) (by decide +kernel), List.mem_of_getElem? (i := 823) (by decide +kernel), List.mem_of_getElem? (i := 824) (by decide +kernel)⟩
theorem lw_p14 : lw_okq (⟨"PoleRiver$RiverReader", "takePole", "()Z"⟩, 7) := ⟨⟨by decide +kernel, by decide +kernel⟩, List.mem_of_getElem? (i := 297) (by decide +kernel), List.mem_of_getElem? (i := 837) (by decide +kernel), List.mem_of_getElem? (i := 838) (by decide +kernel)⟩
theorem lw_p15 : lw_okq (⟨"PoleRiver$RiverReader", "takeColour", "()Z"⟩, 7) := ⟨⟨by decide +kernel, by decide +kernel⟩, List.mem_of_getElem? (i := 297) (by decide +kernel), List.mem_of_getElem? (i := 842) (by decide +kernel), List.mem_of_getElem? (i := 843) (by decide +kernel)⟩
def lw_privs_1 : List (MethodName × Nat) := [(⟨"PoleRiver$Thinker", "shareOut", "([J)Z"⟩, 1), (⟨"PoleRiver", "refuse", "(I)Z"⟩, 19), (⟨"PoleRiver", "agree", "()Z"⟩, 19), (⟨"PoleRiver", "placeStatus", "(II)I"⟩, 19), (⟨"PoleRiver", "fail", "(I)I"⟩, 19), (⟨"PoleRiver$RiverReader", "takeSize", "()Z"⟩, 7), (⟨"PoleRiver$RiverReader", "takePart", "()Z"⟩, 7), (⟨"PoleRiver$RiverReader", "takeRow", "()Z"⟩, 7), (⟨"PoleRiver$RiverReader", "takeBar", "()Z"⟩, 7), (⟨"PoleRiver$Text", "isReserved", "()Z"⟩, 11), (⟨"PoleRiver$RiverReader", "takeAt", "()Z"⟩, 7), (⟨"PoleRiver$RiverReader", "giveCells", "(IIIII)Z"⟩, 7), (⟨"PoleRiver$RiverReader", "takeStage", "()Z"⟩, 7), (⟨"PoleRiver$RiverReader", "takeBoat", "()Z"⟩, 7), (⟨"PoleRiver$RiverReader", "takePole", "()Z"⟩, 7), (⟨"PoleRiver$RiverReader", "takeColour", "()Z"⟩, 7)]
theorem lw_r1 : ∀ q ∈ lw_privs_1, lw_okq q := List.forall_mem_cons.mpr ⟨lw_p0, List.forall_mem_cons.mpr ⟨lw_p1, List.forall_mem_cons.mpr ⟨lw_p2, List.forall_mem_cons.mpr ⟨lw_p3, List.forall_mem_cons.mpr ⟨lw_p4, List.forall_mem_cons.mpr ⟨lw_p5, List.forall_mem_cons.mpr ⟨lw_p6, List.forall_mem_cons.mpr ⟨lw_p7, List.forall_mem_cons.mpr ⟨lw_p8, List.forall_mem_cons.mpr ⟨lw_p9, List.forall_mem_cons.mpr ⟨lw_p10, List.forall_mem_cons.mpr ⟨lw_p11, List.forall_mem_cons.mpr ⟨lw_p12, List.forall_mem_cons.mpr ⟨lw_p13, List.forall_mem_cons.mpr ⟨lw_p14, List.forall_mem_cons.mpr ⟨lw_p15, fun _ h => absurd h List.not_mem_nil⟩⟩⟩⟩⟩⟩⟩⟩⟩⟩⟩⟩⟩⟩⟩⟩
theorem lw_p16 : lw_okq (⟨"PoleRiver", "startAfresh", "()V"⟩, 19) := ⟨⟨by decide +kernel, by decide +kernel⟩, List.mem_of_getElem? (i := 23) (by decide +kernel), List.mem_of_getElem? (i := 847) (by decide +kernel), List.mem_of_getElem? (i := 848) (by decide +kernel)⟩
theorem lw_p17 : lw_okq (⟨"PoleRiver", "answer", "(I)I"⟩, 19) := ⟨⟨by decide +kernel, by decide +kernel⟩, List.mem_of_getElem? (i := 23) (by decide +kernel), List.mem_of_getElem? (i := 855) (by decide +kernel), List.mem_of_getElem? (i := 856) (by decide +kernel)⟩
theorem lw_p18 : lw_okq (⟨"PoleRiver$RuleReader", "takeEnd", "()Z"⟩, 5) := ⟨⟨by decide +kernel, by decide +kernel⟩, List.mem_of_getElem? (i := 325) (by decide +kernel), List.mem_of_getElem? (i := 870) (by decide +kernel), List.mem_of_getElem? (i := 871) (by decide +kernel)⟩
theorem lw_p19 : lw_okq (⟨"PoleRiver$RuleReader", "takeStep", "()Z"⟩, 5) := ⟨⟨by decide +kernel, by decide +kernel⟩, List.mem_of_getElem? (i := 325) (by decide +kernel), List.mem_of_getElem? (i := 881) (by decide +kernel), List.mem_of_getElem? (i := 882) (by decide +kernel)⟩
theorem lw_p20 : lw_okq (⟨"PoleRiver$RuleReader", "wordOfStep", "()I"⟩, 5) := ⟨⟨by decide +kernel, by decide +kernel⟩, List.mem_of_getElem? (i := 325) (by decide +kernel), List.mem_of_getElem? (i := 885) (by decide +kernel), List.mem_of_getElem? (i := 886) (by decide +kernel)⟩
theorem lw_p21 : lw_okq (⟨"PoleRiver$RuleReader", "takeRest", "(II)Z"⟩, 5) := ⟨⟨by decide +kernel, by decide +kernel⟩, List.mem_of_getElem? (i := 325) (by decide +kernel), List.mem_of_getElem? (i := 898) (by decide +kernel), List.mem_of_getElem? (i := 899) (by decide +kernel)⟩
theorem lw_p22 : lw_okq (⟨"PoleRiver$RuleReader", "takeBarName", "(I)Z"⟩, 5) := ⟨⟨by decide +kernel, by decide +kernel⟩, List.mem_of_getElem? (i := 325) (by decide +kernel), List.mem_of_getElem? (i := 902) (by decide +kernel), List.mem_of_getElem? (i := 903) (by decide +kernel)⟩
theorem lw_p23 : lw_okq (⟨"PoleRiver$RuleReader", "takeCount", "(III)Z"⟩, 5) := ⟨⟨by decide +kernel, by decide +kernel⟩, List.mem_of_getElem? (i := 325) (by decide +kernel), List.mem_of_getElem? (i := 908) (by decide +kernel), List.mem_of_getElem? (i := 909) (by decide +kernel)⟩
theorem lw_p24 : lw_okq (⟨"PoleRiver$RuleReader", "takeWhat", "(I)Z"⟩, 5) := ⟨⟨by decide +kernel, by decide +kernel⟩, List.mem_of_getElem? (i := 325) (by decide +kernel), List.mem_of_getElem? (i := 913) (by decide +kernel), List.mem_of_getElem? (i := 914) (by decide +kernel)⟩
theorem lw_p25 : lw_okq (⟨"PoleRiver", "isBar", "(I)Z"⟩, 19) := ⟨⟨by decide +kernel, by decide +kernel⟩, List.mem_of_getElem? (i := 23) (by decide +kernel), List.mem_of_getElem? (i := 932) (by decide +kernel), List.mem_of_getElem? (i := 933) (by decide +kernel)⟩
theorem lw_p26 : lw_okq (⟨"PoleRiver", "isCell", "(I)Z"⟩, 19) := ⟨⟨by decide +kernel, by decide +kernel⟩, List.mem_of_getElem? (i := 23) (by decide +kernel), List.mem_of_getElem? (i := 945) (by decide +kernel), List.mem_of_getElem? (i := 946) (by decide +kernel)⟩
theorem lw_p27 : lw_okq (⟨"PoleRiver", "isSet", "(I)Z"⟩, 19) := ⟨⟨by decide +kernel, by decide +kernel⟩, List.mem_of_getElem? (i := 23) (by decide +kernel), List.mem_of_getElem? (i := 961) (by decide +kernel), List.mem_of_getElem? (i := 962) (by decide +kernel)⟩
theorem lw_p28 : lw_okq (⟨"PoleRiver", "tellFraction", "(JJ)Z"⟩, 19) := ⟨⟨by decide +kernel, by decide +kernel⟩, List.mem_of_getElem? (i := 23) (by decide +kernel), List.mem_of_getElem? (i := 1000) (by decide +kernel), List.mem_of_getElem? (i := 1001) (by decide +kernel)⟩
theorem lw_p29 : lw_okq (⟨"PoleRiver", "wayStatus", "(III)I"⟩, 19) := ⟨⟨by decide +kernel, by decide +kernel⟩, List.mem_of_getElem? (i := 23) (by decide +kernel), List.mem_of_getElem? (i := 1061) (by decide +kernel), List.mem_of_getElem? (i := 1062) (by decide +kernel)⟩
theorem lw_p30 : lw_okq (⟨"PoleRiver$Ground", "hasWayByLess", "(I)Z"⟩, 19) := ⟨⟨by decide +kernel, by decide +kernel⟩, List.mem_of_getElem? (i := 357) (by decide +kernel), List.mem_of_getElem? (i := 1114) (by decide +kernel), List.mem_of_getElem? (i := 1115) (by decide +kernel)⟩
theorem lw_p31 : lw_okq (⟨"PoleRiver$Ground", "cellsBy", "(I)J"⟩, 19) := ⟨⟨by decide +kernel, by decide +kernel⟩, List.mem_of_getElem? (i := 357) (by decide +kernel), List.mem_of_getElem? (i := 1118) (by decide +kernel), List.mem_of_getElem? (i := 1119) (by decide +kernel)⟩
def lw_privs_2 : List (MethodName × Nat) := [(⟨"PoleRiver", "startAfresh", "()V"⟩, 19), (⟨"PoleRiver", "answer", "(I)I"⟩, 19), (⟨"PoleRiver$RuleReader", "takeEnd", "()Z"⟩, 5), (⟨"PoleRiver$RuleReader", "takeStep", "()Z"⟩, 5), (⟨"PoleRiver$RuleReader", "wordOfStep", "()I"⟩, 5), (⟨"PoleRiver$RuleReader", "takeRest", "(II)Z"⟩, 5), (⟨"PoleRiver$RuleReader", "takeBarName", "(I)Z"⟩, 5), (⟨"PoleRiver$RuleReader", "takeCount", "(III)Z"⟩, 5), (⟨"PoleRiver$RuleReader", "takeWhat", "(I)Z"⟩, 5), (⟨"PoleRiver", "isBar", "(I)Z"⟩, 19), (⟨"PoleRiver", "isCell", "(I)Z"⟩, 19), (⟨"PoleRiver", "isSet", "(I)Z"⟩, 19), (⟨"PoleRiver", "tellFraction", "(JJ)Z"⟩, 19), (⟨"PoleRiver", "wayStatus", "(III)I"⟩, 19), (⟨"PoleRiver$Ground", "hasWayByLess", "(I)Z"⟩, 19), (⟨"PoleRiver$Ground", "cellsBy", "(I)J"⟩, 19)]
theorem lw_r2 : ∀ q ∈ lw_privs_2, lw_okq q := List.forall_mem_cons.mpr ⟨lw_p16, List.forall_mem_cons.mpr ⟨lw_p17, List.forall_mem_cons.mpr ⟨lw_p18, List.forall_mem_cons.mpr ⟨lw_p19, List.forall_mem_cons.mpr ⟨lw_p20, List.forall_mem_cons.mpr ⟨lw_p21, List.forall_mem_cons.mpr ⟨lw_p22, List.forall_mem_cons.mpr ⟨lw_p23, List.forall_mem_cons.mpr ⟨lw_p24, List.forall_mem_cons.mpr ⟨lw_p25, List.forall_mem_cons.mpr ⟨lw_p26, List.forall_mem_cons.mpr ⟨lw_p27, List.forall_mem_cons.mpr ⟨lw_p28, List.forall_mem_cons.mpr ⟨lw_p29, List.forall_mem_cons.mpr ⟨lw_p30, List.forall_mem_cons.mpr ⟨lw_p31, fun _ h => absurd h List.not_mem_nil⟩⟩⟩⟩⟩⟩⟩⟩⟩⟩⟩⟩⟩⟩⟩⟩
theorem lw_p32 : lw_okq (⟨"PoleRiver$Ground", "reaches", "(J)Z"⟩, 19) := ⟨⟨by decide +kernel, by decide +kernel⟩, List.mem_of_getElem? (i := 357) (by decide +kernel), List.mem_of_getElem? (i := 1122) (by decide +kernel), List.mem_of_getElem? (i := 1123) (by decide +kernel)⟩
theorem lw_p33 : lw_okq (⟨"PoleRiver$Ground", "spread", "(J)J"⟩, 19) := ⟨⟨by decide +kernel, by decide +kernel⟩, List.mem_of_getElem? (i := 357) (by decide +kernel), List.mem_of_getElem? (i := 1126) (by decide +kernel), List.mem_of_getElem? (i := 1127) (by decide +kernel)⟩
theorem lw_p34 : lw_okq (⟨"PoleRiver$Ground", "settle", "(I)Z"⟩, 19) := ⟨⟨by decide +kernel, by decide +kernel⟩, List.mem_of_getElem? (i := 357) (by decide +kernel), List.mem_of_getElem? (i := 1141) (by decide +kernel), List.mem_of_getElem? (i := 1142) (by decide +kernel)⟩
theorem lw_p35 : lw_okq (⟨"PoleRiver$Ground", "minutesBy", "(II)I"⟩, 19) := ⟨⟨by decide +kernel, by decide +kernel⟩, List.mem_of_getElem? (i := 357) (by decide +kernel), List.mem_of_getElem? (i := 1145) (by decide +kernel), List.mem_of_getElem? (i := 1146) (by decide +kernel)⟩
theorem lw_p36 : lw_okq (⟨"PoleRiver$Ground", "soonestHeading", "(II)I"⟩, 19) := ⟨⟨by decide +kernel, by decide +kernel⟩, List.mem_of_getElem? (i := 357) (by decide +kernel), List.mem_of_getElem? (i := 1152) (by decide +kernel), List.mem_of_getElem? (i := 1153) (by decide +kernel)⟩
theorem lw_p37 : lw_okq (⟨"PoleRiver", "choiceStatus", "(II)I"⟩, 19) := ⟨⟨by decide +kernel, by decide +kernel⟩, List.mem_of_getElem? (i := 23) (by decide +kernel), List.mem_of_getElem? (i := 1162) (by decide +kernel), List.mem_of_getElem? (i := 1163) (by decide +kernel)⟩
theorem lw_p38 : lw_okq (⟨"PoleRiver$Ground", "sumUp", "([J)V"⟩, 19) := ⟨⟨by decide +kernel, by decide +kernel⟩, List.mem_of_getElem? (i := 357) (by decide +kernel), List.mem_of_getElem? (i := 1174) (by decide +kernel), List.mem_of_getElem? (i := 1175) (by decide +kernel)⟩
theorem lw_p39 : lw_okq (⟨"PoleRiver$Ground", "sumWithout", "(I)J"⟩, 19) := ⟨⟨by decide +kernel, by decide +kernel⟩, List.mem_of_getElem? (i := 357) (by decide +kernel), List.mem_of_getElem? (i := 1179) (by decide +kernel), List.mem_of_getElem? (i := 1180) (by decide +kernel)⟩
theorem lw_p40 : lw_okq (⟨"PoleRiver$Ground", "likelyThere", "(I)J"⟩, 19) := ⟨⟨by decide +kernel, by decide +kernel⟩, List.mem_of_getElem? (i := 357) (by decide +kernel), List.mem_of_getElem? (i := 1195) (by decide +kernel), List.mem_of_getElem? (i := 1196) (by decide +kernel)⟩
theorem lw_p41 : lw_okq (⟨"PoleRiver$Scout", "worthOf", "(I)J"⟩, 5) := ⟨⟨by decide +kernel, by decide +kernel⟩, List.mem_of_getElem? (i := 429) (by decide +kernel), List.mem_of_getElem? (i := 1217) (by decide +kernel), List.mem_of_getElem? (i := 1218) (by decide +kernel)⟩
theorem lw_p42 : lw_okq (⟨"PoleRiver$Scout", "worthAt", "(II)J"⟩, 5) := ⟨⟨by decide +kernel, by decide +kernel⟩, List.mem_of_getElem? (i := 429) (by decide +kernel), List.mem_of_getElem? (i := 1225) (by decide +kernel), List.mem_of_getElem? (i := 1226) (by decide +kernel)⟩
theorem lw_p43 : lw_okq (⟨"PoleRiver$Scout", "worthBehind", "(IIII)J"⟩, 5) := ⟨⟨by decide +kernel, by decide +kernel⟩, List.mem_of_getElem? (i := 429) (by decide +kernel), List.mem_of_getElem? (i := 1231) (by decide +kernel), List.mem_of_getElem? (i := 1232) (by decide +kernel)⟩
theorem lw_p44 : lw_okq (⟨"PoleRiver", "partsMarked", "(I)J"⟩, 19) := ⟨⟨by decide +kernel, by decide +kernel⟩, List.mem_of_getElem? (i := 23) (by decide +kernel), List.mem_of_getElem? (i := 1267) (by decide +kernel), List.mem_of_getElem? (i := 1268) (by decide +kernel)⟩
theorem lw_p45 : lw_okq (⟨"PoleRiver", "partsDredged", "(I)J"⟩, 19) := ⟨⟨by decide +kernel, by decide +kernel⟩, List.mem_of_getElem? (i := 23) (by decide +kernel), List.mem_of_getElem? (i := 1279) (by decide +kernel), List.mem_of_getElem? (i := 1280) (by decide +kernel)⟩
theorem lw_p46 : lw_okq (⟨"PoleRiver$Game", "drawTruth", "()I"⟩, 12) := ⟨⟨by decide +kernel, by decide +kernel⟩, List.mem_of_getElem? (i := 453) (by decide +kernel), List.mem_of_getElem? (i := 1302) (by decide +kernel), List.mem_of_getElem? (i := 1303) (by decide +kernel)⟩
theorem lw_p47 : lw_okq (⟨"PoleRiver$Game", "draw", "(I)I"⟩, 12) := ⟨⟨by decide +kernel, by decide +kernel⟩, List.mem_of_getElem? (i := 453) (by decide +kernel), List.mem_of_getElem? (i := 1306) (by decide +kernel), List.mem_of_getElem? (i := 1307) (by decide +kernel)⟩
def lw_privs_3 : List (MethodName × Nat) := [(⟨"PoleRiver$Ground", "reaches", "(J)Z"⟩, 19), (⟨"PoleRiver$Ground", "spread", "(J)J"⟩, 19), (⟨"PoleRiver$Ground", "settle", "(I)Z"⟩, 19), (⟨"PoleRiver$Ground", "minutesBy", "(II)I"⟩, 19), (⟨"PoleRiver$Ground", "soonestHeading", "(II)I"⟩, 19), (⟨"PoleRiver", "choiceStatus", "(II)I"⟩, 19), (⟨"PoleRiver$Ground", "sumUp", "([J)V"⟩, 19), (⟨"PoleRiver$Ground", "sumWithout", "(I)J"⟩, 19), (⟨"PoleRiver$Ground", "likelyThere", "(I)J"⟩, 19), (⟨"PoleRiver$Scout", "worthOf", "(I)J"⟩, 5), (⟨"PoleRiver$Scout", "worthAt", "(II)J"⟩, 5), (⟨"PoleRiver$Scout", "worthBehind", "(IIII)J"⟩, 5), (⟨"PoleRiver", "partsMarked", "(I)J"⟩, 19), (⟨"PoleRiver", "partsDredged", "(I)J"⟩, 19), (⟨"PoleRiver$Game", "drawTruth", "()I"⟩, 12), (⟨"PoleRiver$Game", "draw", "(I)I"⟩, 12)]
theorem lw_r3 : ∀ q ∈ lw_privs_3, lw_okq q := List.forall_mem_cons.mpr ⟨lw_p32, List.forall_mem_cons.mpr ⟨lw_p33, List.forall_mem_cons.mpr ⟨lw_p34, List.forall_mem_cons.mpr ⟨lw_p35, List.forall_mem_cons.mpr ⟨lw_p36, List.forall_mem_cons.mpr ⟨lw_p37, List.forall_mem_cons.mpr ⟨lw_p38, List.forall_mem_cons.mpr ⟨lw_p39, List.forall_mem_cons.mpr ⟨lw_p40, List.forall_mem_cons.mpr ⟨lw_p41, List.forall_mem_cons.mpr ⟨lw_p42, List.forall_mem_cons.mpr ⟨lw_p43, List.forall_mem_cons.mpr ⟨lw_p44, List.forall_mem_cons.mpr ⟨lw_p45, List.forall_mem_cons.mpr ⟨lw_p46, List.forall_mem_cons.mpr ⟨lw_p47, fun _ h => absurd h List.not_mem_nil⟩⟩⟩⟩⟩⟩⟩⟩⟩⟩⟩⟩⟩⟩⟩⟩
theorem lw_p48 : lw_okq (⟨"PoleRiver$Game", "lineBehindEnd", "(I)I"⟩, 12) := ⟨⟨by decide +kernel, by decide +kernel⟩, List.mem_of_getElem? (i := 453) (by decide +kernel), List.mem_of_getElem? (i := 1319) (by decide +kernel), List.mem_of_getElem? (i := 1320) (by decide +kernel)⟩
theorem lw_p49 : lw_okq (⟨"PoleRiver$Game", "goThrough", "()I"⟩, 12) := ⟨⟨by decide +kernel, by decide +kernel⟩, List.mem_of_getElem? (i := 453) (by decide +kernel), List.mem_of_getElem? (i := 1323) (by decide +kernel), List.mem_of_getElem? (i := 1324) (by decide +kernel)⟩
theorem lw_p50 : lw_okq (⟨"PoleRiver$Game", "doStep", "(I)I"⟩, 12) := ⟨⟨by decide +kernel, by decide +kernel⟩, List.mem_of_getElem? (i := 453) (by decide +kernel), List.mem_of_getElem? (i := 1331) (by decide +kernel), List.mem_of_getElem? (i := 1332) (by decide +kernel)⟩
theorem lw_p51 : lw_okq (⟨"PoleRiver$Game", "takeSounding", "(I)V"⟩, 12) := ⟨⟨by decide +kernel, by decide +kernel⟩, List.mem_of_getElem? (i := 453) (by decide +kernel), List.mem_of_getElem? (i := 1335) (by decide +kernel), List.mem_of_getElem? (i := 1336) (by decide +kernel)⟩
theorem lw_p52 : lw_okq (⟨"PoleRiver$Game", "cellOf", "(I)I"⟩, 12) := ⟨⟨by decide +kernel, by decide +kernel⟩, List.mem_of_getElem? (i := 453) (by decide +kernel), List.mem_of_getElem? (i := 1339) (by decide +kernel), List.mem_of_getElem? (i := 1340) (by decide +kernel)⟩
theorem lw_p53 : lw_okq (⟨"PoleRiver$Game", "takeColour", "(I)V"⟩, 12) := ⟨⟨by decide +kernel, by decide +kernel⟩, List.mem_of_getElem? (i := 453) (by decide +kernel), List.mem_of_getElem? (i := 1346) (by decide +kernel), List.mem_of_getElem? (i := 1347) (by decide +kernel)⟩
theorem lw_p54 : lw_okq (⟨"PoleRiver$Game", "waitDay", "()V"⟩, 12) := ⟨⟨by decide +kernel, by decide +kernel⟩, List.mem_of_getElem? (i := 453) (by decide +kernel), List.mem_of_getElem? (i := 1351) (by decide +kernel), List.mem_of_getElem? (i := 1352) (by decide +kernel)⟩
theorem lw_p55 : lw_okq (⟨"PoleRiver$Game", "putOff", "(I)V"⟩, 12) := ⟨⟨by decide +kernel, by decide +kernel⟩, List.mem_of_getElem? (i := 453) (by decide +kernel), List.mem_of_getElem? (i := 1357) (by decide +kernel), List.mem_of_getElem? (i := 1358) (by decide +kernel)⟩
theorem lw_p56 : lw_okq (⟨"PoleRiver$Game", "isSo", "(III)Z"⟩, 12) := ⟨⟨by decide +kernel, by decide +kernel⟩, List.mem_of_getElem? (i := 453) (by decide +kernel), List.mem_of_getElem? (i := 1361) (by decide +kernel), List.mem_of_getElem? (i := 1362) (by decide +kernel)⟩
theorem lw_p57 : lw_okq (⟨"PoleRiverModel", "plain", "(I)V"⟩, 54) := ⟨⟨by decide +kernel, by decide +kernel⟩, List.mem_of_getElem? (i := 1400) (by decide +kernel), List.mem_of_getElem? (i := 1406) (by decide +kernel), List.mem_of_getElem? (i := 1407) (by decide +kernel)⟩
theorem lw_p58 : lw_okq (⟨"PoleRiverModel", "is", "(I)Z"⟩, 54) := ⟨⟨by decide +kernel, by decide +kernel⟩, List.mem_of_getElem? (i := 1400) (by decide +kernel), List.mem_of_getElem? (i := 1593) (by decide +kernel), List.mem_of_getElem? (i := 1594) (by decide +kernel)⟩
theorem lw_p59 : lw_okq (⟨"PoleRiverModel", "wrongPlace", "(II)I"⟩, 54) := ⟨⟨by decide +kernel, by decide +kernel⟩, List.mem_of_getElem? (i := 1400) (by decide +kernel), List.mem_of_getElem? (i := 1601) (by decide +kernel), List.mem_of_getElem? (i := 1602) (by decide +kernel)⟩
theorem lw_p60 : lw_okq (⟨"PoleRiverModel", "four", "(I)V"⟩, 54) := ⟨⟨by decide +kernel, by decide +kernel⟩, List.mem_of_getElem? (i := 1400) (by decide +kernel), List.mem_of_getElem? (i := 1621) (by decide +kernel), List.mem_of_getElem? (i := 1622) (by decide +kernel)⟩
theorem lw_p61 : lw_okq (⟨"PoleRiverModel", "begins", "(II)Z"⟩, 54) := ⟨⟨by decide +kernel, by decide +kernel⟩, List.mem_of_getElem? (i := 1400) (by decide +kernel), List.mem_of_getElem? (i := 1633) (by decide +kernel), List.mem_of_getElem? (i := 1634) (by decide +kernel)⟩
theorem lw_p62 : lw_okq (⟨"PoleRiverModel", "ahead", "()V"⟩, 54) := ⟨⟨by decide +kernel, by decide +kernel⟩, List.mem_of_getElem? (i := 1400) (by decide +kernel), List.mem_of_getElem? (i := 1637) (by decide +kernel), List.mem_of_getElem? (i := 1638) (by decide +kernel)⟩
theorem lw_p63 : lw_okq (⟨"PoleRiverModel", "byteAt", "(I)I"⟩, 54) := ⟨⟨by decide +kernel, by decide +kernel⟩, List.mem_of_getElem? (i := 1400) (by decide +kernel), List.mem_of_getElem? (i := 1641) (by decide +kernel), List.mem_of_getElem? (i := 1642) (by decide +kernel)⟩
def lw_privs_4 : List (MethodName × Nat) := [(⟨"PoleRiver$Game", "lineBehindEnd", "(I)I"⟩, 12), (⟨"PoleRiver$Game", "goThrough", "()I"⟩, 12), (⟨"PoleRiver$Game", "doStep", "(I)I"⟩, 12), (⟨"PoleRiver$Game", "takeSounding", "(I)V"⟩, 12), (⟨"PoleRiver$Game", "cellOf", "(I)I"⟩, 12), (⟨"PoleRiver$Game", "takeColour", "(I)V"⟩, 12), (⟨"PoleRiver$Game", "waitDay", "()V"⟩, 12), (⟨"PoleRiver$Game", "putOff", "(I)V"⟩, 12), (⟨"PoleRiver$Game", "isSo", "(III)Z"⟩, 12), (⟨"PoleRiverModel", "plain", "(I)V"⟩, 54), (⟨"PoleRiverModel", "is", "(I)Z"⟩, 54), (⟨"PoleRiverModel", "wrongPlace", "(II)I"⟩, 54), (⟨"PoleRiverModel", "four", "(I)V"⟩, 54), (⟨"PoleRiverModel", "begins", "(II)Z"⟩, 54), (⟨"PoleRiverModel", "ahead", "()V"⟩, 54), (⟨"PoleRiverModel", "byteAt", "(I)I"⟩, 54)]
theorem lw_r4 : ∀ q ∈ lw_privs_4, lw_okq q := List.forall_mem_cons.mpr ⟨lw_p48, List.forall_mem_cons.mpr ⟨lw_p49, List.forall_mem_cons.mpr ⟨lw_p50, List.forall_mem_cons.mpr ⟨lw_p51, List.forall_mem_cons.mpr ⟨lw_p52, List.forall_mem_cons.mpr ⟨lw_p53, List.forall_mem_cons.mpr ⟨lw_p54, List.forall_mem_cons.mpr ⟨lw_p55, List.forall_mem_cons.mpr ⟨lw_p56, List.forall_mem_cons.mpr ⟨lw_p57, List.forall_mem_cons.mpr ⟨lw_p58, List.forall_mem_cons.mpr ⟨lw_p59, List.forall_mem_cons.mpr ⟨lw_p60, List.forall_mem_cons.mpr ⟨lw_p61, List.forall_mem_cons.mpr ⟨lw_p62, List.forall_mem_cons.mpr ⟨lw_p63, fun _ h => absurd h List.not_mem_nil⟩⟩⟩⟩⟩⟩⟩⟩⟩⟩⟩⟩⟩⟩⟩⟩
theorem lw_p64 : lw_okq (⟨"PoleRiverModel", "refuse", "(I)I"⟩, 54) := ⟨⟨by decide +kernel, by decide +kernel⟩, List.mem_of_getElem? (i := 1400) (by decide +kernel), List.mem_of_getElem? (i := 1653) (by decide +kernel), List.mem_of_getElem? (i := 1654) (by decide +kernel)⟩
theorem lw_p65 : lw_okq (⟨"PoleRiverModel", "wantWord", "(Ljava/lang/String;I)Z"⟩, 54) := ⟨⟨by decide +kernel, by decide +kernel⟩, List.mem_of_getElem? (i := 1400) (by decide +kernel), List.mem_of_getElem? (i := 1658) (by decide +kernel), List.mem_of_getElem? (i := 1659) (by decide +kernel)⟩
theorem lw_p66 : lw_okq (⟨"PoleRiverModel", "inWords", "(Ljava/lang/String;)I"⟩, 54) := ⟨⟨by decide +kernel, by decide +kernel⟩, List.mem_of_getElem? (i := 1400) (by decide +kernel), List.mem_of_getElem? (i := 1662) (by decide +kernel), List.mem_of_getElem? (i := 1663) (by decide +kernel)⟩
theorem lw_p67 : lw_okq (⟨"PoleRiverModel", "fails", "(I)Z"⟩, 54) := ⟨⟨by decide +kernel, by decide +kernel⟩, List.mem_of_getElem? (i := 1400) (by decide +kernel), List.mem_of_getElem? (i := 1668) (by decide +kernel), List.mem_of_getElem? (i := 1669) (by decide +kernel)⟩
theorem lw_p68 : lw_okq (⟨"PoleRiverModel", "number", "(III)Z"⟩, 54) := ⟨⟨by decide +kernel, by decide +kernel⟩, List.mem_of_getElem? (i := 1400) (by decide +kernel), List.mem_of_getElem? (i := 1672) (by decide +kernel), List.mem_of_getElem? (i := 1673) (by decide +kernel)⟩
theorem lw_p69 : lw_okq (⟨"PoleRiverModel", "wantSign", "(I)Z"⟩, 54) := ⟨⟨by decide +kernel, by decide +kernel⟩, List.mem_of_getElem? (i := 1400) (by decide +kernel), List.mem_of_getElem? (i := 1676) (by decide +kernel), List.mem_of_getElem? (i := 1677) (by decide +kernel)⟩
theorem lw_p70 : lw_okq (⟨"PoleRiverModel", "isSign", "(I)Z"⟩, 54) := ⟨⟨by decide +kernel, by decide +kernel⟩, List.mem_of_getElem? (i := 1400) (by decide +kernel), List.mem_of_getElem? (i := 1680) (by decide +kernel), List.mem_of_getElem? (i := 1681) (by decide +kernel)⟩
theorem lw_p71 : lw_okq (⟨"PoleRiverModel", "riverPart", "()Z"⟩, 54) := ⟨⟨by decide +kernel, by decide +kernel⟩, List.mem_of_getElem? (i := 1400) (by decide +kernel), List.mem_of_getElem? (i := 1684) (by decide +kernel), List.mem_of_getElem? (i := 1685) (by decide +kernel)⟩
theorem lw_p72 : lw_okq (⟨"PoleRiverModel", "aRow", "()Z"⟩, 54) := ⟨⟨by decide +kernel, by decide +kernel⟩, List.mem_of_getElem? (i := 1400) (by decide +kernel), List.mem_of_getElem? (i := 1688) (by decide +kernel), List.mem_of_getElem? (i := 1689) (by decide +kernel)⟩
theorem lw_p73 : lw_okq (⟨"PoleRiverModel", "aBar", "()Z"⟩, 54) := ⟨⟨by decide +kernel, by decide +kernel⟩, List.mem_of_getElem? (i := 1400) (by decide +kernel), List.mem_of_getElem? (i := 1692) (by decide +kernel), List.mem_of_getElem? (i := 1693) (by decide +kernel)⟩
theorem lw_p74 : lw_okq (⟨"PoleRiverModel", "isName", "(Ljava/lang/String;)Z"⟩, 54) := ⟨⟨by decide +kernel, by decide +kernel⟩, List.mem_of_getElem? (i := 1400) (by decide +kernel), List.mem_of_getElem? (i := 1696) (by decide +kernel), List.mem_of_getElem? (i := 1697) (by decide +kernel)⟩
theorem lw_p75 : lw_okq (⟨"PoleRiverModel", "findHere", "(II)I"⟩, 54) := ⟨⟨by decide +kernel, by decide +kernel⟩, List.mem_of_getElem? (i := 1400) (by decide +kernel), List.mem_of_getElem? (i := 1700) (by decide +kernel), List.mem_of_getElem? (i := 1701) (by decide +kernel)⟩
theorem lw_p76 : lw_okq (⟨"PoleRiverModel", "nameHere", "()J"⟩, 54) := ⟨⟨by decide +kernel, by decide +kernel⟩, List.mem_of_getElem? (i := 1400) (by decide +kernel), List.mem_of_getElem? (i := 1704) (by decide +kernel), List.mem_of_getElem? (i := 1705) (by decide +kernel)⟩
theorem lw_p77 : lw_okq (⟨"PoleRiverModel", "someCells", "()Z"⟩, 54) := ⟨⟨by decide +kernel, by decide +kernel⟩, List.mem_of_getElem? (i := 1400) (by decide +kernel), List.mem_of_getElem? (i := 1708) (by decide +kernel), List.mem_of_getElem? (i := 1709) (by decide +kernel)⟩
theorem lw_p78 : lw_okq (⟨"PoleRiverModel", "someStages", "()Z"⟩, 54) := ⟨⟨by decide +kernel, by decide +kernel⟩, List.mem_of_getElem? (i := 1400) (by decide +kernel), List.mem_of_getElem? (i := 1712) (by decide +kernel), List.mem_of_getElem? (i := 1713) (by decide +kernel)⟩
theorem lw_p79 : lw_okq (⟨"PoleRiverModel", "aBoat", "()Z"⟩, 54) := ⟨⟨by decide +kernel, by decide +kernel⟩, List.mem_of_getElem? (i := 1400) (by decide +kernel), List.mem_of_getElem? (i := 1716) (by decide +kernel), List.mem_of_getElem? (i := 1717) (by decide +kernel)⟩
def lw_privs_5 : List (MethodName × Nat) := [(⟨"PoleRiverModel", "refuse", "(I)I"⟩, 54), (⟨"PoleRiverModel", "wantWord", "(Ljava/lang/String;I)Z"⟩, 54), (⟨"PoleRiverModel", "inWords", "(Ljava/lang/String;)I"⟩, 54), (⟨"PoleRiverModel", "fails", "(I)Z"⟩, 54), (⟨"PoleRiverModel", "number", "(III)Z"⟩, 54), (⟨"PoleRiverModel", "wantSign", "(I)Z"⟩, 54), (⟨"PoleRiverModel", "isSign", "(I)Z"⟩, 54), (⟨"PoleRiverModel", "riverPart", "()Z"⟩, 54), (⟨"PoleRiverModel", "aRow", "()Z"⟩, 54), (⟨"PoleRiverModel", "aBar", "()Z"⟩, 54), (⟨"PoleRiverModel", "isName", "(Ljava/lang/String;)Z"⟩, 54), (⟨"PoleRiverModel", "findHere", "(II)I"⟩, 54), (⟨"PoleRiverModel", "nameHere", "()J"⟩, 54), (⟨"PoleRiverModel", "someCells", "()Z"⟩, 54), (⟨"PoleRiverModel", "someStages", "()Z"⟩, 54), (⟨"PoleRiverModel", "aBoat", "()Z"⟩, 54)]
theorem lw_r5 : ∀ q ∈ lw_privs_5, lw_okq q := List.forall_mem_cons.mpr ⟨lw_p64, List.forall_mem_cons.mpr ⟨lw_p65, List.forall_mem_cons.mpr ⟨lw_p66, List.forall_mem_cons.mpr ⟨lw_p67, List.forall_mem_cons.mpr ⟨lw_p68, List.forall_mem_cons.mpr ⟨lw_p69, List.forall_mem_cons.mpr ⟨lw_p70, List.forall_mem_cons.mpr ⟨lw_p71, List.forall_mem_cons.mpr ⟨lw_p72, List.forall_mem_cons.mpr ⟨lw_p73, List.forall_mem_cons.mpr ⟨lw_p74, List.forall_mem_cons.mpr ⟨lw_p75, List.forall_mem_cons.mpr ⟨lw_p76, List.forall_mem_cons.mpr ⟨lw_p77, List.forall_mem_cons.mpr ⟨lw_p78, List.forall_mem_cons.mpr ⟨lw_p79, fun _ h => absurd h List.not_mem_nil⟩⟩⟩⟩⟩⟩⟩⟩⟩⟩⟩⟩⟩⟩⟩⟩
theorem lw_p80 : lw_okq (⟨"PoleRiverModel", "first", "()V"⟩, 54) := ⟨⟨by decide +kernel, by decide +kernel⟩, List.mem_of_getElem? (i := 1400) (by decide +kernel), List.mem_of_getElem? (i := 1720) (by decide +kernel), List.mem_of_getElem? (i := 1721) (by decide +kernel)⟩
theorem lw_p81 : lw_okq (⟨"PoleRiverModel", "sets", "()I"⟩, 54) := ⟨⟨by decide +kernel, by decide +kernel⟩, List.mem_of_getElem? (i := 1400) (by decide +kernel), List.mem_of_getElem? (i := 1724) (by decide +kernel), List.mem_of_getElem? (i := 1725) (by decide +kernel)⟩
theorem lw_p82 : lw_okq (⟨"PoleRiverModel", "ofBar", "(II)I"⟩, 54) := ⟨⟨by decide +kernel, by decide +kernel⟩, List.mem_of_getElem? (i := 1400) (by decide +kernel), List.mem_of_getElem? (i := 1728) (by decide +kernel), List.mem_of_getElem? (i := 1729) (by decide +kernel)⟩
theorem lw_p83 : lw_okq (⟨"PoleRiverModel", "sharesOut", "()Z"⟩, 54) := ⟨⟨by decide +kernel, by decide +kernel⟩, List.mem_of_getElem? (i := 1400) (by decide +kernel), List.mem_of_getElem? (i := 1732) (by decide +kernel), List.mem_of_getElem? (i := 1733) (by decide +kernel)⟩
theorem lw_p84 : lw_okq (⟨"PoleRiverModel", "cells", "()I"⟩, 54) := ⟨⟨by decide +kernel, by decide +kernel⟩, List.mem_of_getElem? (i := 1400) (by decide +kernel), List.mem_of_getElem? (i := 1737) (by decide +kernel), List.mem_of_getElem? (i := 1738) (by decide +kernel)⟩
theorem lw_p85 : lw_okq (⟨"PoleRiverModel", "taken", "(I)I"⟩, 54) := ⟨⟨by decide +kernel, by decide +kernel⟩, List.mem_of_getElem? (i := 1400) (by decide +kernel), List.mem_of_getElem? (i := 1741) (by decide +kernel), List.mem_of_getElem? (i := 1742) (by decide +kernel)⟩
theorem lw_p86 : lw_okq (⟨"PoleRiverModel", "gives", "(I)I"⟩, 54) := ⟨⟨by decide +kernel, by decide +kernel⟩, List.mem_of_getElem? (i := 1400) (by decide +kernel), List.mem_of_getElem? (i := 1745) (by decide +kernel), List.mem_of_getElem? (i := 1746) (by decide +kernel)⟩
theorem lw_p87 : lw_okq (⟨"PoleRiverModel", "step", "()Z"⟩, 54) := ⟨⟨by decide +kernel, by decide +kernel⟩, List.mem_of_getElem? (i := 1400) (by decide +kernel), List.mem_of_getElem? (i := 1753) (by decide +kernel), List.mem_of_getElem? (i := 1754) (by decide +kernel)⟩
theorem lw_p88 : lw_okq (⟨"PoleRiverModel", "ruleName", "(I)Z"⟩, 54) := ⟨⟨by decide +kernel, by decide +kernel⟩, List.mem_of_getElem? (i := 1400) (by decide +kernel), List.mem_of_getElem? (i := 1758) (by decide +kernel), List.mem_of_getElem? (i := 1759) (by decide +kernel)⟩
theorem lw_p89 : lw_okq (⟨"PoleRiverModel", "isBar", "(I)Z"⟩, 54) := ⟨⟨by decide +kernel, by decide +kernel⟩, List.mem_of_getElem? (i := 1400) (by decide +kernel), List.mem_of_getElem? (i := 1770) (by decide +kernel), List.mem_of_getElem? (i := 1771) (by decide +kernel)⟩
theorem lw_p90 : lw_okq (⟨"PoleRiverModel", "cellOf", "(I)I"⟩, 54) := ⟨⟨by decide +kernel, by decide +kernel⟩, List.mem_of_getElem? (i := 1400) (by decide +kernel), List.mem_of_getElem? (i := 1774) (by decide +kernel), List.mem_of_getElem? (i := 1775) (by decide +kernel)⟩
theorem lw_p91 : lw_okq (⟨"PoleRiverModel", "isCell", "(J)Z"⟩, 54) := ⟨⟨by decide +kernel, by decide +kernel⟩, List.mem_of_getElem? (i := 1400) (by decide +kernel), List.mem_of_getElem? (i := 1782) (by decide +kernel), List.mem_of_getElem? (i := 1783) (by decide +kernel)⟩
theorem lw_p92 : lw_okq (⟨"PoleRiverModel", "stageOf", "(I)I"⟩, 54) := ⟨⟨by decide +kernel, by decide +kernel⟩, List.mem_of_getElem? (i := 1400) (by decide +kernel), List.mem_of_getElem? (i := 1794) (by decide +kernel), List.mem_of_getElem? (i := 1795) (by decide +kernel)⟩
theorem lw_p93 : lw_okq (⟨"PoleRiverModel", "isSet", "(I)Z"⟩, 54) := ⟨⟨by decide +kernel, by decide +kernel⟩, List.mem_of_getElem? (i := 1400) (by decide +kernel), List.mem_of_getElem? (i := 1802) (by decide +kernel), List.mem_of_getElem? (i := 1803) (by decide +kernel)⟩
theorem lw_p94 : lw_okq (⟨"PoleRiverModel", "depthOf", "(II)I"⟩, 54) := ⟨⟨by decide +kernel, by decide +kernel⟩, List.mem_of_getElem? (i := 1400) (by decide +kernel), List.mem_of_getElem? (i := 1806) (by decide +kernel), List.mem_of_getElem? (i := 1807) (by decide +kernel)⟩
theorem lw_p95 : lw_okq (⟨"PoleRiverModel", "openOf", "(I)I"⟩, 54) := ⟨⟨by decide +kernel, by decide +kernel⟩, List.mem_of_getElem? (i := 1400) (by decide +kernel), List.mem_of_getElem? (i := 1814) (by decide +kernel), List.mem_of_getElem? (i := 1815) (by decide +kernel)⟩
def lw_privs_6 : List (MethodName × Nat) := [(⟨"PoleRiverModel", "first", "()V"⟩, 54), (⟨"PoleRiverModel", "sets", "()I"⟩, 54), (⟨"PoleRiverModel", "ofBar", "(II)I"⟩, 54), (⟨"PoleRiverModel", "sharesOut", "()Z"⟩, 54), (⟨"PoleRiverModel", "cells", "()I"⟩, 54), (⟨"PoleRiverModel", "taken", "(I)I"⟩, 54), (⟨"PoleRiverModel", "gives", "(I)I"⟩, 54), (⟨"PoleRiverModel", "step", "()Z"⟩, 54), (⟨"PoleRiverModel", "ruleName", "(I)Z"⟩, 54), (⟨"PoleRiverModel", "isBar", "(I)Z"⟩, 54), (⟨"PoleRiverModel", "cellOf", "(I)I"⟩, 54), (⟨"PoleRiverModel", "isCell", "(J)Z"⟩, 54), (⟨"PoleRiverModel", "stageOf", "(I)I"⟩, 54), (⟨"PoleRiverModel", "isSet", "(I)Z"⟩, 54), (⟨"PoleRiverModel", "depthOf", "(II)I"⟩, 54), (⟨"PoleRiverModel", "openOf", "(I)I"⟩, 54)]
theorem lw_r6 : ∀ q ∈ lw_privs_6, lw_okq q := List.forall_mem_cons.mpr ⟨lw_p80, List.forall_mem_cons.mpr ⟨lw_p81, List.forall_mem_cons.mpr ⟨lw_p82, List.forall_mem_cons.mpr ⟨lw_p83, List.forall_mem_cons.mpr ⟨lw_p84, List.forall_mem_cons.mpr ⟨lw_p85, List.forall_mem_cons.mpr ⟨lw_p86, List.forall_mem_cons.mpr ⟨lw_p87, List.forall_mem_cons.mpr ⟨lw_p88, List.forall_mem_cons.mpr ⟨lw_p89, List.forall_mem_cons.mpr ⟨lw_p90, List.forall_mem_cons.mpr ⟨lw_p91, List.forall_mem_cons.mpr ⟨lw_p92, List.forall_mem_cons.mpr ⟨lw_p93, List.forall_mem_cons.mpr ⟨lw_p94, List.forall_mem_cons.mpr ⟨lw_p95, fun _ h => absurd h List.not_mem_nil⟩⟩⟩⟩⟩⟩⟩⟩⟩⟩⟩⟩⟩⟩⟩⟩
theorem lw_p96 : lw_okq (⟨"PoleRiverModel", "passes", "(II)Z"⟩, 54) := ⟨⟨by decide +kernel, by decide +kernel⟩, List.mem_of_getElem? (i := 1400) (by decide +kernel), List.mem_of_getElem? (i := 1818) (by decide +kernel), List.mem_of_getElem? (i := 1819) (by decide +kernel)⟩
theorem lw_p97 : lw_okq (⟨"PoleRiverModel", "partsOf", "(II)J"⟩, 54) := ⟨⟨by decide +kernel, by decide +kernel⟩, List.mem_of_getElem? (i := 1400) (by decide +kernel), List.mem_of_getElem? (i := 1830) (by decide +kernel), List.mem_of_getElem? (i := 1831) (by decide +kernel)⟩
theorem lw_p98 : lw_okq (⟨"PoleRiverModel", "tellsBy", "(JJ)Z"⟩, 54) := ⟨⟨by decide +kernel, by decide +kernel⟩, List.mem_of_getElem? (i := 1400) (by decide +kernel), List.mem_of_getElem? (i := 1834) (by decide +kernel), List.mem_of_getElem? (i := 1835) (by decide +kernel)⟩
theorem lw_p99 : lw_okq (⟨"PoleRiverModel", "passDay", "(II)V"⟩, 54) := ⟨⟨by decide +kernel, by decide +kernel⟩, List.mem_of_getElem? (i := 1400) (by decide +kernel), List.mem_of_getElem? (i := 1847) (by decide +kernel), List.mem_of_getElem? (i := 1848) (by decide +kernel)⟩
theorem lw_p100 : lw_okq (⟨"PoleRiverModel", "sounds", "(II)Z"⟩, 54) := ⟨⟨by decide +kernel, by decide +kernel⟩, List.mem_of_getElem? (i := 1400) (by decide +kernel), List.mem_of_getElem? (i := 1857) (by decide +kernel), List.mem_of_getElem? (i := 1858) (by decide +kernel)⟩
theorem lw_p101 : lw_okq (⟨"PoleRiverModel", "weighs", "(II)I"⟩, 54) := ⟨⟨by decide +kernel, by decide +kernel⟩, List.mem_of_getElem? (i := 1400) (by decide +kernel), List.mem_of_getElem? (i := 1861) (by decide +kernel), List.mem_of_getElem? (i := 1862) (by decide +kernel)⟩
theorem lw_p102 : lw_okq (⟨"PoleRiverModel", "colours", "(IZ)Z"⟩, 54) := ⟨⟨by decide +kernel, by decide +kernel⟩, List.mem_of_getElem? (i := 1400) (by decide +kernel), List.mem_of_getElem? (i := 1869) (by decide +kernel), List.mem_of_getElem? (i := 1870) (by decide +kernel)⟩
theorem lw_p103 : lw_okq (⟨"PoleRiverModel", "wrongWay", "(II)I"⟩, 54) := ⟨⟨by decide +kernel, by decide +kernel⟩, List.mem_of_getElem? (i := 1400) (by decide +kernel), List.mem_of_getElem? (i := 1885) (by decide +kernel), List.mem_of_getElem? (i := 1886) (by decide +kernel)⟩
theorem lw_p104 : lw_okq (⟨"PoleRiverModel", "headingTo", "(II)I"⟩, 54) := ⟨⟨by decide +kernel, by decide +kernel⟩, List.mem_of_getElem? (i := 1400) (by decide +kernel), List.mem_of_getElem? (i := 1889) (by decide +kernel), List.mem_of_getElem? (i := 1890) (by decide +kernel)⟩
theorem lw_p105 : lw_okq (⟨"PoleRiverModel", "leads", "(II)I"⟩, 54) := ⟨⟨by decide +kernel, by decide +kernel⟩, List.mem_of_getElem? (i := 1400) (by decide +kernel), List.mem_of_getElem? (i := 1893) (by decide +kernel), List.mem_of_getElem? (i := 1894) (by decide +kernel)⟩
theorem lw_p106 : lw_okq (⟨"PoleRiverModel", "stepMinutes", "(II)I"⟩, 54) := ⟨⟨by decide +kernel, by decide +kernel⟩, List.mem_of_getElem? (i := 1400) (by decide +kernel), List.mem_of_getElem? (i := 1897) (by decide +kernel), List.mem_of_getElem? (i := 1898) (by decide +kernel)⟩
theorem lw_p107 : lw_okq (⟨"PoleRiverModel", "struckAt", "(III)I"⟩, 54) := ⟨⟨by decide +kernel, by decide +kernel⟩, List.mem_of_getElem? (i := 1400) (by decide +kernel), List.mem_of_getElem? (i := 1908) (by decide +kernel), List.mem_of_getElem? (i := 1909) (by decide +kernel)⟩
theorem lw_p108 : lw_okq (⟨"PoleRiverModel", "readies", "(II)V"⟩, 54) := ⟨⟨by decide +kernel, by decide +kernel⟩, List.mem_of_getElem? (i := 1400) (by decide +kernel), List.mem_of_getElem? (i := 1920) (by decide +kernel), List.mem_of_getElem? (i := 1921) (by decide +kernel)⟩
theorem lw_p109 : lw_okq (⟨"PoleRiverModel", "reckons", "(II)V"⟩, 54) := ⟨⟨by decide +kernel, by decide +kernel⟩, List.mem_of_getElem? (i := 1400) (by decide +kernel), List.mem_of_getElem? (i := 1924) (by decide +kernel), List.mem_of_getElem? (i := 1925) (by decide +kernel)⟩
theorem lw_p110 : lw_okq (⟨"PoleRiverModel", "betters", "(II)Z"⟩, 54) := ⟨⟨by decide +kernel, by decide +kernel⟩, List.mem_of_getElem? (i := 1400) (by decide +kernel), List.mem_of_getElem? (i := 1929) (by decide +kernel), List.mem_of_getElem? (i := 1930) (by decide +kernel)⟩
theorem lw_p111 : lw_okq (⟨"PoleRiverModel", "walks", "(III)V"⟩, 54) := ⟨⟨by decide +kernel, by decide +kernel⟩, List.mem_of_getElem? (i := 1400) (by decide +kernel), List.mem_of_getElem? (i := 1933) (by decide +kernel), List.mem_of_getElem? (i := 1934) (by decide +kernel)⟩
def lw_privs_7 : List (MethodName × Nat) := [(⟨"PoleRiverModel", "passes", "(II)Z"⟩, 54), (⟨"PoleRiverModel", "partsOf", "(II)J"⟩, 54), (⟨"PoleRiverModel", "tellsBy", "(JJ)Z"⟩, 54), (⟨"PoleRiverModel", "passDay", "(II)V"⟩, 54), (⟨"PoleRiverModel", "sounds", "(II)Z"⟩, 54), (⟨"PoleRiverModel", "weighs", "(II)I"⟩, 54), (⟨"PoleRiverModel", "colours", "(IZ)Z"⟩, 54), (⟨"PoleRiverModel", "wrongWay", "(II)I"⟩, 54), (⟨"PoleRiverModel", "headingTo", "(II)I"⟩, 54), (⟨"PoleRiverModel", "leads", "(II)I"⟩, 54), (⟨"PoleRiverModel", "stepMinutes", "(II)I"⟩, 54), (⟨"PoleRiverModel", "struckAt", "(III)I"⟩, 54), (⟨"PoleRiverModel", "readies", "(II)V"⟩, 54), (⟨"PoleRiverModel", "reckons", "(II)V"⟩, 54), (⟨"PoleRiverModel", "betters", "(II)Z"⟩, 54), (⟨"PoleRiverModel", "walks", "(III)V"⟩, 54)]
theorem lw_r7 : ∀ q ∈ lw_privs_7, lw_okq q := List.forall_mem_cons.mpr ⟨lw_p96, List.forall_mem_cons.mpr ⟨lw_p97, List.forall_mem_cons.mpr ⟨lw_p98, List.forall_mem_cons.mpr ⟨lw_p99, List.forall_mem_cons.mpr ⟨lw_p100, List.forall_mem_cons.mpr ⟨lw_p101, List.forall_mem_cons.mpr ⟨lw_p102, List.forall_mem_cons.mpr ⟨lw_p103, List.forall_mem_cons.mpr ⟨lw_p104, List.forall_mem_cons.mpr ⟨lw_p105, List.forall_mem_cons.mpr ⟨lw_p106, List.forall_mem_cons.mpr ⟨lw_p107, List.forall_mem_cons.mpr ⟨lw_p108, List.forall_mem_cons.mpr ⟨lw_p109, List.forall_mem_cons.mpr ⟨lw_p110, List.forall_mem_cons.mpr ⟨lw_p111, fun _ h => absurd h List.not_mem_nil⟩⟩⟩⟩⟩⟩⟩⟩⟩⟩⟩⟩⟩⟩⟩⟩
theorem lw_p112 : lw_okq (⟨"PoleRiverModel", "areCells", "(II)Z"⟩, 54) := ⟨⟨by decide +kernel, by decide +kernel⟩, List.mem_of_getElem? (i := 1400) (by decide +kernel), List.mem_of_getElem? (i := 1941) (by decide +kernel), List.mem_of_getElem? (i := 1942) (by decide +kernel)⟩
theorem lw_p113 : lw_okq (⟨"PoleRiverModel", "surestOf", "(II)I"⟩, 54) := ⟨⟨by decide +kernel, by decide +kernel⟩, List.mem_of_getElem? (i := 1400) (by decide +kernel), List.mem_of_getElem? (i := 1945) (by decide +kernel), List.mem_of_getElem? (i := 1946) (by decide +kernel)⟩
theorem lw_p114 : lw_okq (⟨"PoleRiverModel", "meanOf", "(I)J"⟩, 54) := ⟨⟨by decide +kernel, by decide +kernel⟩, List.mem_of_getElem? (i := 1400) (by decide +kernel), List.mem_of_getElem? (i := 1953) (by decide +kernel), List.mem_of_getElem? (i := 1954) (by decide +kernel)⟩
theorem lw_p115 : lw_okq (⟨"PoleRiverModel", "thinks", "()V"⟩, 54) := ⟨⟨by decide +kernel, by decide +kernel⟩, List.mem_of_getElem? (i := 1400) (by decide +kernel), List.mem_of_getElem? (i := 1969) (by decide +kernel), List.mem_of_getElem? (i := 1970) (by decide +kernel)⟩
theorem lw_p116 : lw_okq (⟨"PoleRiverModel", "bestBar", "(I)I"⟩, 54) := ⟨⟨by decide +kernel, by decide +kernel⟩, List.mem_of_getElem? (i := 1400) (by decide +kernel), List.mem_of_getElem? (i := 1973) (by decide +kernel), List.mem_of_getElem? (i := 1974) (by decide +kernel)⟩
theorem lw_p117 : lw_okq (⟨"PoleRiverModel", "hasCell", "(I)Z"⟩, 54) := ⟨⟨by decide +kernel, by decide +kernel⟩, List.mem_of_getElem? (i := 1400) (by decide +kernel), List.mem_of_getElem? (i := 1977) (by decide +kernel), List.mem_of_getElem? (i := 1978) (by decide +kernel)⟩
theorem lw_p118 : lw_okq (⟨"PoleRiverModel", "worthOf", "(II)J"⟩, 54) := ⟨⟨by decide +kernel, by decide +kernel⟩, List.mem_of_getElem? (i := 1400) (by decide +kernel), List.mem_of_getElem? (i := 1981) (by decide +kernel), List.mem_of_getElem? (i := 1982) (by decide +kernel)⟩
theorem lw_p119 : lw_okq (⟨"PoleRiverModel", "worthOf1", "(II)J"⟩, 54) := ⟨⟨by decide +kernel, by decide +kernel⟩, List.mem_of_getElem? (i := 1400) (by decide +kernel), List.mem_of_getElem? (i := 1985) (by decide +kernel), List.mem_of_getElem? (i := 1986) (by decide +kernel)⟩
theorem lw_p120 : lw_okq (⟨"PoleRiverModel", "readFrom", "(I)I"⟩, 54) := ⟨⟨by decide +kernel, by decide +kernel⟩, List.mem_of_getElem? (i := 1400) (by decide +kernel), List.mem_of_getElem? (i := 1989) (by decide +kernel), List.mem_of_getElem? (i := 1990) (by decide +kernel)⟩
theorem lw_p121 : lw_okq (⟨"PoleRiverModel", "readTo", "(I)I"⟩, 54) := ⟨⟨by decide +kernel, by decide +kernel⟩, List.mem_of_getElem? (i := 1400) (by decide +kernel), List.mem_of_getElem? (i := 1993) (by decide +kernel), List.mem_of_getElem? (i := 1994) (by decide +kernel)⟩
theorem lw_p122 : lw_okq (⟨"PoleRiverModel", "reads", "(III)Z"⟩, 54) := ⟨⟨by decide +kernel, by decide +kernel⟩, List.mem_of_getElem? (i := 1400) (by decide +kernel), List.mem_of_getElem? (i := 1997) (by decide +kernel), List.mem_of_getElem? (i := 1998) (by decide +kernel)⟩
theorem lw_p123 : lw_okq (⟨"PoleRiverModel", "worth0", "(I)J"⟩, 54) := ⟨⟨by decide +kernel, by decide +kernel⟩, List.mem_of_getElem? (i := 1400) (by decide +kernel), List.mem_of_getElem? (i := 2001) (by decide +kernel), List.mem_of_getElem? (i := 2002) (by decide +kernel)⟩
theorem lw_p124 : lw_okq (⟨"PoleRiverModel", "worthOf2", "(II)J"⟩, 54) := ⟨⟨by decide +kernel, by decide +kernel⟩, List.mem_of_getElem? (i := 1400) (by decide +kernel), List.mem_of_getElem? (i := 2006) (by decide +kernel), List.mem_of_getElem? (i := 2007) (by decide +kernel)⟩
theorem lw_p125 : lw_okq (⟨"PoleRiverModel", "worth1", "(I)J"⟩, 54) := ⟨⟨by decide +kernel, by decide +kernel⟩, List.mem_of_getElem? (i := 1400) (by decide +kernel), List.mem_of_getElem? (i := 2010) (by decide +kernel), List.mem_of_getElem? (i := 2011) (by decide +kernel)⟩
theorem lw_p126 : lw_okq (⟨"PoleRiverModel", "worthOf3", "(I)J"⟩, 54) := ⟨⟨by decide +kernel, by decide +kernel⟩, List.mem_of_getElem? (i := 1400) (by decide +kernel), List.mem_of_getElem? (i := 2014) (by decide +kernel), List.mem_of_getElem? (i := 2015) (by decide +kernel)⟩
theorem lw_p127 : lw_okq (⟨"PoleRiverModel", "worth2", "(I)J"⟩, 54) := ⟨⟨by decide +kernel, by decide +kernel⟩, List.mem_of_getElem? (i := 1400) (by decide +kernel), List.mem_of_getElem? (i := 2018) (by decide +kernel), List.mem_of_getElem? (i := 2019) (by decide +kernel)⟩
def lw_privs_8 : List (MethodName × Nat) := [(⟨"PoleRiverModel", "areCells", "(II)Z"⟩, 54), (⟨"PoleRiverModel", "surestOf", "(II)I"⟩, 54), (⟨"PoleRiverModel", "meanOf", "(I)J"⟩, 54), (⟨"PoleRiverModel", "thinks", "()V"⟩, 54), (⟨"PoleRiverModel", "bestBar", "(I)I"⟩, 54), (⟨"PoleRiverModel", "hasCell", "(I)Z"⟩, 54), (⟨"PoleRiverModel", "worthOf", "(II)J"⟩, 54), (⟨"PoleRiverModel", "worthOf1", "(II)J"⟩, 54), (⟨"PoleRiverModel", "readFrom", "(I)I"⟩, 54), (⟨"PoleRiverModel", "readTo", "(I)I"⟩, 54), (⟨"PoleRiverModel", "reads", "(III)Z"⟩, 54), (⟨"PoleRiverModel", "worth0", "(I)J"⟩, 54), (⟨"PoleRiverModel", "worthOf2", "(II)J"⟩, 54), (⟨"PoleRiverModel", "worth1", "(I)J"⟩, 54), (⟨"PoleRiverModel", "worthOf3", "(I)J"⟩, 54), (⟨"PoleRiverModel", "worth2", "(I)J"⟩, 54)]
theorem lw_r8 : ∀ q ∈ lw_privs_8, lw_okq q := List.forall_mem_cons.mpr ⟨lw_p112, List.forall_mem_cons.mpr ⟨lw_p113, List.forall_mem_cons.mpr ⟨lw_p114, List.forall_mem_cons.mpr ⟨lw_p115, List.forall_mem_cons.mpr ⟨lw_p116, List.forall_mem_cons.mpr ⟨lw_p117, List.forall_mem_cons.mpr ⟨lw_p118, List.forall_mem_cons.mpr ⟨lw_p119, List.forall_mem_cons.mpr ⟨lw_p120, List.forall_mem_cons.mpr ⟨lw_p121, List.forall_mem_cons.mpr ⟨lw_p122, List.forall_mem_cons.mpr ⟨lw_p123, List.forall_mem_cons.mpr ⟨lw_p124, List.forall_mem_cons.mpr ⟨lw_p125, List.forall_mem_cons.mpr ⟨lw_p126, List.forall_mem_cons.mpr ⟨lw_p127, fun _ h => absurd h List.not_mem_nil⟩⟩⟩⟩⟩⟩⟩⟩⟩⟩⟩⟩⟩⟩⟩⟩
theorem lw_p128 : lw_okq (⟨"PoleRiverModel", "keeps", "()V"⟩, 54) := ⟨⟨by decide +kernel, by decide +kernel⟩, List.mem_of_getElem? (i := 1400) (by decide +kernel), List.mem_of_getElem? (i := 2032) (by decide +kernel), List.mem_of_getElem? (i := 2033) (by decide +kernel)⟩
theorem lw_p129 : lw_okq (⟨"PoleRiverModel", "brings", "()V"⟩, 54) := ⟨⟨by decide +kernel, by decide +kernel⟩, List.mem_of_getElem? (i := 1400) (by decide +kernel), List.mem_of_getElem? (i := 2036) (by decide +kernel), List.mem_of_getElem? (i := 2037) (by decide +kernel)⟩
theorem lw_p130 : lw_okq (⟨"PoleRiverModel", "markedBy", "(I)J"⟩, 54) := ⟨⟨by decide +kernel, by decide +kernel⟩, List.mem_of_getElem? (i := 1400) (by decide +kernel), List.mem_of_getElem? (i := 2047) (by decide +kernel), List.mem_of_getElem? (i := 2048) (by decide +kernel)⟩
theorem lw_p131 : lw_okq (⟨"PoleRiverModel", "plays", "(III)V"⟩, 54) := ⟨⟨by decide +kernel, by decide +kernel⟩, List.mem_of_getElem? (i := 1400) (by decide +kernel), List.mem_of_getElem? (i := 2073) (by decide +kernel), List.mem_of_getElem? (i := 2074) (by decide +kernel)⟩
theorem lw_p132 : lw_okq (⟨"PoleRiverModel", "drawTruth", "()V"⟩, 54) := ⟨⟨by decide +kernel, by decide +kernel⟩, List.mem_of_getElem? (i := 1400) (by decide +kernel), List.mem_of_getElem? (i := 2077) (by decide +kernel), List.mem_of_getElem? (i := 2078) (by decide +kernel)⟩
theorem lw_p133 : lw_okq (⟨"PoleRiverModel", "draw", "(I)I"⟩, 54) := ⟨⟨by decide +kernel, by decide +kernel⟩, List.mem_of_getElem? (i := 1400) (by decide +kernel), List.mem_of_getElem? (i := 2081) (by decide +kernel), List.mem_of_getElem? (i := 2082) (by decide +kernel)⟩
theorem lw_p134 : lw_okq (⟨"PoleRiverModel", "does", "(III)I"⟩, 54) := ⟨⟨by decide +kernel, by decide +kernel⟩, List.mem_of_getElem? (i := 1400) (by decide +kernel), List.mem_of_getElem? (i := 2087) (by decide +kernel), List.mem_of_getElem? (i := 2088) (by decide +kernel)⟩
theorem lw_p135 : lw_okq (⟨"PoleRiverModel", "soundsAt", "(I)V"⟩, 54) := ⟨⟨by decide +kernel, by decide +kernel⟩, List.mem_of_getElem? (i := 1400) (by decide +kernel), List.mem_of_getElem? (i := 2091) (by decide +kernel), List.mem_of_getElem? (i := 2092) (by decide +kernel)⟩
theorem lw_p136 : lw_okq (⟨"PoleRiverModel", "coloursAt", "(II)V"⟩, 54) := ⟨⟨by decide +kernel, by decide +kernel⟩, List.mem_of_getElem? (i := 1400) (by decide +kernel), List.mem_of_getElem? (i := 2095) (by decide +kernel), List.mem_of_getElem? (i := 2096) (by decide +kernel)⟩
theorem lw_p137 : lw_okq (⟨"PoleRiverModel", "waits", "()V"⟩, 54) := ⟨⟨by decide +kernel, by decide +kernel⟩, List.mem_of_getElem? (i := 1400) (by decide +kernel), List.mem_of_getElem? (i := 2099) (by decide +kernel), List.mem_of_getElem? (i := 2100) (by decide +kernel)⟩
theorem lw_p138 : lw_okq (⟨"PoleRiverModel", "holds", "(IIIII)Z"⟩, 54) := ⟨⟨by decide +kernel, by decide +kernel⟩, List.mem_of_getElem? (i := 1400) (by decide +kernel), List.mem_of_getElem? (i := 2104) (by decide +kernel), List.mem_of_getElem? (i := 2105) (by decide +kernel)⟩
theorem lw_p139 : lw_okq (⟨"PoleRiverModel", "goes", "(II)V"⟩, 54) := ⟨⟨by decide +kernel, by decide +kernel⟩, List.mem_of_getElem? (i := 1400) (by decide +kernel), List.mem_of_getElem? (i := 2108) (by decide +kernel), List.mem_of_getElem? (i := 2109) (by decide +kernel)⟩
theorem lw_p140 : lw_okq (⟨"PoleRiverModel", "behindEnds", "(I)I"⟩, 54) := ⟨⟨by decide +kernel, by decide +kernel⟩, List.mem_of_getElem? (i := 1400) (by decide +kernel), List.mem_of_getElem? (i := 2112) (by decide +kernel), List.mem_of_getElem? (i := 2113) (by decide +kernel)⟩
theorem lw_p141 : lw_okq (⟨"PoleRiverModel", "tellsPlayed", "()V"⟩, 54) := ⟨⟨by decide +kernel, by decide +kernel⟩, List.mem_of_getElem? (i := 1400) (by decide +kernel), List.mem_of_getElem? (i := 2116) (by decide +kernel), List.mem_of_getElem? (i := 2117) (by decide +kernel)⟩
theorem lw_p142 : lw_okq (⟨"PoleRiverModel", "copies", "(II)V"⟩, 54) := ⟨⟨by decide +kernel, by decide +kernel⟩, List.mem_of_getElem? (i := 1400) (by decide +kernel), List.mem_of_getElem? (i := 2132) (by decide +kernel), List.mem_of_getElem? (i := 2133) (by decide +kernel)⟩
def lw_privs_9 : List (MethodName × Nat) := [(⟨"PoleRiverModel", "keeps", "()V"⟩, 54), (⟨"PoleRiverModel", "brings", "()V"⟩, 54), (⟨"PoleRiverModel", "markedBy", "(I)J"⟩, 54), (⟨"PoleRiverModel", "plays", "(III)V"⟩, 54), (⟨"PoleRiverModel", "drawTruth", "()V"⟩, 54), (⟨"PoleRiverModel", "draw", "(I)I"⟩, 54), (⟨"PoleRiverModel", "does", "(III)I"⟩, 54), (⟨"PoleRiverModel", "soundsAt", "(I)V"⟩, 54), (⟨"PoleRiverModel", "coloursAt", "(II)V"⟩, 54), (⟨"PoleRiverModel", "waits", "()V"⟩, 54), (⟨"PoleRiverModel", "holds", "(IIIII)Z"⟩, 54), (⟨"PoleRiverModel", "goes", "(II)V"⟩, 54), (⟨"PoleRiverModel", "behindEnds", "(I)I"⟩, 54), (⟨"PoleRiverModel", "tellsPlayed", "()V"⟩, 54), (⟨"PoleRiverModel", "copies", "(II)V"⟩, 54)]
theorem lw_r9 : ∀ q ∈ lw_privs_9, lw_okq q := List.forall_mem_cons.mpr ⟨lw_p128, List.forall_mem_cons.mpr ⟨lw_p129, List.forall_mem_cons.mpr ⟨lw_p130, List.forall_mem_cons.mpr ⟨lw_p131, List.forall_mem_cons.mpr ⟨lw_p132, List.forall_mem_cons.mpr ⟨lw_p133, List.forall_mem_cons.mpr ⟨lw_p134, List.forall_mem_cons.mpr ⟨lw_p135, List.forall_mem_cons.mpr ⟨lw_p136, List.forall_mem_cons.mpr ⟨lw_p137, List.forall_mem_cons.mpr ⟨lw_p138, List.forall_mem_cons.mpr ⟨lw_p139, List.forall_mem_cons.mpr ⟨lw_p140, List.forall_mem_cons.mpr ⟨lw_p141, List.forall_mem_cons.mpr ⟨lw_p142, fun _ h => absurd h List.not_mem_nil⟩⟩⟩⟩⟩⟩⟩⟩⟩⟩⟩⟩⟩⟩⟩
def lw_privs : List (MethodName × Nat) := lw_privs_1 ++ (lw_privs_2 ++ (lw_privs_3 ++ (lw_privs_4 ++ (lw_privs_5 ++ (lw_privs_6 ++ (lw_privs_7 ++ (lw_privs_8 ++ (lw_privs_9))))))))
def lw_tbl : List Cond := k2_sels lw_privs ++ tables_1
theorem lw_privs_ok : ∀ q ∈ lw_privs, lw_okq q := by
  show ∀ q ∈ lw_privs_1 ++ (lw_privs_2 ++ (lw_privs_3 ++ (lw_privs_4 ++ (lw_privs_5 ++ (lw_privs_6 ++ (lw_privs_7 ++ (lw_privs_8 ++ (lw_privs_9)))))))), lw_okq q
  exact List.forall_mem_append.mpr ⟨lw_r1, List.forall_mem_append.mpr ⟨lw_r2, List.forall_mem_append.mpr ⟨lw_r3, List.forall_mem_append.mpr ⟨lw_r4, List.forall_mem_append.mpr ⟨lw_r5, List.forall_mem_append.mpr ⟨lw_r6, List.forall_mem_append.mpr ⟨lw_r7, List.forall_mem_append.mpr ⟨lw_r8, lw_r9⟩⟩⟩⟩⟩⟩⟩⟩
/-! ===== BEGIN words of one list among another's, by their places ===== -/
theorem goodIn_r {big : List Cond} (ws : List Cond) (ps : List Nat) (hp : ws = ps.filterMap (fun i => big[i]?)) (h : ws.all goodWord = true) : GoodIn big ws := by
  intro w hw
  have h1 := List.all_eq_true.mp h w hw
  rw [hp] at hw
  obtain ⟨i, -, hi⟩ := List.mem_filterMap.mp hw
  have hm : w ∈ big := by first | exact List.mem_of_getElem? hi | exact List.getElem?_mem hi
  exact ⟨hm, good_of_word h1⟩
theorem goodIn_app {big a b : List Cond} (ha : GoodIn big a) (hb : GoodIn big b) : GoodIn big (a ++ b) := fun w h => (List.mem_append.mp h).elim (ha w) (hb w)
theorem goodIn_ca {big a b : List Cond} {c : Cond} (ha : GoodIn big (c :: a)) (hb : GoodIn big b) : GoodIn big (c :: (a ++ b)) := fun w h => (List.mem_cons.mp h).elim (fun e => ha w (List.mem_cons.mpr (Or.inl e))) (fun h => (List.mem_append.mp h).elim (fun h => ha w (List.mem_cons.mpr (Or.inr h))) (hb w))
theorem goodIn_sub {big ws : List Cond} (hm : ∀ w ∈ ws, w ∈ big) (h : ws.all goodWord = true) : GoodIn big ws := fun w hw => ⟨hm w hw, good_of_word (List.all_eq_true.mp h w hw)⟩
/-! ===== END ===== -/
def RX0 : String := "PoleRiver$Game"
def TX0 : u_T := fun k => match k with
  | 0 => ("PoleRiver$Game", "thinker", "LPoleRiver$Thinker;", true)
  | 1 => ("PoleRiver$Game", "ground", "LPoleRiver$Ground;", true)
  | 2 => ("PoleRiver$Game", "tally", "[I", true)
  | 3 => ("PoleRiver$Game", "parts", "[J", true)
  | 4 => ("PoleRiver$Game", "turnsLeft", "[I", true)
  | 5 => ("PoleRiver$Game", "river", "LPoleRiver$River;", false)
  | 6 => ("PoleRiver$Game", "rule", "LPoleRiver$Rule;", false)
  | 7 => ("PoleRiver$Game", "from", "I", false)
  | 8 => ("PoleRiver$Game", "to", "I", false)
  | 9 => ("PoleRiver$Game", "day", "I", false)
  | 10 => ("PoleRiver$Game", "off", "I", false)
  | _ => ("PoleRiver$Game", "seed", "I", false)
def tyX0 : Nat → FieldType := fun k => match k with
  | 0 => .object "PoleRiver$Thinker"
  | 1 => .object "PoleRiver$Ground"
  | 2 => .array .int
  | 3 => .array .long
  | 4 => .array .int
  | 5 => .object "PoleRiver$River"
  | 6 => .object "PoleRiver$Rule"
  | 7 => .int
  | 8 => .int
  | 9 => .int
  | 10 => .int
  | _ => .int
abbrev wsX00 : List Cond := u_ws RX0 TX0 12
theorem nmX0 : ∀ a, a < 12 → ∀ b, b < 12 → a ≠ b → (TX0 a).2.1 ≠ (TX0 b).2.1 := by decide +kernel
theorem tyX0_ok : ∀ k, k < 12 → parseFieldDescriptor (TX0 k).2.2.1 = some (tyX0 k) := by decide +kernel
abbrev cX0_init : ByteArray := prog_2_method_1_code
def yX0_init : MethodName := ⟨RX0, "<init>", "(LPoleRiver$Thinker;LPoleRiver$Ground;LPoleRiver$State;)V"⟩
abbrev cX0_begin : ByteArray := prog_2_method_2_code
def yX0_begin : MethodName := ⟨RX0, "begin", "(LPoleRiver$State;III)V"⟩
abbrev cX0_draw : ByteArray := prog_2_method_3_code
def yX0_draw : MethodName := ⟨RX0, "draw", "(I)I"⟩
abbrev cX0_drawTruth : ByteArray := prog_2_method_4_code
def yX0_drawTruth : MethodName := ⟨RX0, "drawTruth", "()I"⟩
abbrev cX0_follow : ByteArray := prog_2_method_5_code
def yX0_follow : MethodName := ⟨RX0, "follow", "()I"⟩
abbrev cX0_lineBehindEnd : ByteArray := prog_2_method_6_code
def yX0_lineBehindEnd : MethodName := ⟨RX0, "lineBehindEnd", "(I)I"⟩
abbrev cX0_doStep : ByteArray := prog_2_method_7_code
def yX0_doStep : MethodName := ⟨RX0, "doStep", "(I)I"⟩
abbrev cX0_cellOf : ByteArray := prog_2_method_8_code
def yX0_cellOf : MethodName := ⟨RX0, "cellOf", "(I)I"⟩
abbrev cX0_takeSounding : ByteArray := prog_2_method_9_code
def yX0_takeSounding : MethodName := ⟨RX0, "takeSounding", "(I)V"⟩
abbrev cX0_takeColour : ByteArray := prog_2_method_10_code
def yX0_takeColour : MethodName := ⟨RX0, "takeColour", "(I)V"⟩
abbrev cX0_waitDay : ByteArray := prog_2_method_11_code
def yX0_waitDay : MethodName := ⟨RX0, "waitDay", "()V"⟩
abbrev cX0_putOff : ByteArray := prog_2_method_12_code
def yX0_putOff : MethodName := ⟨RX0, "putOff", "(I)V"⟩
abbrev cX0_isSo : ByteArray := prog_2_method_13_code
def yX0_isSo : MethodName := ⟨RX0, "isSo", "(III)Z"⟩
abbrev cX0_goThrough : ByteArray := prog_2_method_14_code
def yX0_goThrough : MethodName := ⟨RX0, "goThrough", "()I"⟩
def RX1 : String := "PoleRiver$Ground"
def TX1 : u_T := fun k => match k with
  | 0 => ("PoleRiver$Ground", "hasWay", "[Z", true)
  | 1 => ("PoleRiver$Ground", "leastSets", "[I", true)
  | 2 => ("PoleRiver$Ground", "leastCount", "I", false)
  | 3 => ("PoleRiver$Ground", "sums", "[J", true)
  | 4 => ("PoleRiver$Ground", "barCells", "[J", true)
  | 5 => ("PoleRiver$Ground", "rest", "[I", true)
  | 6 => ("PoleRiver$Ground", "kept", "[I", true)
  | 7 => ("PoleRiver$Ground", "keptCells", "I", false)
  | 8 => ("PoleRiver$Ground", "chosen", "I", false)
  | 9 => ("PoleRiver$Ground", "chosenMinutes", "I", false)
  | 10 => ("PoleRiver$Ground", "chosenParts", "J", false)
  | 11 => ("PoleRiver$Ground", "river", "LPoleRiver$River;", false)
  | 12 => ("PoleRiver$Ground", "stage", "I", false)
  | 13 => ("PoleRiver$Ground", "need", "I", false)
  | 14 => ("PoleRiver$Ground", "from", "I", false)
  | 15 => ("PoleRiver$Ground", "to", "I", false)
  | 16 => ("PoleRiver$Ground", "openCells", "J", false)
  | 17 => ("PoleRiver$Ground", "leftEdge", "J", false)
  | _ => ("PoleRiver$Ground", "rightEdge", "J", false)
def tyX1 : Nat → FieldType := fun k => match k with
  | 0 => .array .boolean
  | 1 => .array .int
  | 2 => .int
  | 3 => .array .long
  | 4 => .array .long
  | 5 => .array .int
  | 6 => .array .int
  | 7 => .int
  | 8 => .int
  | 9 => .int
  | 10 => .long
  | 11 => .object "PoleRiver$River"
  | 12 => .int
  | 13 => .int
  | 14 => .int
  | 15 => .int
  | 16 => .long
  | 17 => .long
  | _ => .long
abbrev wsX10 : List Cond := u_ws RX1 TX1 19
theorem nmX1 : ∀ a, a < 19 → ∀ b, b < 19 → a ≠ b → (TX1 a).2.1 ≠ (TX1 b).2.1 := by decide +kernel
theorem tyX1_ok : ∀ k, k < 19 → parseFieldDescriptor (TX1 k).2.2.1 = some (tyX1 k) := by decide +kernel
abbrev cX1_init : ByteArray := prog_3_method_1_code
def yX1_init : MethodName := ⟨RX1, "<init>", "(LPoleRiver$River;)V"⟩
abbrev cX1_look : ByteArray := prog_3_method_2_code
def yX1_look : MethodName := ⟨RX1, "look", "(LPoleRiver$River;II)V"⟩
abbrev cX1_kindOf : ByteArray := prog_3_method_3_code
def yX1_kindOf : MethodName := ⟨RX1, "kindOf", "(I)I"⟩
abbrev cX1_firstStruck : ByteArray := prog_3_method_4_code
def yX1_firstStruck : MethodName := ⟨RX1, "firstStruck", "([JII)I"⟩
abbrev cX1_search : ByteArray := prog_3_method_5_code
def yX1_search : MethodName := ⟨RX1, "search", "(II)Z"⟩
abbrev cX1_hasWayByLess : ByteArray := prog_3_method_6_code
def yX1_hasWayByLess : MethodName := ⟨RX1, "hasWayByLess", "(I)Z"⟩
abbrev cX1_cellsBy : ByteArray := prog_3_method_7_code
def yX1_cellsBy : MethodName := ⟨RX1, "cellsBy", "(I)J"⟩
abbrev cX1_reaches : ByteArray := prog_3_method_8_code
def yX1_reaches : MethodName := ⟨RX1, "reaches", "(J)Z"⟩
abbrev cX1_spread : ByteArray := prog_3_method_9_code
def yX1_spread : MethodName := ⟨RX1, "spread", "(J)J"⟩
abbrev cX1_bestOf : ByteArray := prog_3_method_10_code
def yX1_bestOf : MethodName := ⟨RX1, "bestOf", "([J)J"⟩
abbrev cX1_sumUp : ByteArray := prog_3_method_11_code
def yX1_sumUp : MethodName := ⟨RX1, "sumUp", "([J)V"⟩
abbrev cX1_sumWithout : ByteArray := prog_3_method_12_code
def yX1_sumWithout : MethodName := ⟨RX1, "sumWithout", "(I)J"⟩
abbrev cX1_chooseSurest : ByteArray := prog_3_method_13_code
def yX1_chooseSurest : MethodName := ⟨RX1, "chooseSurest", "([J)V"⟩
abbrev cX1_chooseMean : ByteArray := prog_3_method_14_code
def yX1_chooseMean : MethodName := ⟨RX1, "chooseMean", "([J)J"⟩
abbrev cX1_likelyThere : ByteArray := prog_3_method_15_code
def yX1_likelyThere : MethodName := ⟨RX1, "likelyThere", "(I)J"⟩
abbrev cX1_soonestBy : ByteArray := prog_3_method_16_code
def yX1_soonestBy : MethodName := ⟨RX1, "soonestBy", "(I)I"⟩
abbrev cX1_settle : ByteArray := prog_3_method_17_code
def yX1_settle : MethodName := ⟨RX1, "settle", "(I)Z"⟩
abbrev cX1_minutesBy : ByteArray := prog_3_method_18_code
def yX1_minutesBy : MethodName := ⟨RX1, "minutesBy", "(II)I"⟩
abbrev cX1_soonestHeading : ByteArray := prog_3_method_19_code
def yX1_soonestHeading : MethodName := ⟨RX1, "soonestHeading", "(II)I"⟩
abbrev cX1_keepWay : ByteArray := prog_3_method_20_code
def yX1_keepWay : MethodName := ⟨RX1, "keepWay", "(I)I"⟩
def RX2 : String := "PoleRiver$River"
def TX2 : u_T := fun k => match k with
  | 0 => ("PoleRiver$River", "width", "I", false)
  | 1 => ("PoleRiver$River", "height", "I", false)
  | 2 => ("PoleRiver$River", "bars", "I", false)
  | 3 => ("PoleRiver$River", "draft", "I", false)
  | 4 => ("PoleRiver$River", "load", "I", false)
  | 5 => ("PoleRiver$River", "straight", "I", false)
  | 6 => ("PoleRiver$River", "slant", "I", false)
  | 7 => ("PoleRiver$River", "turn", "I", false)
  | 8 => ("PoleRiver$River", "lost", "I", false)
  | 9 => ("PoleRiver$River", "pole", "I", false)
  | 10 => ("PoleRiver$River", "water", "I", false)
  | 11 => ("PoleRiver$River", "depths", "[I", true)
  | 12 => ("PoleRiver$River", "owners", "[I", true)
  | 13 => ("PoleRiver$River", "stages", "[I", true)
  | 14 => ("PoleRiver$River", "names", "[J", true)
  | 15 => ("PoleRiver$River", "takes", "[I", true)
  | 16 => ("PoleRiver$River", "chances", "[I", true)
  | 17 => ("PoleRiver$River", "goes", "[I", true)
  | 18 => ("PoleRiver$River", "comes", "[I", true)
  | _ => ("PoleRiver$River", "least", "[I", true)
def tyX2 : Nat → FieldType := fun k => match k with
  | 0 => .int
  | 1 => .int
  | 2 => .int
  | 3 => .int
  | 4 => .int
  | 5 => .int
  | 6 => .int
  | 7 => .int
  | 8 => .int
  | 9 => .int
  | 10 => .int
  | 11 => .array .int
  | 12 => .array .int
  | 13 => .array .int
  | 14 => .array .long
  | 15 => .array .int
  | 16 => .array .int
  | 17 => .array .int
  | 18 => .array .int
  | _ => .array .int
abbrev wsX20 : List Cond := u_ws RX2 TX2 20
theorem nmX2 : ∀ a, a < 20 → ∀ b, b < 20 → a ≠ b → (TX2 a).2.1 ≠ (TX2 b).2.1 := by decide +kernel
theorem tyX2_ok : ∀ k, k < 20 → parseFieldDescriptor (TX2 k).2.2.1 = some (tyX2 k) := by decide +kernel
abbrev cX2_init : ByteArray := prog_4_method_1_code
def yX2_init : MethodName := ⟨RX2, "<init>", "()V"⟩
abbrev cX2_clear : ByteArray := prog_4_method_2_code
def yX2_clear : MethodName := ⟨RX2, "clear", "()V"⟩
abbrev cX2_copyFrom : ByteArray := prog_4_method_3_code
def yX2_copyFrom : MethodName := ⟨RX2, "copyFrom", "(LPoleRiver$River;)V"⟩
abbrev cX2_cellCount : ByteArray := prog_4_method_4_code
def yX2_cellCount : MethodName := ⟨RX2, "cellCount", "()I"⟩
abbrev cX2_setCount : ByteArray := prog_4_method_5_code
def yX2_setCount : MethodName := ⟨RX2, "setCount", "()I"⟩
abbrev cX2_barNamed : ByteArray := prog_4_method_6_code
def yX2_barNamed : MethodName := ⟨RX2, "barNamed", "(J)I"⟩
abbrev cX2_cellsOf : ByteArray := prog_4_method_7_code
def yX2_cellsOf : MethodName := ⟨RX2, "cellsOf", "(I)I"⟩
abbrev cX2_stageOn : ByteArray := prog_4_method_8_code
def yX2_stageOn : MethodName := ⟨RX2, "stageOn", "(I)I"⟩
abbrev cX2_depthAt : ByteArray := prog_4_method_9_code
def yX2_depthAt : MethodName := ⟨RX2, "depthAt", "(III)I"⟩
abbrev cX2_likelyRead : ByteArray := prog_4_method_10_code
def yX2_likelyRead : MethodName := ⟨RX2, "likelyRead", "(II)I"⟩
abbrev cX2_beside : ByteArray := prog_4_method_11_code
def yX2_beside : MethodName := ⟨RX2, "beside", "(II)I"⟩
abbrev cX2_headingTo : ByteArray := prog_4_method_12_code
def yX2_headingTo : MethodName := ⟨RX2, "headingTo", "(IJ)I"⟩
abbrev cX2_stepMinutes : ByteArray := prog_4_method_13_code
def yX2_stepMinutes : MethodName := ⟨RX2, "stepMinutes", "(I)I"⟩
abbrev cX2_turnMinutes : ByteArray := prog_4_method_14_code
def yX2_turnMinutes : MethodName := ⟨RX2, "turnMinutes", "(II)I"⟩
abbrev cX2_isWay : ByteArray := prog_4_method_15_code
def yX2_isWay : MethodName := ⟨RX2, "isWay", "([JI)Z"⟩
abbrev cX2_minutesAlong : ByteArray := prog_4_method_16_code
def yX2_minutesAlong : MethodName := ⟨RX2, "minutesAlong", "([JI)I"⟩
def RX3 : String := "PoleRiver$RiverReader"
def TX3 : u_T := fun k => match k with
  | 0 => ("PoleRiver$RiverReader", "text", "LPoleRiver$Text;", true)
  | 1 => ("PoleRiver$RiverReader", "river", "LPoleRiver$River;", false)
  | 2 => ("PoleRiver$RiverReader", "rows", "I", false)
  | 3 => ("PoleRiver$RiverReader", "hasStage", "Z", false)
  | 4 => ("PoleRiver$RiverReader", "hasBoat", "Z", false)
  | 5 => ("PoleRiver$RiverReader", "hasPole", "Z", false)
  | _ => ("PoleRiver$RiverReader", "hasColour", "Z", false)
def tyX3 : Nat → FieldType := fun k => match k with
  | 0 => .object "PoleRiver$Text"
  | 1 => .object "PoleRiver$River"
  | 2 => .int
  | 3 => .boolean
  | 4 => .boolean
  | 5 => .boolean
  | _ => .boolean
abbrev wsX30 : List Cond := u_ws RX3 TX3 7
theorem nmX3 : ∀ a, a < 7 → ∀ b, b < 7 → a ≠ b → (TX3 a).2.1 ≠ (TX3 b).2.1 := by decide +kernel
theorem tyX3_ok : ∀ k, k < 7 → parseFieldDescriptor (TX3 k).2.2.1 = some (tyX3 k) := by decide +kernel
abbrev cX3_init : ByteArray := prog_5_method_1_code
def yX3_init : MethodName := ⟨RX3, "<init>", "(LPoleRiver$Text;LPoleRiver$River;)V"⟩
abbrev cX3_parse : ByteArray := prog_5_method_2_code
def yX3_parse : MethodName := ⟨RX3, "parse", "(ILPoleRiver$River;)Z"⟩
abbrev cX3_takeSize : ByteArray := prog_5_method_3_code
def yX3_takeSize : MethodName := ⟨RX3, "takeSize", "()Z"⟩
abbrev cX3_takePart : ByteArray := prog_5_method_4_code
def yX3_takePart : MethodName := ⟨RX3, "takePart", "()Z"⟩
abbrev cX3_takeRow : ByteArray := prog_5_method_5_code
def yX3_takeRow : MethodName := ⟨RX3, "takeRow", "()Z"⟩
abbrev cX3_takeBar : ByteArray := prog_5_method_6_code
def yX3_takeBar : MethodName := ⟨RX3, "takeBar", "()Z"⟩
abbrev cX3_takeAt : ByteArray := prog_5_method_7_code
def yX3_takeAt : MethodName := ⟨RX3, "takeAt", "()Z"⟩
abbrev cX3_giveCells : ByteArray := prog_5_method_8_code
def yX3_giveCells : MethodName := ⟨RX3, "giveCells", "(IIIII)Z"⟩
abbrev cX3_takeStage : ByteArray := prog_5_method_9_code
def yX3_takeStage : MethodName := ⟨RX3, "takeStage", "()Z"⟩
abbrev cX3_takeBoat : ByteArray := prog_5_method_10_code
def yX3_takeBoat : MethodName := ⟨RX3, "takeBoat", "()Z"⟩
abbrev cX3_takePole : ByteArray := prog_5_method_11_code
def yX3_takePole : MethodName := ⟨RX3, "takePole", "()Z"⟩
abbrev cX3_takeColour : ByteArray := prog_5_method_12_code
def yX3_takeColour : MethodName := ⟨RX3, "takeColour", "()Z"⟩
def RX4 : String := "PoleRiver$Rule"
def TX4 : u_T := fun k => match k with
  | 0 => ("PoleRiver$Rule", "lines", "I", false)
  | 1 => ("PoleRiver$Rule", "steps", "I", false)
  | 2 => ("PoleRiver$Rule", "does", "[I", true)
  | 3 => ("PoleRiver$Rule", "bars", "[I", true)
  | 4 => ("PoleRiver$Rule", "numbers", "[I", true)
  | _ => ("PoleRiver$Rule", "partners", "[I", true)
def tyX4 : Nat → FieldType := fun k => match k with
  | 0 => .int
  | 1 => .int
  | 2 => .array .int
  | 3 => .array .int
  | 4 => .array .int
  | _ => .array .int
abbrev wsX40 : List Cond := u_ws RX4 TX4 6
theorem nmX4 : ∀ a, a < 6 → ∀ b, b < 6 → a ≠ b → (TX4 a).2.1 ≠ (TX4 b).2.1 := by decide +kernel
theorem tyX4_ok : ∀ k, k < 6 → parseFieldDescriptor (TX4 k).2.2.1 = some (tyX4 k) := by decide +kernel
abbrev cX4_init : ByteArray := prog_6_method_1_code
def yX4_init : MethodName := ⟨RX4, "<init>", "()V"⟩
abbrev cX4_copyFrom : ByteArray := prog_6_method_2_code
def yX4_copyFrom : MethodName := ⟨RX4, "copyFrom", "(LPoleRiver$Rule;)V"⟩
abbrev cX4_add : ByteArray := prog_6_method_3_code
def yX4_add : MethodName := ⟨RX4, "add", "(I)I"⟩
def RX5 : String := "PoleRiver$RuleReader"
def TX5 : u_T := fun k => match k with
  | 0 => ("PoleRiver$RuleReader", "text", "LPoleRiver$Text;", true)
  | 1 => ("PoleRiver$RuleReader", "opened", "[I", true)
  | 2 => ("PoleRiver$RuleReader", "rule", "LPoleRiver$Rule;", false)
  | 3 => ("PoleRiver$RuleReader", "river", "LPoleRiver$River;", false)
  | _ => ("PoleRiver$RuleReader", "deep", "I", false)
def tyX5 : Nat → FieldType := fun k => match k with
  | 0 => .object "PoleRiver$Text"
  | 1 => .array .int
  | 2 => .object "PoleRiver$Rule"
  | 3 => .object "PoleRiver$River"
  | _ => .int
abbrev wsX50 : List Cond := u_ws RX5 TX5 5
theorem nmX5 : ∀ a, a < 5 → ∀ b, b < 5 → a ≠ b → (TX5 a).2.1 ≠ (TX5 b).2.1 := by decide +kernel
theorem tyX5_ok : ∀ k, k < 5 → parseFieldDescriptor (TX5 k).2.2.1 = some (tyX5 k) := by decide +kernel
abbrev cX5_init : ByteArray := prog_7_method_1_code
def yX5_init : MethodName := ⟨RX5, "<init>", "(LPoleRiver$Text;LPoleRiver$Rule;LPoleRiver$River;)V"⟩
abbrev cX5_parse : ByteArray := prog_7_method_2_code
def yX5_parse : MethodName := ⟨RX5, "parse", "(ILPoleRiver$Rule;LPoleRiver$River;)Z"⟩
abbrev cX5_takeEnd : ByteArray := prog_7_method_3_code
def yX5_takeEnd : MethodName := ⟨RX5, "takeEnd", "()Z"⟩
abbrev cX5_takeStep : ByteArray := prog_7_method_4_code
def yX5_takeStep : MethodName := ⟨RX5, "takeStep", "()Z"⟩
abbrev cX5_wordOfStep : ByteArray := prog_7_method_5_code
def yX5_wordOfStep : MethodName := ⟨RX5, "wordOfStep", "()I"⟩
abbrev cX5_takeRest : ByteArray := prog_7_method_6_code
def yX5_takeRest : MethodName := ⟨RX5, "takeRest", "(II)Z"⟩
abbrev cX5_takeWhat : ByteArray := prog_7_method_7_code
def yX5_takeWhat : MethodName := ⟨RX5, "takeWhat", "(I)Z"⟩
abbrev cX5_takeBarName : ByteArray := prog_7_method_8_code
def yX5_takeBarName : MethodName := ⟨RX5, "takeBarName", "(I)Z"⟩
abbrev cX5_takeCount : ByteArray := prog_7_method_9_code
def yX5_takeCount : MethodName := ⟨RX5, "takeCount", "(III)Z"⟩
def RX6 : String := "PoleRiver$Scout"
def TX6 : u_T := fun k => match k with
  | 0 => ("PoleRiver$Scout", "ground", "LPoleRiver$Ground;", true)
  | 1 => ("PoleRiver$Scout", "weights", "[[J", true)
  | 2 => ("PoleRiver$Scout", "river", "LPoleRiver$River;", false)
  | 3 => ("PoleRiver$Scout", "stage", "I", false)
  | _ => ("PoleRiver$Scout", "canSound", "Z", false)
def tyX6 : Nat → FieldType := fun k => match k with
  | 0 => .object "PoleRiver$Ground"
  | 1 => .array (.array .long)
  | 2 => .object "PoleRiver$River"
  | 3 => .int
  | _ => .boolean
abbrev wsX60 : List Cond := u_ws RX6 TX6 5
theorem nmX6 : ∀ a, a < 5 → ∀ b, b < 5 → a ≠ b → (TX6 a).2.1 ≠ (TX6 b).2.1 := by decide +kernel
theorem tyX6_ok : ∀ k, k < 5 → parseFieldDescriptor (TX6 k).2.2.1 = some (tyX6 k) := by decide +kernel
abbrev cX6_init : ByteArray := prog_8_method_1_code
def yX6_init : MethodName := ⟨RX6, "<init>", "(LPoleRiver$Ground;LPoleRiver$River;)V"⟩
abbrev cX6_begin : ByteArray := prog_8_method_2_code
def yX6_begin : MethodName := ⟨RX6, "begin", "(LPoleRiver$State;I)V"⟩
abbrev cX6_wholeOf : ByteArray := prog_8_method_3_code
def yX6_wholeOf : MethodName := ⟨RX6, "wholeOf", "(I)J"⟩
abbrev cX6_worthOf : ByteArray := prog_8_method_4_code
def yX6_worthOf : MethodName := ⟨RX6, "worthOf", "(I)J"⟩
abbrev cX6_firstBest : ByteArray := prog_8_method_5_code
def yX6_firstBest : MethodName := ⟨RX6, "firstBest", "(I)I"⟩
abbrev cX6_worthAt : ByteArray := prog_8_method_6_code
def yX6_worthAt : MethodName := ⟨RX6, "worthAt", "(II)J"⟩
abbrev cX6_worthBehind : ByteArray := prog_8_method_7_code
def yX6_worthBehind : MethodName := ⟨RX6, "worthBehind", "(IIII)J"⟩
def RX7 : String := "PoleRiver$State"
def TX7 : u_T := fun k => match k with
  | 0 => ("PoleRiver$State", "river", "LPoleRiver$River;", false)
  | 1 => ("PoleRiver$State", "rule", "LPoleRiver$Rule;", false)
  | 2 => ("PoleRiver$State", "parts", "[J", true)
  | 3 => ("PoleRiver$State", "day", "I", false)
  | _ => ("PoleRiver$State", "off", "I", false)
def tyX7 : Nat → FieldType := fun k => match k with
  | 0 => .object "PoleRiver$River"
  | 1 => .object "PoleRiver$Rule"
  | 2 => .array .long
  | 3 => .int
  | _ => .int
abbrev wsX70 : List Cond := u_ws RX7 TX7 5
theorem nmX7 : ∀ a, a < 5 → ∀ b, b < 5 → a ≠ b → (TX7 a).2.1 ≠ (TX7 b).2.1 := by decide +kernel
theorem tyX7_ok : ∀ k, k < 5 → parseFieldDescriptor (TX7 k).2.2.1 = some (tyX7 k) := by decide +kernel
abbrev cX7_init : ByteArray := prog_9_method_1_code
def yX7_init : MethodName := ⟨RX7, "<init>", "()V"⟩
abbrev cX7_copyFrom : ByteArray := prog_9_method_2_code
def yX7_copyFrom : MethodName := ⟨RX7, "copyFrom", "(LPoleRiver$State;)V"⟩
def RX8 : String := "PoleRiver$Text"
def TX8 : u_T := fun k => match k with
  | 0 => ("PoleRiver$Text", "bytes", "[B", true)
  | 1 => ("PoleRiver$Text", "many", "I", false)
  | 2 => ("PoleRiver$Text", "limit", "I", false)
  | 3 => ("PoleRiver$Text", "at", "I", false)
  | 4 => ("PoleRiver$Text", "kind", "I", false)
  | 5 => ("PoleRiver$Text", "begin", "I", false)
  | 6 => ("PoleRiver$Text", "word", "J", false)
  | 7 => ("PoleRiver$Text", "number", "I", false)
  | 8 => ("PoleRiver$Text", "taken", "I", false)
  | 9 => ("PoleRiver$Text", "fault", "I", false)
  | _ => ("PoleRiver$Text", "place", "I", false)
def tyX8 : Nat → FieldType := fun k => match k with
  | 0 => .array .byte
  | 1 => .int
  | 2 => .int
  | 3 => .int
  | 4 => .int
  | 5 => .int
  | 6 => .long
  | 7 => .int
  | 8 => .int
  | 9 => .int
  | _ => .int
abbrev wsX80 : List Cond := u_ws RX8 TX8 11
theorem nmX8 : ∀ a, a < 11 → ∀ b, b < 11 → a ≠ b → (TX8 a).2.1 ≠ (TX8 b).2.1 := by decide +kernel
theorem tyX8_ok : ∀ k, k < 11 → parseFieldDescriptor (TX8 k).2.2.1 = some (tyX8 k) := by decide +kernel
abbrev cX8_init : ByteArray := prog_10_method_1_code
def yX8_init : MethodName := ⟨RX8, "<init>", "()V"⟩
abbrev cX8_append : ByteArray := prog_10_method_2_code
def yX8_append : MethodName := ⟨RX8, "append", "(I)V"⟩
abbrev cX8_start : ByteArray := prog_10_method_3_code
def yX8_start : MethodName := ⟨RX8, "start", "(I)V"⟩
abbrev cX8_advance : ByteArray := prog_10_method_4_code
def yX8_advance : MethodName := ⟨RX8, "advance", "()V"⟩
abbrev cX8_kindOfByte : ByteArray := prog_10_method_5_code
def yX8_kindOfByte : MethodName := ⟨RX8, "kindOfByte", "(I)I"⟩
abbrev cX8_is : ByteArray := prog_10_method_6_code
def yX8_is : MethodName := ⟨RX8, "is", "(Ljava/lang/String;)Z"⟩
abbrev cX8_fail : ByteArray := prog_10_method_7_code
def yX8_fail : MethodName := ⟨RX8, "fail", "(I)Z"⟩
abbrev cX8_failHere : ByteArray := prog_10_method_8_code
def yX8_failHere : MethodName := ⟨RX8, "failHere", "()Z"⟩
abbrev cX8_takeWord : ByteArray := prog_10_method_9_code
def yX8_takeWord : MethodName := ⟨RX8, "takeWord", "(Ljava/lang/String;)Z"⟩
abbrev cX8_takeSign : ByteArray := prog_10_method_10_code
def yX8_takeSign : MethodName := ⟨RX8, "takeSign", "()Z"⟩
abbrev cX8_isNumber : ByteArray := prog_10_method_11_code
def yX8_isNumber : MethodName := ⟨RX8, "isNumber", "(II)Z"⟩
abbrev cX8_takeNumber : ByteArray := prog_10_method_12_code
def yX8_takeNumber : MethodName := ⟨RX8, "takeNumber", "(II)Z"⟩
abbrev cX8_takePair : ByteArray := prog_10_method_13_code
def yX8_takePair : MethodName := ⟨RX8, "takePair", "(Ljava/lang/String;II)Z"⟩
abbrev cX8_isName : ByteArray := prog_10_method_14_code
def yX8_isName : MethodName := ⟨RX8, "isName", "()Z"⟩
abbrev cX8_isReserved : ByteArray := prog_10_method_15_code
def yX8_isReserved : MethodName := ⟨RX8, "isReserved", "()Z"⟩
def RX9 : String := "PoleRiver$Thinker"
def TX9 : u_T := fun k => match k with
  | _ => ("PoleRiver$Thinker", "weights", "[J", true)
def tyX9 : Nat → FieldType := fun k => match k with
  | _ => .array .long
abbrev wsX90 : List Cond := u_ws RX9 TX9 1
theorem nmX9 : ∀ a, a < 1 → ∀ b, b < 1 → a ≠ b → (TX9 a).2.1 ≠ (TX9 b).2.1 := by decide +kernel
theorem tyX9_ok : ∀ k, k < 1 → parseFieldDescriptor (TX9 k).2.2.1 = some (tyX9 k) := by decide +kernel
abbrev cX9_init : ByteArray := prog_11_method_1_code
def yX9_init : MethodName := ⟨RX9, "<init>", "()V"⟩
abbrev cX9_think : ByteArray := prog_11_method_2_code
def yX9_think : MethodName := ⟨RX9, "think", "(LPoleRiver$River;[J)V"⟩
abbrev cX9_passDay : ByteArray := prog_11_method_3_code
def yX9_passDay : MethodName := ⟨RX9, "passDay", "(LPoleRiver$River;[JII)V"⟩
abbrev cX9_hearPole : ByteArray := prog_11_method_4_code
def yX9_hearPole : MethodName := ⟨RX9, "hearPole", "(LPoleRiver$River;[JIII)Z"⟩
abbrev cX9_seeWater : ByteArray := prog_11_method_5_code
def yX9_seeWater : MethodName := ⟨RX9, "seeWater", "(LPoleRiver$River;[JIZ)Z"⟩
abbrev cX9_shareOut : ByteArray := prog_11_method_6_code
def yX9_shareOut : MethodName := ⟨RX9, "shareOut", "([J)Z"⟩
abbrev cX9_partsWith : ByteArray := prog_11_method_7_code
def yX9_partsWith : MethodName := ⟨RX9, "partsWith", "([JI)J"⟩
abbrev cX9_partsWithout : ByteArray := prog_11_method_8_code
def yX9_partsWithout : MethodName := ⟨RX9, "partsWithout", "([JI)J"⟩
def RX10 : String := "PoleRiver$Tray"
def TX10 : u_T := fun k => match k with
  | 0 => ("PoleRiver$Tray", "row", "[J", true)
  | 1 => ("PoleRiver$Tray", "sort", "I", false)
  | _ => ("PoleRiver$Tray", "many", "I", false)
def tyX10 : Nat → FieldType := fun k => match k with
  | 0 => .array .long
  | 1 => .int
  | _ => .int
abbrev wsX100 : List Cond := u_ws RX10 TX10 3
theorem nmX10 : ∀ a, a < 3 → ∀ b, b < 3 → a ≠ b → (TX10 a).2.1 ≠ (TX10 b).2.1 := by decide +kernel
theorem tyX10_ok : ∀ k, k < 3 → parseFieldDescriptor (TX10 k).2.2.1 = some (tyX10 k) := by decide +kernel
abbrev cX10_init : ByteArray := prog_12_method_1_code
def yX10_init : MethodName := ⟨RX10, "<init>", "()V"⟩
abbrev cX10_isMissing : ByteArray := prog_12_method_2_code
def yX10_isMissing : MethodName := ⟨RX10, "isMissing", "()Z"⟩
abbrev cX10_lay : ByteArray := prog_12_method_3_code
def yX10_lay : MethodName := ⟨RX10, "lay", "(II)V"⟩
abbrev cX10_holds : ByteArray := prog_12_method_4_code
def yX10_holds : MethodName := ⟨RX10, "holds", "(II)Z"⟩
abbrev cX10_cut : ByteArray := prog_12_method_5_code
def yX10_cut : MethodName := ⟨RX10, "cut", "(J)J"⟩
def RX11 : String := "PoleRiver"
def TX11 : u_T := fun k => match k with
  | 0 => ("PoleRiver", "trays", "[LPoleRiver$Tray;", true)
  | 1 => ("PoleRiver", "now", "LPoleRiver$State;", true)
  | 2 => ("PoleRiver", "marks", "[LPoleRiver$State;", true)
  | 3 => ("PoleRiver", "spareRiver", "LPoleRiver$River;", false)
  | 4 => ("PoleRiver", "spareRule", "LPoleRiver$Rule;", false)
  | 5 => ("PoleRiver", "text", "LPoleRiver$Text;", true)
  | 6 => ("PoleRiver", "riverReader", "LPoleRiver$RiverReader;", true)
  | 7 => ("PoleRiver", "ruleReader", "LPoleRiver$RuleReader;", true)
  | 8 => ("PoleRiver", "thinker", "LPoleRiver$Thinker;", true)
  | 9 => ("PoleRiver", "ground", "LPoleRiver$Ground;", true)
  | 10 => ("PoleRiver", "scout", "LPoleRiver$Scout;", true)
  | 11 => ("PoleRiver", "game", "LPoleRiver$Game;", true)
  | 12 => ("PoleRiver", "guess", "[J", true)
  | 13 => ("PoleRiver", "lastGame", "[I", true)
  | 14 => ("PoleRiver", "hasPlayed", "Z", false)
  | 15 => ("PoleRiver", "markCount", "I", false)
  | 16 => ("PoleRiver", "status", "I", false)
  | 17 => ("PoleRiver", "top", "J", false)
  | _ => ("PoleRiver", "bottom", "J", false)
def tyX11 : Nat → FieldType := fun k => match k with
  | 0 => .array (.object "PoleRiver$Tray")
  | 1 => .object "PoleRiver$State"
  | 2 => .array (.object "PoleRiver$State")
  | 3 => .object "PoleRiver$River"
  | 4 => .object "PoleRiver$Rule"
  | 5 => .object "PoleRiver$Text"
  | 6 => .object "PoleRiver$RiverReader"
  | 7 => .object "PoleRiver$RuleReader"
  | 8 => .object "PoleRiver$Thinker"
  | 9 => .object "PoleRiver$Ground"
  | 10 => .object "PoleRiver$Scout"
  | 11 => .object "PoleRiver$Game"
  | 12 => .array .long
  | 13 => .array .int
  | 14 => .boolean
  | 15 => .int
  | 16 => .int
  | 17 => .long
  | _ => .long
abbrev wsX110 : List Cond := u_ws RX11 TX11 19
theorem nmX11 : ∀ a, a < 19 → ∀ b, b < 19 → a ≠ b → (TX11 a).2.1 ≠ (TX11 b).2.1 := by decide +kernel
theorem tyX11_ok : ∀ k, k < 19 → parseFieldDescriptor (TX11 k).2.2.1 = some (tyX11 k) := by decide +kernel
abbrev cX11_init : ByteArray := prog_1_method_1_code
def yX11_init : MethodName := ⟨RX11, "<init>", "()V"⟩
abbrev cX11_status : ByteArray := prog_1_method_2_code
def yX11_status : MethodName := ⟨RX11, "status", "()I"⟩
abbrev cX11_top : ByteArray := prog_1_method_3_code
def yX11_top : MethodName := ⟨RX11, "top", "()J"⟩
abbrev cX11_bottom : ByteArray := prog_1_method_4_code
def yX11_bottom : MethodName := ⟨RX11, "bottom", "()J"⟩
abbrev cX11_tray : ByteArray := prog_1_method_5_code
def yX11_tray : MethodName := ⟨RX11, "tray", "(III)Z"⟩
abbrev cX11_write : ByteArray := prog_1_method_6_code
def yX11_write : MethodName := ⟨RX11, "write", "(IIJ)Z"⟩
abbrev cX11_read : ByteArray := prog_1_method_7_code
def yX11_read : MethodName := ⟨RX11, "read", "(II)J"⟩
abbrev cX11_pour : ByteArray := prog_1_method_8_code
def yX11_pour : MethodName := ⟨RX11, "pour", "(IIIII)Z"⟩
abbrev cX11_feed : ByteArray := prog_1_method_9_code
def yX11_feed : MethodName := ⟨RX11, "feed", "(IIIII)I"⟩
abbrev cX11_river : ByteArray := prog_1_method_10_code
def yX11_river : MethodName := ⟨RX11, "river", "(I)I"⟩
abbrev cX11_rule : ByteArray := prog_1_method_11_code
def yX11_rule : MethodName := ⟨RX11, "rule", "(I)I"⟩
abbrev cX11_fault : ByteArray := prog_1_method_12_code
def yX11_fault : MethodName := ⟨RX11, "fault", "(I)I"⟩
abbrev cX11_told : ByteArray := prog_1_method_13_code
def yX11_told : MethodName := ⟨RX11, "told", "(I)I"⟩
abbrev cX11_bar : ByteArray := prog_1_method_14_code
def yX11_bar : MethodName := ⟨RX11, "bar", "(II)I"⟩
abbrev cX11_barOf : ByteArray := prog_1_method_15_code
def yX11_barOf : MethodName := ⟨RX11, "barOf", "(I)I"⟩
abbrev cX11_stage : ByteArray := prog_1_method_16_code
def yX11_stage : MethodName := ⟨RX11, "stage", "(I)I"⟩
abbrev cX11_depth : ByteArray := prog_1_method_17_code
def yX11_depth : MethodName := ⟨RX11, "depth", "(II)I"⟩
abbrev cX11_open : ByteArray := prog_1_method_18_code
def yX11_open : MethodName := ⟨RX11, "open", "(I)I"⟩
abbrev cX11_part : ByteArray := prog_1_method_19_code
def yX11_part : MethodName := ⟨RX11, "part", "(I)I"⟩
abbrev cX11_there : ByteArray := prog_1_method_20_code
def yX11_there : MethodName := ⟨RX11, "there", "(I)Z"⟩
abbrev cX11_chance : ByteArray := prog_1_method_21_code
def yX11_chance : MethodName := ⟨RX11, "chance", "(I)Z"⟩
abbrev cX11_pass : ByteArray := prog_1_method_22_code
def yX11_pass : MethodName := ⟨RX11, "pass", "(I)I"⟩
abbrev cX11_sound : ByteArray := prog_1_method_23_code
def yX11_sound : MethodName := ⟨RX11, "sound", "(II)Z"⟩
abbrev cX11_colour : ByteArray := prog_1_method_24_code
def yX11_colour : MethodName := ⟨RX11, "colour", "(IZ)Z"⟩
abbrev cX11_off : ByteArray := prog_1_method_25_code
def yX11_off : MethodName := ⟨RX11, "off", "(I)Z"⟩
abbrev cX11_forget : ByteArray := prog_1_method_26_code
def yX11_forget : MethodName := ⟨RX11, "forget", "()Z"⟩
abbrev cX11_minutes : ByteArray := prog_1_method_27_code
def yX11_minutes : MethodName := ⟨RX11, "minutes", "(II)I"⟩
abbrev cX11_struck : ByteArray := prog_1_method_28_code
def yX11_struck : MethodName := ⟨RX11, "struck", "(III)I"⟩
abbrev cX11_sure : ByteArray := prog_1_method_29_code
def yX11_sure : MethodName := ⟨RX11, "sure", "(II)Z"⟩
abbrev cX11_soonest : ByteArray := prog_1_method_30_code
def yX11_soonest : MethodName := ⟨RX11, "soonest", "(III)I"⟩
abbrev cX11_surest : ByteArray := prog_1_method_31_code
def yX11_surest : MethodName := ⟨RX11, "surest", "(II)I"⟩
abbrev cX11_mean : ByteArray := prog_1_method_32_code
def yX11_mean : MethodName := ⟨RX11, "mean", "(II)I"⟩
abbrev cX11_length : ByteArray := prog_1_method_33_code
def yX11_length : MethodName := ⟨RX11, "length", "()I"⟩
abbrev cX11_way : ByteArray := prog_1_method_34_code
def yX11_way : MethodName := ⟨RX11, "way", "(I)I"⟩
abbrev cX11_worth : ByteArray := prog_1_method_35_code
def yX11_worth : MethodName := ⟨RX11, "worth", "(III)Z"⟩
abbrev cX11_next : ByteArray := prog_1_method_36_code
def yX11_next : MethodName := ⟨RX11, "next", "(III)I"⟩
abbrev cX11_lieTo : ByteArray := prog_1_method_37_code
def yX11_lieTo : MethodName := ⟨RX11, "lieTo", "(IIII)I"⟩
abbrev cX11_marked : ByteArray := prog_1_method_38_code
def yX11_marked : MethodName := ⟨RX11, "marked", "(III)I"⟩
abbrev cX11_tells : ByteArray := prog_1_method_39_code
def yX11_tells : MethodName := ⟨RX11, "tells", "(II)Z"⟩
abbrev cX11_dredged : ByteArray := prog_1_method_40_code
def yX11_dredged : MethodName := ⟨RX11, "dredged", "(II)I"⟩
abbrev cX11_brush : ByteArray := prog_1_method_41_code
def yX11_brush : MethodName := ⟨RX11, "brush", "(IIIII)Z"⟩
abbrev cX11_lighten : ByteArray := prog_1_method_42_code
def yX11_lighten : MethodName := ⟨RX11, "lighten", "(III)I"⟩
abbrev cX11_play : ByteArray := prog_1_method_43_code
def yX11_play : MethodName := ⟨RX11, "play", "(III)I"⟩
abbrev cX11_played : ByteArray := prog_1_method_44_code
def yX11_played : MethodName := ⟨RX11, "played", "(I)I"⟩
abbrev cX11_tally : ByteArray := prog_1_method_45_code
def yX11_tally : MethodName := ⟨RX11, "tally", "(IIIII)I"⟩
abbrev cX11_mark : ByteArray := prog_1_method_46_code
def yX11_mark : MethodName := ⟨RX11, "mark", "()I"⟩
abbrev cX11_back : ByteArray := prog_1_method_47_code
def yX11_back : MethodName := ⟨RX11, "back", "()I"⟩
abbrev cX11_fail : ByteArray := prog_1_method_48_code
def yX11_fail : MethodName := ⟨RX11, "fail", "(I)I"⟩
abbrev cX11_refuse : ByteArray := prog_1_method_49_code
def yX11_refuse : MethodName := ⟨RX11, "refuse", "(I)Z"⟩
abbrev cX11_answer : ByteArray := prog_1_method_50_code
def yX11_answer : MethodName := ⟨RX11, "answer", "(I)I"⟩
abbrev cX11_agree : ByteArray := prog_1_method_51_code
def yX11_agree : MethodName := ⟨RX11, "agree", "()Z"⟩
abbrev cX11_tellFraction : ByteArray := prog_1_method_52_code
def yX11_tellFraction : MethodName := ⟨RX11, "tellFraction", "(JJ)Z"⟩
abbrev cX11_commonDivisor : ByteArray := prog_1_method_53_code
def yX11_commonDivisor : MethodName := ⟨RX11, "commonDivisor", "(JJ)J"⟩
abbrev cX11_isTray : ByteArray := prog_1_method_54_code
def yX11_isTray : MethodName := ⟨RX11, "isTray", "(I)Z"⟩
abbrev cX11_isCell : ByteArray := prog_1_method_55_code
def yX11_isCell : MethodName := ⟨RX11, "isCell", "(I)Z"⟩
abbrev cX11_isBar : ByteArray := prog_1_method_56_code
def yX11_isBar : MethodName := ⟨RX11, "isBar", "(I)Z"⟩
abbrev cX11_isSet : ByteArray := prog_1_method_57_code
def yX11_isSet : MethodName := ⟨RX11, "isSet", "(I)Z"⟩
abbrev cX11_placeStatus : ByteArray := prog_1_method_58_code
def yX11_placeStatus : MethodName := ⟨RX11, "placeStatus", "(II)I"⟩
abbrev cX11_wayStatus : ByteArray := prog_1_method_59_code
def yX11_wayStatus : MethodName := ⟨RX11, "wayStatus", "(III)I"⟩
abbrev cX11_choiceStatus : ByteArray := prog_1_method_60_code
def yX11_choiceStatus : MethodName := ⟨RX11, "choiceStatus", "(II)I"⟩
abbrev cX11_startAfresh : ByteArray := prog_1_method_61_code
def yX11_startAfresh : MethodName := ⟨RX11, "startAfresh", "()V"⟩
abbrev cX11_copyParts : ByteArray := prog_1_method_62_code
def yX11_copyParts : MethodName := ⟨RX11, "copyParts", "([J[J)V"⟩
abbrev cX11_partsMarked : ByteArray := prog_1_method_63_code
def yX11_partsMarked : MethodName := ⟨RX11, "partsMarked", "(I)J"⟩
abbrev cX11_partsDredged : ByteArray := prog_1_method_64_code
def yX11_partsDredged : MethodName := ⟨RX11, "partsDredged", "(I)J"⟩
def RX12 : String := "PoleRiverModel"
def TX12 : u_T := fun k => match k with
  | 0 => ("PoleRiverModel", "at", "[I", true)
  | 1 => ("PoleRiverModel", "names", "[J", true)
  | 2 => ("PoleRiverModel", "status", "I", false)
  | 3 => ("PoleRiverModel", "top", "J", false)
  | 4 => ("PoleRiverModel", "bottom", "J", false)
  | 5 => ("PoleRiverModel", "sort", "[I", true)
  | 6 => ("PoleRiverModel", "trayMany", "[I", true)
  | 7 => ("PoleRiverModel", "trays", "[J", true)
  | 8 => ("PoleRiverModel", "tape", "[B", true)
  | 9 => ("PoleRiverModel", "text", "[B", true)
  | 10 => ("PoleRiverModel", "taped", "I", false)
  | 11 => ("PoleRiverModel", "size", "I", false)
  | 12 => ("PoleRiverModel", "token", "I", false)
  | 13 => ("PoleRiverModel", "from", "I", false)
  | 14 => ("PoleRiverModel", "end", "I", false)
  | 15 => ("PoleRiverModel", "value", "I", false)
  | 16 => ("PoleRiverModel", "faultKind", "I", false)
  | 17 => ("PoleRiverModel", "faultPlace", "I", false)
  | 18 => ("PoleRiverModel", "faults", "I", false)
  | 19 => ("PoleRiverModel", "seen", "I", false)
  | 20 => ("PoleRiverModel", "rowsTold", "I", false)
  | 21 => ("PoleRiverModel", "corner", "[I", true)
  | 22 => ("PoleRiverModel", "version", "I", false)
  | 23 => ("PoleRiverModel", "opened", "[I", true)
  | 24 => ("PoleRiverModel", "depth", "I", false)
  | 25 => ("PoleRiverModel", "steps", "I", false)
  | 26 => ("PoleRiverModel", "weights", "[J", true)
  | 27 => ("PoleRiverModel", "others", "[J", true)
  | 28 => ("PoleRiverModel", "minutesTo", "[I", true)
  | 29 => ("PoleRiverModel", "mayGo", "[Z", true)
  | 30 => ("PoleRiverModel", "fewest", "[I", true)
  | 31 => ("PoleRiverModel", "keptFrom", "I", false)
  | 32 => ("PoleRiverModel", "keptTo", "I", false)
  | 33 => ("PoleRiverModel", "keptNeed", "I", false)
  | 34 => ("PoleRiverModel", "keptVersion", "I", false)
  | 35 => ("PoleRiverModel", "wayCell", "[I", true)
  | 36 => ("PoleRiverModel", "wayMany", "I", false)
  | 37 => ("PoleRiverModel", "level", "[J", true)
  | 38 => ("PoleRiverModel", "keptParts", "[I", true)
  | 39 => ("PoleRiverModel", "keptDay", "I", false)
  | 40 => ("PoleRiverModel", "keptOff", "I", false)
  | 41 => ("PoleRiverModel", "drawn", "I", false)
  | 42 => ("PoleRiverModel", "truth", "I", false)
  | 43 => ("PoleRiverModel", "ranMinutes", "I", false)
  | 44 => ("PoleRiverModel", "ranSteps", "I", false)
  | 45 => ("PoleRiverModel", "ranSounded", "I", false)
  | 46 => ("PoleRiverModel", "ranDays", "I", false)
  | 47 => ("PoleRiverModel", "ranWent", "I", false)
  | 48 => ("PoleRiverModel", "ranLeft", "I", false)
  | 49 => ("PoleRiverModel", "ranEnd", "I", false)
  | 50 => ("PoleRiverModel", "rounds", "[I", true)
  | 51 => ("PoleRiverModel", "played", "[I", true)
  | 52 => ("PoleRiverModel", "isPlayed", "Z", false)
  | _ => ("PoleRiverModel", "marks", "I", false)
def tyX12 : Nat → FieldType := fun k => match k with
  | 0 => .array .int
  | 1 => .array .long
  | 2 => .int
  | 3 => .long
  | 4 => .long
  | 5 => .array .int
  | 6 => .array .int
  | 7 => .array .long
  | 8 => .array .byte
  | 9 => .array .byte
  | 10 => .int
  | 11 => .int
  | 12 => .int
  | 13 => .int
  | 14 => .int
  | 15 => .int
  | 16 => .int
  | 17 => .int
  | 18 => .int
  | 19 => .int
  | 20 => .int
  | 21 => .array .int
  | 22 => .int
  | 23 => .array .int
  | 24 => .int
  | 25 => .int
  | 26 => .array .long
  | 27 => .array .long
  | 28 => .array .int
  | 29 => .array .boolean
  | 30 => .array .int
  | 31 => .int
  | 32 => .int
  | 33 => .int
  | 34 => .int
  | 35 => .array .int
  | 36 => .int
  | 37 => .array .long
  | 38 => .array .int
  | 39 => .int
  | 40 => .int
  | 41 => .int
  | 42 => .int
  | 43 => .int
  | 44 => .int
  | 45 => .int
  | 46 => .int
  | 47 => .int
  | 48 => .int
  | 49 => .int
  | 50 => .array .int
  | 51 => .array .int
  | 52 => .boolean
  | _ => .int
abbrev wsX120 : List Cond := u_ws RX12 TX12 54
theorem nmX12 : ∀ a, a < 54 → ∀ b, b < 54 → a ≠ b → (TX12 a).2.1 ≠ (TX12 b).2.1 := by decide +kernel
theorem tyX12_ok : ∀ k, k < 54 → parseFieldDescriptor (TX12 k).2.2.1 = some (tyX12 k) := by decide +kernel
abbrev cX12_init : ByteArray := prog_14_method_1_code
def yX12_init : MethodName := ⟨RX12, "<init>", "()V"⟩
abbrev cX12_plain : ByteArray := prog_14_method_2_code
def yX12_plain : MethodName := ⟨RX12, "plain", "(I)V"⟩
abbrev cX12_status : ByteArray := prog_14_method_3_code
def yX12_status : MethodName := ⟨RX12, "status", "()I"⟩
abbrev cX12_top : ByteArray := prog_14_method_4_code
def yX12_top : MethodName := ⟨RX12, "top", "()J"⟩
abbrev cX12_bottom : ByteArray := prog_14_method_5_code
def yX12_bottom : MethodName := ⟨RX12, "bottom", "()J"⟩
abbrev cX12_is : ByteArray := prog_14_method_6_code
def yX12_is : MethodName := ⟨RX12, "is", "(I)Z"⟩
abbrev cX12_refuse : ByteArray := prog_14_method_7_code
def yX12_refuse : MethodName := ⟨RX12, "refuse", "(I)I"⟩
abbrev cX12_gives : ByteArray := prog_14_method_8_code
def yX12_gives : MethodName := ⟨RX12, "gives", "(I)I"⟩
abbrev cX12_tellsBy : ByteArray := prog_14_method_9_code
def yX12_tellsBy : MethodName := ⟨RX12, "tellsBy", "(JJ)Z"⟩
abbrev cX12_isTray : ByteArray := prog_14_method_10_code
def yX12_isTray : MethodName := ⟨RX12, "isTray", "(I)Z"⟩
abbrev cX12_cut : ByteArray := prog_14_method_11_code
def yX12_cut : MethodName := ⟨RX12, "cut", "(JI)J"⟩
abbrev cX12_tray : ByteArray := prog_14_method_12_code
def yX12_tray : MethodName := ⟨RX12, "tray", "(III)Z"⟩
abbrev cX12_wrongPlace : ByteArray := prog_14_method_13_code
def yX12_wrongPlace : MethodName := ⟨RX12, "wrongPlace", "(II)I"⟩
abbrev cX12_write : ByteArray := prog_14_method_14_code
def yX12_write : MethodName := ⟨RX12, "write", "(IIJ)Z"⟩
abbrev cX12_read : ByteArray := prog_14_method_15_code
def yX12_read : MethodName := ⟨RX12, "read", "(II)J"⟩
abbrev cX12_pour : ByteArray := prog_14_method_16_code
def yX12_pour : MethodName := ⟨RX12, "pour", "(IIIII)Z"⟩
abbrev cX12_isFrom : ByteArray := prog_14_method_17_code
def yX12_isFrom : MethodName := ⟨RX12, "isFrom", "(JJJ)Z"⟩
abbrev cX12_feed : ByteArray := prog_14_method_18_code
def yX12_feed : MethodName := ⟨RX12, "feed", "(IIIII)I"⟩
abbrev cX12_four : ByteArray := prog_14_method_19_code
def yX12_four : MethodName := ⟨RX12, "four", "(I)V"⟩
abbrev cX12_byteAt : ByteArray := prog_14_method_20_code
def yX12_byteAt : MethodName := ⟨RX12, "byteAt", "(I)I"⟩
abbrev cX12_isSmall : ByteArray := prog_14_method_21_code
def yX12_isSmall : MethodName := ⟨RX12, "isSmall", "(I)Z"⟩
abbrev cX12_isDigit : ByteArray := prog_14_method_22_code
def yX12_isDigit : MethodName := ⟨RX12, "isDigit", "(I)Z"⟩
abbrev cX12_ahead : ByteArray := prog_14_method_23_code
def yX12_ahead : MethodName := ⟨RX12, "ahead", "()V"⟩
abbrev cX12_isSign : ByteArray := prog_14_method_24_code
def yX12_isSign : MethodName := ⟨RX12, "isSign", "(I)Z"⟩
abbrev cX12_inWords : ByteArray := prog_14_method_25_code
def yX12_inWords : MethodName := ⟨RX12, "inWords", "(Ljava/lang/String;)I"⟩
abbrev cX12_fails : ByteArray := prog_14_method_26_code
def yX12_fails : MethodName := ⟨RX12, "fails", "(I)Z"⟩
abbrev cX12_begins : ByteArray := prog_14_method_27_code
def yX12_begins : MethodName := ⟨RX12, "begins", "(II)Z"⟩
abbrev cX12_wantSign : ByteArray := prog_14_method_28_code
def yX12_wantSign : MethodName := ⟨RX12, "wantSign", "(I)Z"⟩
abbrev cX12_wantWord : ByteArray := prog_14_method_29_code
def yX12_wantWord : MethodName := ⟨RX12, "wantWord", "(Ljava/lang/String;I)Z"⟩
abbrev cX12_number : ByteArray := prog_14_method_30_code
def yX12_number : MethodName := ⟨RX12, "number", "(III)Z"⟩
abbrev cX12_isName : ByteArray := prog_14_method_31_code
def yX12_isName : MethodName := ⟨RX12, "isName", "(Ljava/lang/String;)Z"⟩
abbrev cX12_nameHere : ByteArray := prog_14_method_32_code
def yX12_nameHere : MethodName := ⟨RX12, "nameHere", "()J"⟩
abbrev cX12_findHere : ByteArray := prog_14_method_33_code
def yX12_findHere : MethodName := ⟨RX12, "findHere", "(II)I"⟩
abbrev cX12_fault : ByteArray := prog_14_method_34_code
def yX12_fault : MethodName := ⟨RX12, "fault", "(I)I"⟩
abbrev cX12_taken : ByteArray := prog_14_method_35_code
def yX12_taken : MethodName := ⟨RX12, "taken", "(I)I"⟩
abbrev cX12_aRow : ByteArray := prog_14_method_36_code
def yX12_aRow : MethodName := ⟨RX12, "aRow", "()Z"⟩
abbrev cX12_aBar : ByteArray := prog_14_method_37_code
def yX12_aBar : MethodName := ⟨RX12, "aBar", "()Z"⟩
abbrev cX12_someCells : ByteArray := prog_14_method_38_code
def yX12_someCells : MethodName := ⟨RX12, "someCells", "()Z"⟩
abbrev cX12_someStages : ByteArray := prog_14_method_39_code
def yX12_someStages : MethodName := ⟨RX12, "someStages", "()Z"⟩
abbrev cX12_aBoat : ByteArray := prog_14_method_40_code
def yX12_aBoat : MethodName := ⟨RX12, "aBoat", "()Z"⟩
abbrev cX12_riverPart : ByteArray := prog_14_method_41_code
def yX12_riverPart : MethodName := ⟨RX12, "riverPart", "()Z"⟩
abbrev cX12_river : ByteArray := prog_14_method_42_code
def yX12_river : MethodName := ⟨RX12, "river", "(I)I"⟩
abbrev cX12_ruleName : ByteArray := prog_14_method_43_code
def yX12_ruleName : MethodName := ⟨RX12, "ruleName", "(I)Z"⟩
abbrev cX12_step : ByteArray := prog_14_method_44_code
def yX12_step : MethodName := ⟨RX12, "step", "()Z"⟩
abbrev cX12_rule : ByteArray := prog_14_method_45_code
def yX12_rule : MethodName := ⟨RX12, "rule", "(I)I"⟩
abbrev cX12_cells : ByteArray := prog_14_method_46_code
def yX12_cells : MethodName := ⟨RX12, "cells", "()I"⟩
abbrev cX12_isCell : ByteArray := prog_14_method_47_code
def yX12_isCell : MethodName := ⟨RX12, "isCell", "(J)Z"⟩
abbrev cX12_isBar : ByteArray := prog_14_method_48_code
def yX12_isBar : MethodName := ⟨RX12, "isBar", "(I)Z"⟩
abbrev cX12_sets : ByteArray := prog_14_method_49_code
def yX12_sets : MethodName := ⟨RX12, "sets", "()I"⟩
abbrev cX12_isSet : ByteArray := prog_14_method_50_code
def yX12_isSet : MethodName := ⟨RX12, "isSet", "(I)Z"⟩
abbrev cX12_ofBar : ByteArray := prog_14_method_51_code
def yX12_ofBar : MethodName := ⟨RX12, "ofBar", "(II)I"⟩
abbrev cX12_stageOf : ByteArray := prog_14_method_52_code
def yX12_stageOf : MethodName := ⟨RX12, "stageOf", "(I)I"⟩
abbrev cX12_cellOf : ByteArray := prog_14_method_53_code
def yX12_cellOf : MethodName := ⟨RX12, "cellOf", "(I)I"⟩
abbrev cX12_told : ByteArray := prog_14_method_54_code
def yX12_told : MethodName := ⟨RX12, "told", "(I)I"⟩
abbrev cX12_bar : ByteArray := prog_14_method_55_code
def yX12_bar : MethodName := ⟨RX12, "bar", "(II)I"⟩
abbrev cX12_barOf : ByteArray := prog_14_method_56_code
def yX12_barOf : MethodName := ⟨RX12, "barOf", "(I)I"⟩
abbrev cX12_stage : ByteArray := prog_14_method_57_code
def yX12_stage : MethodName := ⟨RX12, "stage", "(I)I"⟩
abbrev cX12_depthOf : ByteArray := prog_14_method_58_code
def yX12_depthOf : MethodName := ⟨RX12, "depthOf", "(II)I"⟩
abbrev cX12_depth : ByteArray := prog_14_method_59_code
def yX12_depth : MethodName := ⟨RX12, "depth", "(II)I"⟩
abbrev cX12_passes : ByteArray := prog_14_method_60_code
def yX12_passes : MethodName := ⟨RX12, "passes", "(II)Z"⟩
abbrev cX12_openOf : ByteArray := prog_14_method_61_code
def yX12_openOf : MethodName := ⟨RX12, "openOf", "(I)I"⟩
abbrev cX12_open : ByteArray := prog_14_method_62_code
def yX12_open : MethodName := ⟨RX12, "open", "(I)I"⟩
abbrev cX12_sharesOut : ByteArray := prog_14_method_63_code
def yX12_sharesOut : MethodName := ⟨RX12, "sharesOut", "()Z"⟩
abbrev cX12_first : ByteArray := prog_14_method_64_code
def yX12_first : MethodName := ⟨RX12, "first", "()V"⟩
abbrev cX12_passDay : ByteArray := prog_14_method_65_code
def yX12_passDay : MethodName := ⟨RX12, "passDay", "(II)V"⟩
abbrev cX12_weighs : ByteArray := prog_14_method_66_code
def yX12_weighs : MethodName := ⟨RX12, "weighs", "(II)I"⟩
abbrev cX12_sounds : ByteArray := prog_14_method_67_code
def yX12_sounds : MethodName := ⟨RX12, "sounds", "(II)Z"⟩
abbrev cX12_colours : ByteArray := prog_14_method_68_code
def yX12_colours : MethodName := ⟨RX12, "colours", "(IZ)Z"⟩
abbrev cX12_part : ByteArray := prog_14_method_69_code
def yX12_part : MethodName := ⟨RX12, "part", "(I)I"⟩
abbrev cX12_partsOf : ByteArray := prog_14_method_70_code
def yX12_partsOf : MethodName := ⟨RX12, "partsOf", "(II)J"⟩
abbrev cX12_there : ByteArray := prog_14_method_71_code
def yX12_there : MethodName := ⟨RX12, "there", "(I)Z"⟩
abbrev cX12_chance : ByteArray := prog_14_method_72_code
def yX12_chance : MethodName := ⟨RX12, "chance", "(I)Z"⟩
abbrev cX12_pass : ByteArray := prog_14_method_73_code
def yX12_pass : MethodName := ⟨RX12, "pass", "(I)I"⟩
abbrev cX12_sound : ByteArray := prog_14_method_74_code
def yX12_sound : MethodName := ⟨RX12, "sound", "(II)Z"⟩
abbrev cX12_colour : ByteArray := prog_14_method_75_code
def yX12_colour : MethodName := ⟨RX12, "colour", "(IZ)Z"⟩
abbrev cX12_off : ByteArray := prog_14_method_76_code
def yX12_off : MethodName := ⟨RX12, "off", "(I)Z"⟩
abbrev cX12_forget : ByteArray := prog_14_method_77_code
def yX12_forget : MethodName := ⟨RX12, "forget", "()Z"⟩
abbrev cX12_leads : ByteArray := prog_14_method_78_code
def yX12_leads : MethodName := ⟨RX12, "leads", "(II)I"⟩
abbrev cX12_headingTo : ByteArray := prog_14_method_79_code
def yX12_headingTo : MethodName := ⟨RX12, "headingTo", "(II)I"⟩
abbrev cX12_stepMinutes : ByteArray := prog_14_method_80_code
def yX12_stepMinutes : MethodName := ⟨RX12, "stepMinutes", "(II)I"⟩
abbrev cX12_wrongWay : ByteArray := prog_14_method_81_code
def yX12_wrongWay : MethodName := ⟨RX12, "wrongWay", "(II)I"⟩
abbrev cX12_minutes : ByteArray := prog_14_method_82_code
def yX12_minutes : MethodName := ⟨RX12, "minutes", "(II)I"⟩
abbrev cX12_struckAt : ByteArray := prog_14_method_83_code
def yX12_struckAt : MethodName := ⟨RX12, "struckAt", "(III)I"⟩
abbrev cX12_struck : ByteArray := prog_14_method_84_code
def yX12_struck : MethodName := ⟨RX12, "struck", "(III)I"⟩
abbrev cX12_sure : ByteArray := prog_14_method_85_code
def yX12_sure : MethodName := ⟨RX12, "sure", "(II)Z"⟩
abbrev cX12_reckons : ByteArray := prog_14_method_86_code
def yX12_reckons : MethodName := ⟨RX12, "reckons", "(II)V"⟩
abbrev cX12_betters : ByteArray := prog_14_method_87_code
def yX12_betters : MethodName := ⟨RX12, "betters", "(II)Z"⟩
abbrev cX12_readies : ByteArray := prog_14_method_88_code
def yX12_readies : MethodName := ⟨RX12, "readies", "(II)V"⟩
abbrev cX12_walks : ByteArray := prog_14_method_89_code
def yX12_walks : MethodName := ⟨RX12, "walks", "(III)V"⟩
abbrev cX12_soonest : ByteArray := prog_14_method_90_code
def yX12_soonest : MethodName := ⟨RX12, "soonest", "(III)I"⟩
abbrev cX12_surestOf : ByteArray := prog_14_method_91_code
def yX12_surestOf : MethodName := ⟨RX12, "surestOf", "(II)I"⟩
abbrev cX12_areCells : ByteArray := prog_14_method_92_code
def yX12_areCells : MethodName := ⟨RX12, "areCells", "(II)Z"⟩
abbrev cX12_surest : ByteArray := prog_14_method_93_code
def yX12_surest : MethodName := ⟨RX12, "surest", "(II)I"⟩
abbrev cX12_meanOf : ByteArray := prog_14_method_94_code
def yX12_meanOf : MethodName := ⟨RX12, "meanOf", "(I)J"⟩
abbrev cX12_mean : ByteArray := prog_14_method_95_code
def yX12_mean : MethodName := ⟨RX12, "mean", "(II)I"⟩
abbrev cX12_length : ByteArray := prog_14_method_96_code
def yX12_length : MethodName := ⟨RX12, "length", "()I"⟩
abbrev cX12_way : ByteArray := prog_14_method_97_code
def yX12_way : MethodName := ⟨RX12, "way", "(I)I"⟩
abbrev cX12_worth0 : ByteArray := prog_14_method_98_code
def yX12_worth0 : MethodName := ⟨RX12, "worth0", "(I)J"⟩
abbrev cX12_reads : ByteArray := prog_14_method_99_code
def yX12_reads : MethodName := ⟨RX12, "reads", "(III)Z"⟩
abbrev cX12_readFrom : ByteArray := prog_14_method_100_code
def yX12_readFrom : MethodName := ⟨RX12, "readFrom", "(I)I"⟩
abbrev cX12_readTo : ByteArray := prog_14_method_101_code
def yX12_readTo : MethodName := ⟨RX12, "readTo", "(I)I"⟩
abbrev cX12_hasCell : ByteArray := prog_14_method_102_code
def yX12_hasCell : MethodName := ⟨RX12, "hasCell", "(I)Z"⟩
abbrev cX12_worth1 : ByteArray := prog_14_method_103_code
def yX12_worth1 : MethodName := ⟨RX12, "worth1", "(I)J"⟩
abbrev cX12_worthOf1 : ByteArray := prog_14_method_104_code
def yX12_worthOf1 : MethodName := ⟨RX12, "worthOf1", "(II)J"⟩
abbrev cX12_worth2 : ByteArray := prog_14_method_105_code
def yX12_worth2 : MethodName := ⟨RX12, "worth2", "(I)J"⟩
abbrev cX12_worthOf2 : ByteArray := prog_14_method_106_code
def yX12_worthOf2 : MethodName := ⟨RX12, "worthOf2", "(II)J"⟩
abbrev cX12_worthOf3 : ByteArray := prog_14_method_107_code
def yX12_worthOf3 : MethodName := ⟨RX12, "worthOf3", "(I)J"⟩
abbrev cX12_worthOf : ByteArray := prog_14_method_108_code
def yX12_worthOf : MethodName := ⟨RX12, "worthOf", "(II)J"⟩
abbrev cX12_thinks : ByteArray := prog_14_method_109_code
def yX12_thinks : MethodName := ⟨RX12, "thinks", "()V"⟩
abbrev cX12_bestBar : ByteArray := prog_14_method_110_code
def yX12_bestBar : MethodName := ⟨RX12, "bestBar", "(I)I"⟩
abbrev cX12_worth : ByteArray := prog_14_method_111_code
def yX12_worth : MethodName := ⟨RX12, "worth", "(III)Z"⟩
abbrev cX12_next : ByteArray := prog_14_method_112_code
def yX12_next : MethodName := ⟨RX12, "next", "(III)I"⟩
abbrev cX12_keeps : ByteArray := prog_14_method_113_code
def yX12_keeps : MethodName := ⟨RX12, "keeps", "()V"⟩
abbrev cX12_brings : ByteArray := prog_14_method_114_code
def yX12_brings : MethodName := ⟨RX12, "brings", "()V"⟩
abbrev cX12_lieTo : ByteArray := prog_14_method_115_code
def yX12_lieTo : MethodName := ⟨RX12, "lieTo", "(IIII)I"⟩
abbrev cX12_bits : ByteArray := prog_14_method_116_code
def yX12_bits : MethodName := ⟨RX12, "bits", "(I)I"⟩
abbrev cX12_markedBy : ByteArray := prog_14_method_117_code
def yX12_markedBy : MethodName := ⟨RX12, "markedBy", "(I)J"⟩
abbrev cX12_marked : ByteArray := prog_14_method_118_code
def yX12_marked : MethodName := ⟨RX12, "marked", "(III)I"⟩
abbrev cX12_tells : ByteArray := prog_14_method_119_code
def yX12_tells : MethodName := ⟨RX12, "tells", "(II)Z"⟩
abbrev cX12_dredged : ByteArray := prog_14_method_120_code
def yX12_dredged : MethodName := ⟨RX12, "dredged", "(II)I"⟩
abbrev cX12_brush : ByteArray := prog_14_method_121_code
def yX12_brush : MethodName := ⟨RX12, "brush", "(IIIII)Z"⟩
abbrev cX12_lighten : ByteArray := prog_14_method_122_code
def yX12_lighten : MethodName := ⟨RX12, "lighten", "(III)I"⟩
abbrev cX12_draw : ByteArray := prog_14_method_123_code
def yX12_draw : MethodName := ⟨RX12, "draw", "(I)I"⟩
abbrev cX12_drawTruth : ByteArray := prog_14_method_124_code
def yX12_drawTruth : MethodName := ⟨RX12, "drawTruth", "()V"⟩
abbrev cX12_soundsAt : ByteArray := prog_14_method_125_code
def yX12_soundsAt : MethodName := ⟨RX12, "soundsAt", "(I)V"⟩
abbrev cX12_coloursAt : ByteArray := prog_14_method_126_code
def yX12_coloursAt : MethodName := ⟨RX12, "coloursAt", "(II)V"⟩
abbrev cX12_waits : ByteArray := prog_14_method_127_code
def yX12_waits : MethodName := ⟨RX12, "waits", "()V"⟩
abbrev cX12_holds : ByteArray := prog_14_method_128_code
def yX12_holds : MethodName := ⟨RX12, "holds", "(IIIII)Z"⟩
abbrev cX12_goes : ByteArray := prog_14_method_129_code
def yX12_goes : MethodName := ⟨RX12, "goes", "(II)V"⟩
abbrev cX12_does : ByteArray := prog_14_method_130_code
def yX12_does : MethodName := ⟨RX12, "does", "(III)I"⟩
abbrev cX12_behindEnds : ByteArray := prog_14_method_131_code
def yX12_behindEnds : MethodName := ⟨RX12, "behindEnds", "(I)I"⟩
abbrev cX12_plays : ByteArray := prog_14_method_132_code
def yX12_plays : MethodName := ⟨RX12, "plays", "(III)V"⟩
abbrev cX12_play : ByteArray := prog_14_method_133_code
def yX12_play : MethodName := ⟨RX12, "play", "(III)I"⟩
abbrev cX12_tellsPlayed : ByteArray := prog_14_method_134_code
def yX12_tellsPlayed : MethodName := ⟨RX12, "tellsPlayed", "()V"⟩
abbrev cX12_played : ByteArray := prog_14_method_135_code
def yX12_played : MethodName := ⟨RX12, "played", "(I)I"⟩
abbrev cX12_tally : ByteArray := prog_14_method_136_code
def yX12_tally : MethodName := ⟨RX12, "tally", "(IIIII)I"⟩
abbrev cX12_copies : ByteArray := prog_14_method_137_code
def yX12_copies : MethodName := ⟨RX12, "copies", "(II)V"⟩
abbrev cX12_mark : ByteArray := prog_14_method_138_code
def yX12_mark : MethodName := ⟨RX12, "mark", "()I"⟩
abbrev cX12_back : ByteArray := prog_14_method_139_code
def yX12_back : MethodName := ⟨RX12, "back", "()I"⟩
def RJx145de : String := "java/io/Serializable"
def TJx145de : u_T := fun k => match k with
  | _ => ("", "", "", false)
def tyJx145de : Nat → FieldType := fun k => match k with
  | _ => .int
abbrev wsJx145de0 : List Cond := u_ws RJx145de TJx145de 0
theorem nmJx145de : ∀ a, a < 0 → ∀ b, b < 0 → a ≠ b → (TJx145de a).2.1 ≠ (TJx145de b).2.1 := by decide +kernel
theorem tyJx145de_ok : ∀ k, k < 0 → parseFieldDescriptor (TJx145de k).2.2.1 = some (tyJx145de k) := by decide +kernel
def RJx9f9b0 : String := "java/lang/CharSequence"
def TJx9f9b0 : u_T := fun k => match k with
  | _ => ("", "", "", false)
def tyJx9f9b0 : Nat → FieldType := fun k => match k with
  | _ => .int
abbrev wsJx9f9b00 : List Cond := u_ws RJx9f9b0 TJx9f9b0 0
theorem nmJx9f9b0 : ∀ a, a < 0 → ∀ b, b < 0 → a ≠ b → (TJx9f9b0 a).2.1 ≠ (TJx9f9b0 b).2.1 := by decide +kernel
theorem tyJx9f9b0_ok : ∀ k, k < 0 → parseFieldDescriptor (TJx9f9b0 k).2.2.1 = some (tyJx9f9b0 k) := by decide +kernel
def RJxb160c : String := "java/lang/Comparable"
def TJxb160c : u_T := fun k => match k with
  | _ => ("", "", "", false)
def tyJxb160c : Nat → FieldType := fun k => match k with
  | _ => .int
abbrev wsJxb160c0 : List Cond := u_ws RJxb160c TJxb160c 0
theorem nmJxb160c : ∀ a, a < 0 → ∀ b, b < 0 → a ≠ b → (TJxb160c a).2.1 ≠ (TJxb160c b).2.1 := by decide +kernel
theorem tyJxb160c_ok : ∀ k, k < 0 → parseFieldDescriptor (TJxb160c k).2.2.1 = some (tyJxb160c k) := by decide +kernel
def RJ6 : String := "java/lang/Integer"
def TJ6 : u_T := fun k => match k with
  | _ => ("", "", "", false)
def tyJ6 : Nat → FieldType := fun k => match k with
  | _ => .int
abbrev wsJ60 : List Cond := u_ws RJ6 TJ6 0
theorem nmJ6 : ∀ a, a < 0 → ∀ b, b < 0 → a ≠ b → (TJ6 a).2.1 ≠ (TJ6 b).2.1 := by decide +kernel
theorem tyJ6_ok : ∀ k, k < 0 → parseFieldDescriptor (TJ6 k).2.2.1 = some (tyJ6 k) := by decide +kernel
abbrev cJ6_bitCount_0f7a4 : ByteArray := prog_15_method_49_code
def yJ6_bitCount_0f7a4 : MethodName := ⟨RJ6, "bitCount", "(I)I"⟩
def RJ9 : String := "java/lang/Math"
def TJ9 : u_T := fun k => match k with
  | _ => ("", "", "", false)
def tyJ9 : Nat → FieldType := fun k => match k with
  | _ => .int
abbrev wsJ90 : List Cond := u_ws RJ9 TJ9 0
theorem nmJ9 : ∀ a, a < 0 → ∀ b, b < 0 → a ≠ b → (TJ9 a).2.1 ≠ (TJ9 b).2.1 := by decide +kernel
theorem tyJ9_ok : ∀ k, k < 0 → parseFieldDescriptor (TJ9 k).2.2.1 = some (tyJ9 k) := by decide +kernel
abbrev cJ9_abs_0f7a4 : ByteArray := prog_16_method_59_code
def yJ9_abs_0f7a4 : MethodName := ⟨RJ9, "abs", "(I)I"⟩
abbrev cJ9_max_7cf53 : ByteArray := prog_16_method_65_code
def yJ9_max_7cf53 : MethodName := ⟨RJ9, "max", "(II)I"⟩
abbrev cJ9_max_f86c9 : ByteArray := prog_16_method_66_code
def yJ9_max_f86c9 : MethodName := ⟨RJ9, "max", "(JJ)J"⟩
abbrev cJ9_min_7cf53 : ByteArray := prog_16_method_69_code
def yJ9_min_7cf53 : MethodName := ⟨RJ9, "min", "(II)I"⟩
def RJ0 : String := "java/lang/String"
def TJ0 : u_T := fun k => match k with
  | _ => ("", "", "", false)
def tyJ0 : Nat → FieldType := fun k => match k with
  | _ => .int
abbrev wsJ00 : List Cond := u_ws RJ0 TJ0 0
theorem nmJ0 : ∀ a, a < 0 → ∀ b, b < 0 → a ≠ b → (TJ0 a).2.1 ≠ (TJ0 b).2.1 := by decide +kernel
theorem tyJ0_ok : ∀ k, k < 0 → parseFieldDescriptor (TJ0 k).2.2.1 = some (tyJ0 k) := by decide +kernel
abbrev cJ0_length_8abf5 : ByteArray := prog_17_method_54_code
def yJ0_length_8abf5 : MethodName := ⟨RJ0, "length", "()I"⟩
abbrev cJ0_charAt_5068e : ByteArray := prog_17_method_56_code
def yJ0_charAt_5068e : MethodName := ⟨RJ0, "charAt", "(I)C"⟩
abbrev cJ0_coder_7d493 : ByteArray := prog_17_method_152_code
def yJ0_coder_7d493 : MethodName := ⟨RJ0, "coder", "()B"⟩
abbrev cJ0_isLatin1_aae02 : ByteArray := prog_17_method_154_code
def yJ0_isLatin1_aae02 : MethodName := ⟨RJ0, "isLatin1", "()Z"⟩
abbrev cJ0_checkIndex_df160 : ByteArray := prog_17_method_155_code
def yJ0_checkIndex_df160 : MethodName := ⟨RJ0, "checkIndex", "(II)V"⟩
def RJ1 : String := "java/lang/StringLatin1"
def TJ1 : u_T := fun k => match k with
  | _ => ("", "", "", false)
def tyJ1 : Nat → FieldType := fun k => match k with
  | _ => .int
abbrev wsJ10 : List Cond := u_ws RJ1 TJ1 0
theorem nmJ1 : ∀ a, a < 0 → ∀ b, b < 0 → a ≠ b → (TJ1 a).2.1 ≠ (TJ1 b).2.1 := by decide +kernel
theorem tyJ1_ok : ∀ k, k < 0 → parseFieldDescriptor (TJ1 k).2.2.1 = some (tyJ1 k) := by decide +kernel
abbrev cJ1_charAt_3b067 : ByteArray := prog_18_method_2_code
def yJ1_charAt_3b067 : MethodName := ⟨RJ1, "charAt", "([BI)C"⟩
def RJ2 : String := "java/lang/StringUTF16"
def TJ2 : u_T := fun k => match k with
  | _ => ("", "", "", false)
def tyJ2 : Nat → FieldType := fun k => match k with
  | _ => .int
abbrev wsJ20 : List Cond := u_ws RJ2 TJ2 0
theorem nmJ2 : ∀ a, a < 0 → ∀ b, b < 0 → a ≠ b → (TJ2 a).2.1 ≠ (TJ2 b).2.1 := by decide +kernel
theorem tyJ2_ok : ∀ k, k < 0 → parseFieldDescriptor (TJ2 k).2.2.1 = some (tyJ2 k) := by decide +kernel
abbrev cJ2_getChar_3b067 : ByteArray := prog_19_method_5_code
def yJ2_getChar_3b067 : MethodName := ⟨RJ2, "getChar", "([BI)C"⟩
abbrev cJ2_length_9d52b : ByteArray := prog_19_method_6_code
def yJ2_length_9d52b : MethodName := ⟨RJ2, "length", "([B)I"⟩
abbrev cJ2_charAt_3b067 : ByteArray := prog_19_method_83_code
def yJ2_charAt_3b067 : MethodName := ⟨RJ2, "charAt", "([BI)C"⟩
abbrev cJ2_checkIndex_2214a : ByteArray := prog_19_method_91_code
def yJ2_checkIndex_2214a : MethodName := ⟨RJ2, "checkIndex", "(I[B)V"⟩
def RJ10 : String := "java/lang/System"
def TJ10 : u_T := fun k => match k with
  | _ => ("", "", "", false)
def tyJ10 : Nat → FieldType := fun k => match k with
  | _ => .int
abbrev wsJ100 : List Cond := u_ws RJ10 TJ10 0
theorem nmJ10 : ∀ a, a < 0 → ∀ b, b < 0 → a ≠ b → (TJ10 a).2.1 ≠ (TJ10 b).2.1 := by decide +kernel
theorem tyJ10_ok : ∀ k, k < 0 → parseFieldDescriptor (TJ10 k).2.2.1 = some (tyJ10 k) := by decide +kernel
def RJxfd54e : String := "java/lang/constant/Constable"
def TJxfd54e : u_T := fun k => match k with
  | _ => ("", "", "", false)
def tyJxfd54e : Nat → FieldType := fun k => match k with
  | _ => .int
abbrev wsJxfd54e0 : List Cond := u_ws RJxfd54e TJxfd54e 0
theorem nmJxfd54e : ∀ a, a < 0 → ∀ b, b < 0 → a ≠ b → (TJxfd54e a).2.1 ≠ (TJxfd54e b).2.1 := by decide +kernel
theorem tyJxfd54e_ok : ∀ k, k < 0 → parseFieldDescriptor (TJxfd54e k).2.2.1 = some (tyJxfd54e k) := by decide +kernel
def RJx3cf43 : String := "java/lang/constant/ConstantDesc"
def TJx3cf43 : u_T := fun k => match k with
  | _ => ("", "", "", false)
def tyJx3cf43 : Nat → FieldType := fun k => match k with
  | _ => .int
abbrev wsJx3cf430 : List Cond := u_ws RJx3cf43 TJx3cf43 0
theorem nmJx3cf43 : ∀ a, a < 0 → ∀ b, b < 0 → a ≠ b → (TJx3cf43 a).2.1 ≠ (TJx3cf43 b).2.1 := by decide +kernel
theorem tyJx3cf43_ok : ∀ k, k < 0 → parseFieldDescriptor (TJx3cf43 k).2.2.1 = some (tyJx3cf43 k) := by decide +kernel
def RJ7 : String := "java/util/Arrays"
def TJ7 : u_T := fun k => match k with
  | _ => ("", "", "", false)
def tyJ7 : Nat → FieldType := fun k => match k with
  | _ => .int
abbrev wsJ70 : List Cond := u_ws RJ7 TJ7 0
theorem nmJ7 : ∀ a, a < 0 → ∀ b, b < 0 → a ≠ b → (TJ7 a).2.1 ≠ (TJ7 b).2.1 := by decide +kernel
theorem tyJ7_ok : ∀ k, k < 0 → parseFieldDescriptor (TJ7 k).2.2.1 = some (tyJ7 k) := by decide +kernel
abbrev cJ7_fill_d0a16 : ByteArray := prog_21_method_101_code
def yJ7_fill_d0a16 : MethodName := ⟨RJ7, "fill", "([JJ)V"⟩
abbrev cJ7_fill_53178 : ByteArray := prog_21_method_103_code
def yJ7_fill_53178 : MethodName := ⟨RJ7, "fill", "([II)V"⟩
def RJ3 : String := "jdk/internal/util/Preconditions"
def TJ3 : u_T := fun k => match k with
  | _ => ("", "", "", false)
def tyJ3 : Nat → FieldType := fun k => match k with
  | _ => .int
abbrev wsJ30 : List Cond := u_ws RJ3 TJ3 0
theorem nmJ3 : ∀ a, a < 0 → ∀ b, b < 0 → a ≠ b → (TJ3 a).2.1 ≠ (TJ3 b).2.1 := by decide +kernel
theorem tyJ3_ok : ∀ k, k < 0 → parseFieldDescriptor (TJ3 k).2.2.1 = some (tyJ3 k) := by decide +kernel
abbrev cJ3_checkIndex_8e157 : ByteArray := prog_22_method_11_code
def yJ3_checkIndex_8e157 : MethodName := ⟨RJ3, "checkIndex", "(IILjava/util/function/BiFunction;)I"⟩
def RL : String := "PoleRiverLaw"
abbrev cL_law : ByteArray := code
def yL_law : MethodName := ⟨RL, "law", "([I)Z"⟩
abbrev vwCl : List vw_C := [(RX0, TX0, 12), (RX1, TX1, 19), (RX2, TX2, 20), (RX3, TX3, 7), (RX4, TX4, 6), (RX5, TX5, 5), (RX6, TX6, 5), (RX7, TX7, 5), (RX8, TX8, 11), (RX9, TX9, 1), (RX10, TX10, 3), (RX11, TX11, 19), (RX12, TX12, 54)]
