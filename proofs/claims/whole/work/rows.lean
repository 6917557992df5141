section
-- ===== PART A: goes FIRST, ahead of the names: the tables' words, and 'selects' of the private methods out of them =====
/-- a private method of a class that the tables say can be made, by its rows of tables_1 -/
def lw_okq (q : MethodName × Nat) : Prop := (q.1.cls ≠ "java/lang/invoke/MethodHandle" ∧ q.1.cls ≠ "java/lang/invoke/VarHandle") ∧ Cond.instantiable q.1.cls q.2 ∈ tables_1 ∧ Cond.privateMethod q.1 ∈ tables_1 ∧ Cond.instanceMethod q.1 ∈ tables_1
theorem lw_p0 : lw_okq (⟨"BookBarge", "appendFour", "(I)V"⟩, 17) := ⟨⟨by decide +kernel, by decide +kernel⟩, List.mem_of_getElem? (i := 22) (by decide +kernel), List.mem_of_getElem? (i := 427) (by decide +kernel), List.mem_of_getElem? (i := 428) (by decide +kernel)⟩
theorem lw_p1 : lw_okq (⟨"BookBarge$RiverParser", "readClause", "(I)Z"⟩, 7) := ⟨⟨by decide +kernel, by decide +kernel⟩, List.mem_of_getElem? (i := 47) (by decide +kernel), List.mem_of_getElem? (i := 467) (by decide +kernel), List.mem_of_getElem? (i := 468) (by decide +kernel)⟩
theorem lw_p2 : lw_okq (⟨"BookBarge$RiverParser", "hasPlaceFor", "(II)Z"⟩, 7) := ⟨⟨by decide +kernel, by decide +kernel⟩, List.mem_of_getElem? (i := 47) (by decide +kernel), List.mem_of_getElem? (i := 536) (by decide +kernel), List.mem_of_getElem? (i := 537) (by decide +kernel)⟩
theorem lw_p3 : lw_okq (⟨"BookBarge$RiverParser", "readBarge", "()Z"⟩, 7) := ⟨⟨by decide +kernel, by decide +kernel⟩, List.mem_of_getElem? (i := 47) (by decide +kernel), List.mem_of_getElem? (i := 546) (by decide +kernel), List.mem_of_getElem? (i := 547) (by decide +kernel)⟩
theorem lw_p4 : lw_okq (⟨"BookBarge$RiverParser", "readInto", "(III)Z"⟩, 7) := ⟨⟨by decide +kernel, by decide +kernel⟩, List.mem_of_getElem? (i := 47) (by decide +kernel), List.mem_of_getElem? (i := 550) (by decide +kernel), List.mem_of_getElem? (i := 551) (by decide +kernel)⟩
theorem lw_p5 : lw_okq (⟨"BookBarge$RiverParser", "readBook", "()Z"⟩, 7) := ⟨⟨by decide +kernel, by decide +kernel⟩, List.mem_of_getElem? (i := 47) (by decide +kernel), List.mem_of_getElem? (i := 567) (by decide +kernel), List.mem_of_getElem? (i := 568) (by decide +kernel)⟩
theorem lw_p6 : lw_okq (⟨"BookBarge$RiverParser", "readStop", "()Z"⟩, 7) := ⟨⟨by decide +kernel, by decide +kernel⟩, List.mem_of_getElem? (i := 47) (by decide +kernel), List.mem_of_getElem? (i := 575) (by decide +kernel), List.mem_of_getElem? (i := 576) (by decide +kernel)⟩
theorem lw_p7 : lw_okq (⟨"BookBarge$RiverParser", "readReader", "()Z"⟩, 7) := ⟨⟨by decide +kernel, by decide +kernel⟩, List.mem_of_getElem? (i := 47) (by decide +kernel), List.mem_of_getElem? (i := 589) (by decide +kernel), List.mem_of_getElem? (i := 590) (by decide +kernel)⟩
theorem lw_p8 : lw_okq (⟨"BookBarge$RiverParser", "readWish", "()Z"⟩, 7) := ⟨⟨by decide +kernel, by decide +kernel⟩, List.mem_of_getElem? (i := 47) (by decide +kernel), List.mem_of_getElem? (i := 593) (by decide +kernel), List.mem_of_getElem? (i := 594) (by decide +kernel)⟩
theorem lw_p9 : lw_okq (⟨"BookBarge$RiverParser", "readHole", "()Z"⟩, 7) := ⟨⟨by decide +kernel, by decide +kernel⟩, List.mem_of_getElem? (i := 47) (by decide +kernel), List.mem_of_getElem? (i := 597) (by decide +kernel), List.mem_of_getElem? (i := 598) (by decide +kernel)⟩
theorem lw_p10 : lw_okq (⟨"BookBarge$RiverParser", "settle", "()V"⟩, 7) := ⟨⟨by decide +kernel, by decide +kernel⟩, List.mem_of_getElem? (i := 47) (by decide +kernel), List.mem_of_getElem? (i := 631) (by decide +kernel), List.mem_of_getElem? (i := 632) (by decide +kernel)⟩
theorem lw_p11 : lw_okq (⟨"BookBarge", "forgetActs", "()V"⟩, 17) := ⟨⟨by decide +kernel, by decide +kernel⟩, List.mem_of_getElem? (i := 22) (by decide +kernel), List.mem_of_getElem? (i := 641) (by decide +kernel), List.mem_of_getElem? (i := 642) (by decide +kernel)⟩
theorem lw_p12 : lw_okq (⟨"BookBarge$RuleParser", "readClause", "()Z"⟩, 10) := ⟨⟨by decide +kernel, by decide +kernel⟩, List.mem_of_getElem? (i := 93) (by decide +kernel), List.mem_of_getElem? (i := 657) (by decide +kernel), List.mem_of_getElem? (i := 658) (by decide +kernel)⟩
theorem lw_p13 : lw_okq (⟨"BookBarge$RuleParser", "readSum", "()Z"⟩, 10) := ⟨⟨by decide +kernel, by decide +kernel⟩, List.mem_of_getElem? (i := 93) (by decide +kernel), List.mem_of_getElem? (i := 671) (by decide +kernel), List.mem_of_getElem? (i := 672) (by decide +kernel)⟩
theorem lw_p14 : lw_okq (⟨"BookBarge$RuleParser", "readValue", "()Z"⟩, 10) := ⟨⟨by decide +kernel, by decide +kernel⟩, List.mem_of_getElem? (i := 93) (by decide +kernel), List.mem_of_getElem? (i := 675) (by decide +kernel), List.mem_of_getElem? (i := 676) (by decide +kernel)⟩
theorem lw_p15 : lw_okq (⟨"BookBarge$RuleParser", "put", "(I)V"⟩, 10) := ⟨⟨by decide +kernel, by decide +kernel⟩, List.mem_of_getElem? (i := 93) (by decide +kernel), List.mem_of_getElem? (i := 686) (by decide +kernel), List.mem_of_getElem? (i := 687) (by decide +kernel)⟩
def lw_privs_1 : List (MethodName × Nat) := [(⟨"BookBarge", "appendFour", "(I)V"⟩, 17), (⟨"BookBarge$RiverParser", "readClause", "(I)Z"⟩, 7), (⟨"BookBarge$RiverParser", "hasPlaceFor", "(II)Z"⟩, 7), (⟨"BookBarge$RiverParser", "readBarge", "()Z"⟩, 7), (⟨"BookBarge$RiverParser", "readInto", "(III)Z"⟩, 7), (⟨"BookBarge$RiverParser", "readBook", "()Z"⟩, 7), (⟨"BookBarge$RiverParser", "readStop", "()Z"⟩, 7), (⟨"BookBarge$RiverParser", "readReader", "()Z"⟩, 7), (⟨"BookBarge$RiverParser", "readWish", "()Z"⟩, 7), (⟨"BookBarge$RiverParser", "readHole", "()Z"⟩, 7), (⟨"BookBarge$RiverParser", "settle", "()V"⟩, 7), (⟨"BookBarge", "forgetActs", "()V"⟩, 17), (⟨"BookBarge$RuleParser", "readClause", "()Z"⟩, 10), (⟨"BookBarge$RuleParser", "readSum", "()Z"⟩, 10), (⟨"BookBarge$RuleParser", "readValue", "()Z"⟩, 10), (⟨"BookBarge$RuleParser", "put", "(I)V"⟩, 10)]
theorem lw_r1 : ∀ q ∈ lw_privs_1, lw_okq q := List.forall_mem_cons.mpr ⟨lw_p0, List.forall_mem_cons.mpr ⟨lw_p1, List.forall_mem_cons.mpr ⟨lw_p2, List.forall_mem_cons.mpr ⟨lw_p3, List.forall_mem_cons.mpr ⟨lw_p4, List.forall_mem_cons.mpr ⟨lw_p5, List.forall_mem_cons.mpr ⟨lw_p6, List.forall_mem_cons.mpr ⟨lw_p7, List.forall_mem_cons.mpr ⟨lw_p8, List.forall_mem_cons.mpr ⟨lw_p9, List.forall_mem_cons.mpr ⟨lw_p10, List.forall_mem_cons.mpr ⟨lw_p11, List.forall_mem_cons.mpr ⟨lw_p12, List.forall_mem_cons.mpr ⟨lw_p13, List.forall_mem_cons.mpr ⟨lw_p14, List.forall_mem_cons.mpr ⟨lw_p15, fun _ h => absurd h List.not_mem_nil⟩⟩⟩⟩⟩⟩⟩⟩⟩⟩⟩⟩⟩⟩⟩⟩
theorem lw_p16 : lw_okq (⟨"BookBarge$RuleParser", "countPart", "(I)Z"⟩, 10) := ⟨⟨by decide +kernel, by decide +kernel⟩, List.mem_of_getElem? (i := 93) (by decide +kernel), List.mem_of_getElem? (i := 690) (by decide +kernel), List.mem_of_getElem? (i := 691) (by decide +kernel)⟩
theorem lw_p17 : lw_okq (⟨"BookBarge$RuleParser", "readTest", "(I)Z"⟩, 10) := ⟨⟨by decide +kernel, by decide +kernel⟩, List.mem_of_getElem? (i := 93) (by decide +kernel), List.mem_of_getElem? (i := 717) (by decide +kernel), List.mem_of_getElem? (i := 718) (by decide +kernel)⟩
theorem lw_p18 : lw_okq (⟨"BookBarge$RuleParser", "readFact", "(I)Z"⟩, 10) := ⟨⟨by decide +kernel, by decide +kernel⟩, List.mem_of_getElem? (i := 93) (by decide +kernel), List.mem_of_getElem? (i := 721) (by decide +kernel), List.mem_of_getElem? (i := 722) (by decide +kernel)⟩
theorem lw_p19 : lw_okq (⟨"BookBarge$RuleParser", "takeComparison", "()I"⟩, 10) := ⟨⟨by decide +kernel, by decide +kernel⟩, List.mem_of_getElem? (i := 93) (by decide +kernel), List.mem_of_getElem? (i := 730) (by decide +kernel), List.mem_of_getElem? (i := 731) (by decide +kernel)⟩
theorem lw_p20 : lw_okq (⟨"BookBarge", "passing", "(II)I"⟩, 17) := ⟨⟨by decide +kernel, by decide +kernel⟩, List.mem_of_getElem? (i := 22) (by decide +kernel), List.mem_of_getElem? (i := 811) (by decide +kernel), List.mem_of_getElem? (i := 812) (by decide +kernel)⟩
theorem lw_p21 : lw_okq (⟨"BookBarge", "remember", "()V"⟩, 17) := ⟨⟨by decide +kernel, by decide +kernel⟩, List.mem_of_getElem? (i := 22) (by decide +kernel), List.mem_of_getElem? (i := 880) (by decide +kernel), List.mem_of_getElem? (i := 881) (by decide +kernel)⟩
theorem lw_p22 : lw_okq (⟨"BookBarge", "hasRule", "(I)Z"⟩, 17) := ⟨⟨by decide +kernel, by decide +kernel⟩, List.mem_of_getElem? (i := 22) (by decide +kernel), List.mem_of_getElem? (i := 1001) (by decide +kernel), List.mem_of_getElem? (i := 1002) (by decide +kernel)⟩
theorem lw_p23 : lw_okq (⟨"BookBarge$Journey", "tellBarge", "()V"⟩, 10) := ⟨⟨by decide +kernel, by decide +kernel⟩, List.mem_of_getElem? (i := 120) (by decide +kernel), List.mem_of_getElem? (i := 1014) (by decide +kernel), List.mem_of_getElem? (i := 1015) (by decide +kernel)⟩
theorem lw_p24 : lw_okq (⟨"BookBarge$Journey", "here", "()I"⟩, 10) := ⟨⟨by decide +kernel, by decide +kernel⟩, List.mem_of_getElem? (i := 120) (by decide +kernel), List.mem_of_getElem? (i := 1018) (by decide +kernel), List.mem_of_getElem? (i := 1019) (by decide +kernel)⟩
theorem lw_p25 : lw_okq (⟨"BookBarge$Journey", "fetchByRule", "()V"⟩, 10) := ⟨⟨by decide +kernel, by decide +kernel⟩, List.mem_of_getElem? (i := 120) (by decide +kernel), List.mem_of_getElem? (i := 1025) (by decide +kernel), List.mem_of_getElem? (i := 1026) (by decide +kernel)⟩
theorem lw_p26 : lw_okq (⟨"BookBarge$Journey", "tellBook", "(I)V"⟩, 10) := ⟨⟨by decide +kernel, by decide +kernel⟩, List.mem_of_getElem? (i := 120) (by decide +kernel), List.mem_of_getElem? (i := 1030) (by decide +kernel), List.mem_of_getElem? (i := 1031) (by decide +kernel)⟩
theorem lw_p27 : lw_okq (⟨"BookBarge$Rule", "worked", "(II[J)J"⟩, 3) := ⟨⟨by decide +kernel, by decide +kernel⟩, List.mem_of_getElem? (i := 758) (by decide +kernel), List.mem_of_getElem? (i := 1051) (by decide +kernel), List.mem_of_getElem? (i := 1052) (by decide +kernel)⟩
theorem lw_p28 : lw_okq (⟨"BookBarge$Journey", "shiftByRule", "()V"⟩, 10) := ⟨⟨by decide +kernel, by decide +kernel⟩, List.mem_of_getElem? (i := 120) (by decide +kernel), List.mem_of_getElem? (i := 1067) (by decide +kernel), List.mem_of_getElem? (i := 1068) (by decide +kernel)⟩
theorem lw_p29 : lw_okq (⟨"BookBarge$Journey", "lightenByRule", "(I)Z"⟩, 10) := ⟨⟨by decide +kernel, by decide +kernel⟩, List.mem_of_getElem? (i := 120) (by decide +kernel), List.mem_of_getElem? (i := 1075) (by decide +kernel), List.mem_of_getElem? (i := 1076) (by decide +kernel)⟩
theorem lw_p30 : lw_okq (⟨"BookBarge$Journey", "bookByRule", "()I"⟩, 10) := ⟨⟨by decide +kernel, by decide +kernel⟩, List.mem_of_getElem? (i := 120) (by decide +kernel), List.mem_of_getElem? (i := 1079) (by decide +kernel), List.mem_of_getElem? (i := 1080) (by decide +kernel)⟩
theorem lw_p31 : lw_okq (⟨"BookBarge$Leaving", "search", "(IIIIII)V"⟩, 9) := ⟨⟨by decide +kernel, by decide +kernel⟩, List.mem_of_getElem? (i := 164) (by decide +kernel), List.mem_of_getElem? (i := 1113) (by decide +kernel), List.mem_of_getElem? (i := 1114) (by decide +kernel)⟩
def lw_privs_2 : List (MethodName × Nat) := [(⟨"BookBarge$RuleParser", "countPart", "(I)Z"⟩, 10), (⟨"BookBarge$RuleParser", "readTest", "(I)Z"⟩, 10), (⟨"BookBarge$RuleParser", "readFact", "(I)Z"⟩, 10), (⟨"BookBarge$RuleParser", "takeComparison", "()I"⟩, 10), (⟨"BookBarge", "passing", "(II)I"⟩, 17), (⟨"BookBarge", "remember", "()V"⟩, 17), (⟨"BookBarge", "hasRule", "(I)Z"⟩, 17), (⟨"BookBarge$Journey", "tellBarge", "()V"⟩, 10), (⟨"BookBarge$Journey", "here", "()I"⟩, 10), (⟨"BookBarge$Journey", "fetchByRule", "()V"⟩, 10), (⟨"BookBarge$Journey", "tellBook", "(I)V"⟩, 10), (⟨"BookBarge$Rule", "worked", "(II[J)J"⟩, 3), (⟨"BookBarge$Journey", "shiftByRule", "()V"⟩, 10), (⟨"BookBarge$Journey", "lightenByRule", "(I)Z"⟩, 10), (⟨"BookBarge$Journey", "bookByRule", "()I"⟩, 10), (⟨"BookBarge$Leaving", "search", "(IIIIII)V"⟩, 9)]
theorem lw_r2 : ∀ q ∈ lw_privs_2, lw_okq q := List.forall_mem_cons.mpr ⟨lw_p16, List.forall_mem_cons.mpr ⟨lw_p17, List.forall_mem_cons.mpr ⟨lw_p18, List.forall_mem_cons.mpr ⟨lw_p19, List.forall_mem_cons.mpr ⟨lw_p20, List.forall_mem_cons.mpr ⟨lw_p21, List.forall_mem_cons.mpr ⟨lw_p22, List.forall_mem_cons.mpr ⟨lw_p23, List.forall_mem_cons.mpr ⟨lw_p24, List.forall_mem_cons.mpr ⟨lw_p25, List.forall_mem_cons.mpr ⟨lw_p26, List.forall_mem_cons.mpr ⟨lw_p27, List.forall_mem_cons.mpr ⟨lw_p28, List.forall_mem_cons.mpr ⟨lw_p29, List.forall_mem_cons.mpr ⟨lw_p30, List.forall_mem_cons.mpr ⟨lw_p31, fun _ h => absurd h List.not_mem_nil⟩⟩⟩⟩⟩⟩⟩⟩⟩⟩⟩⟩⟩⟩⟩⟩
theorem lw_p32 : lw_okq (⟨"BookBarge$Lending", "noteGains", "(LBookBarge$World;IZ)I"⟩, 17) := ⟨⟨by decide +kernel, by decide +kernel⟩, List.mem_of_getElem? (i := 200) (by decide +kernel), List.mem_of_getElem? (i := 1133) (by decide +kernel), List.mem_of_getElem? (i := 1134) (by decide +kernel)⟩
theorem lw_p33 : lw_okq (⟨"BookBarge$Lending", "search", "(III)V"⟩, 17) := ⟨⟨by decide +kernel, by decide +kernel⟩, List.mem_of_getElem? (i := 200) (by decide +kernel), List.mem_of_getElem? (i := 1140) (by decide +kernel), List.mem_of_getElem? (i := 1141) (by decide +kernel)⟩
theorem lw_p34 : lw_okq (⟨"BookBarge$Lending", "passesAll", "()Z"⟩, 17) := ⟨⟨by decide +kernel, by decide +kernel⟩, List.mem_of_getElem? (i := 200) (by decide +kernel), List.mem_of_getElem? (i := 1144) (by decide +kernel), List.mem_of_getElem? (i := 1145) (by decide +kernel)⟩
theorem lw_p35 : lw_okq (⟨"BookBarge$Meeting", "search", "(IIIIIII)V"⟩, 11) := ⟨⟨by decide +kernel, by decide +kernel⟩, List.mem_of_getElem? (i := 259) (by decide +kernel), List.mem_of_getElem? (i := 1182) (by decide +kernel), List.mem_of_getElem? (i := 1183) (by decide +kernel)⟩
theorem lw_p36 : lw_okq (⟨"BookBarge$Cargo", "noteCandidates", "(LBookBarge$World;I)I"⟩, 11) := ⟨⟨by decide +kernel, by decide +kernel⟩, List.mem_of_getElem? (i := 300) (by decide +kernel), List.mem_of_getElem? (i := 1196) (by decide +kernel), List.mem_of_getElem? (i := 1197) (by decide +kernel)⟩
theorem lw_p37 : lw_okq (⟨"BookBarge$Cargo", "search", "(IIII)V"⟩, 11) := ⟨⟨by decide +kernel, by decide +kernel⟩, List.mem_of_getElem? (i := 300) (by decide +kernel), List.mem_of_getElem? (i := 1205) (by decide +kernel), List.mem_of_getElem? (i := 1206) (by decide +kernel)⟩
theorem lw_p38 : lw_okq (⟨"BookBarge$Plugging", "search", "(III)V"⟩, 6) := ⟨⟨by decide +kernel, by decide +kernel⟩, List.mem_of_getElem? (i := 343) (by decide +kernel), List.mem_of_getElem? (i := 1222) (by decide +kernel), List.mem_of_getElem? (i := 1223) (by decide +kernel)⟩
theorem lw_p39 : lw_okq (⟨"BookBarge$Journey", "draw", "()I"⟩, 10) := ⟨⟨by decide +kernel, by decide +kernel⟩, List.mem_of_getElem? (i := 120) (by decide +kernel), List.mem_of_getElem? (i := 1241) (by decide +kernel), List.mem_of_getElem? (i := 1242) (by decide +kernel)⟩
theorem lw_p40 : lw_okq (⟨"BookBarge$Journey", "gnaw", "()V"⟩, 10) := ⟨⟨by decide +kernel, by decide +kernel⟩, List.mem_of_getElem? (i := 120) (by decide +kernel), List.mem_of_getElem? (i := 1250) (by decide +kernel), List.mem_of_getElem? (i := 1251) (by decide +kernel)⟩
theorem lw_p41 : lw_okq (⟨"BookBargeModel", "four", "(I)V"⟩, 39) := ⟨⟨by decide +kernel, by decide +kernel⟩, List.mem_of_getElem? (i := 1271) (by decide +kernel), List.mem_of_getElem? (i := 1399) (by decide +kernel), List.mem_of_getElem? (i := 1400) (by decide +kernel)⟩
theorem lw_p42 : lw_okq (⟨"BookBargeModel", "readsAll", "()Z"⟩, 39) := ⟨⟨by decide +kernel, by decide +kernel⟩, List.mem_of_getElem? (i := 1271) (by decide +kernel), List.mem_of_getElem? (i := 1411) (by decide +kernel), List.mem_of_getElem? (i := 1412) (by decide +kernel)⟩
theorem lw_p43 : lw_okq (⟨"BookBargeModel", "clauseHere", "()Z"⟩, 39) := ⟨⟨by decide +kernel, by decide +kernel⟩, List.mem_of_getElem? (i := 1271) (by decide +kernel), List.mem_of_getElem? (i := 1415) (by decide +kernel), List.mem_of_getElem? (i := 1416) (by decide +kernel)⟩
theorem lw_p44 : lw_okq (⟨"BookBargeModel", "see", "()I"⟩, 39) := ⟨⟨by decide +kernel, by decide +kernel⟩, List.mem_of_getElem? (i := 1271) (by decide +kernel), List.mem_of_getElem? (i := 1419) (by decide +kernel), List.mem_of_getElem? (i := 1420) (by decide +kernel)⟩
theorem lw_p45 : lw_okq (⟨"BookBargeModel", "isRiverWord", "()Z"⟩, 39) := ⟨⟨by decide +kernel, by decide +kernel⟩, List.mem_of_getElem? (i := 1271) (by decide +kernel), List.mem_of_getElem? (i := 1423) (by decide +kernel), List.mem_of_getElem? (i := 1424) (by decide +kernel)⟩
theorem lw_p46 : lw_okq (⟨"BookBargeModel", "isWord", "(J)Z"⟩, 39) := ⟨⟨by decide +kernel, by decide +kernel⟩, List.mem_of_getElem? (i := 1271) (by decide +kernel), List.mem_of_getElem? (i := 1428) (by decide +kernel), List.mem_of_getElem? (i := 1429) (by decide +kernel)⟩
theorem lw_p47 : lw_okq (⟨"BookBargeModel", "isLetter", "(I)Z"⟩, 39) := ⟨⟨by decide +kernel, by decide +kernel⟩, List.mem_of_getElem? (i := 1271) (by decide +kernel), List.mem_of_getElem? (i := 1432) (by decide +kernel), List.mem_of_getElem? (i := 1433) (by decide +kernel)⟩
def lw_privs_3 : List (MethodName × Nat) := [(⟨"BookBarge$Lending", "noteGains", "(LBookBarge$World;IZ)I"⟩, 17), (⟨"BookBarge$Lending", "search", "(III)V"⟩, 17), (⟨"BookBarge$Lending", "passesAll", "()Z"⟩, 17), (⟨"BookBarge$Meeting", "search", "(IIIIIII)V"⟩, 11), (⟨"BookBarge$Cargo", "noteCandidates", "(LBookBarge$World;I)I"⟩, 11), (⟨"BookBarge$Cargo", "search", "(IIII)V"⟩, 11), (⟨"BookBarge$Plugging", "search", "(III)V"⟩, 6), (⟨"BookBarge$Journey", "draw", "()I"⟩, 10), (⟨"BookBarge$Journey", "gnaw", "()V"⟩, 10), (⟨"BookBargeModel", "four", "(I)V"⟩, 39), (⟨"BookBargeModel", "readsAll", "()Z"⟩, 39), (⟨"BookBargeModel", "clauseHere", "()Z"⟩, 39), (⟨"BookBargeModel", "see", "()I"⟩, 39), (⟨"BookBargeModel", "isRiverWord", "()Z"⟩, 39), (⟨"BookBargeModel", "isWord", "(J)Z"⟩, 39), (⟨"BookBargeModel", "isLetter", "(I)Z"⟩, 39)]
theorem lw_r3 : ∀ q ∈ lw_privs_3, lw_okq q := List.forall_mem_cons.mpr ⟨lw_p32, List.forall_mem_cons.mpr ⟨lw_p33, List.forall_mem_cons.mpr ⟨lw_p34, List.forall_mem_cons.mpr ⟨lw_p35, List.forall_mem_cons.mpr ⟨lw_p36, List.forall_mem_cons.mpr ⟨lw_p37, List.forall_mem_cons.mpr ⟨lw_p38, List.forall_mem_cons.mpr ⟨lw_p39, List.forall_mem_cons.mpr ⟨lw_p40, List.forall_mem_cons.mpr ⟨lw_p41, List.forall_mem_cons.mpr ⟨lw_p42, List.forall_mem_cons.mpr ⟨lw_p43, List.forall_mem_cons.mpr ⟨lw_p44, List.forall_mem_cons.mpr ⟨lw_p45, List.forall_mem_cons.mpr ⟨lw_p46, List.forall_mem_cons.mpr ⟨lw_p47, fun _ h => absurd h List.not_mem_nil⟩⟩⟩⟩⟩⟩⟩⟩⟩⟩⟩⟩⟩⟩⟩⟩
theorem lw_p48 : lw_okq (⟨"BookBargeModel", "doingSort", "()I"⟩, 39) := ⟨⟨by decide +kernel, by decide +kernel⟩, List.mem_of_getElem? (i := 1271) (by decide +kernel), List.mem_of_getElem? (i := 1441) (by decide +kernel), List.mem_of_getElem? (i := 1442) (by decide +kernel)⟩
theorem lw_p49 : lw_okq (⟨"BookBargeModel", "fails", "(II)Z"⟩, 39) := ⟨⟨by decide +kernel, by decide +kernel⟩, List.mem_of_getElem? (i := 1271) (by decide +kernel), List.mem_of_getElem? (i := 1448) (by decide +kernel), List.mem_of_getElem? (i := 1449) (by decide +kernel)⟩
theorem lw_p50 : lw_okq (⟨"BookBargeModel", "riverLineHere", "(I)Z"⟩, 39) := ⟨⟨by decide +kernel, by decide +kernel⟩, List.mem_of_getElem? (i := 1271) (by decide +kernel), List.mem_of_getElem? (i := 1452) (by decide +kernel), List.mem_of_getElem? (i := 1453) (by decide +kernel)⟩
theorem lw_p51 : lw_okq (⟨"BookBargeModel", "isBargeHere", "(I)Z"⟩, 39) := ⟨⟨by decide +kernel, by decide +kernel⟩, List.mem_of_getElem? (i := 1271) (by decide +kernel), List.mem_of_getElem? (i := 1456) (by decide +kernel), List.mem_of_getElem? (i := 1457) (by decide +kernel)⟩
theorem lw_p52 : lw_okq (⟨"BookBargeModel", "passWord", "()V"⟩, 39) := ⟨⟨by decide +kernel, by decide +kernel⟩, List.mem_of_getElem? (i := 1271) (by decide +kernel), List.mem_of_getElem? (i := 1460) (by decide +kernel), List.mem_of_getElem? (i := 1461) (by decide +kernel)⟩
theorem lw_p53 : lw_okq (⟨"BookBargeModel", "cellHere", "(III)Z"⟩, 39) := ⟨⟨by decide +kernel, by decide +kernel⟩, List.mem_of_getElem? (i := 1271) (by decide +kernel), List.mem_of_getElem? (i := 1464) (by decide +kernel), List.mem_of_getElem? (i := 1465) (by decide +kernel)⟩
theorem lw_p54 : lw_okq (⟨"BookBargeModel", "numberHere", "(II)Z"⟩, 39) := ⟨⟨by decide +kernel, by decide +kernel⟩, List.mem_of_getElem? (i := 1271) (by decide +kernel), List.mem_of_getElem? (i := 1468) (by decide +kernel), List.mem_of_getElem? (i := 1469) (by decide +kernel)⟩
theorem lw_p55 : lw_okq (⟨"BookBargeModel", "isDigit", "(I)Z"⟩, 39) := ⟨⟨by decide +kernel, by decide +kernel⟩, List.mem_of_getElem? (i := 1271) (by decide +kernel), List.mem_of_getElem? (i := 1472) (by decide +kernel), List.mem_of_getElem? (i := 1473) (by decide +kernel)⟩
theorem lw_p56 : lw_okq (⟨"BookBargeModel", "isBookHere", "(I)Z"⟩, 39) := ⟨⟨by decide +kernel, by decide +kernel⟩, List.mem_of_getElem? (i := 1271) (by decide +kernel), List.mem_of_getElem? (i := 1479) (by decide +kernel), List.mem_of_getElem? (i := 1480) (by decide +kernel)⟩
theorem lw_p57 : lw_okq (⟨"BookBargeModel", "isStopHere", "(I)Z"⟩, 39) := ⟨⟨by decide +kernel, by decide +kernel⟩, List.mem_of_getElem? (i := 1271) (by decide +kernel), List.mem_of_getElem? (i := 1483) (by decide +kernel), List.mem_of_getElem? (i := 1484) (by decide +kernel)⟩
theorem lw_p58 : lw_okq (⟨"BookBargeModel", "isDigitNext", "()Z"⟩, 39) := ⟨⟨by decide +kernel, by decide +kernel⟩, List.mem_of_getElem? (i := 1271) (by decide +kernel), List.mem_of_getElem? (i := 1487) (by decide +kernel), List.mem_of_getElem? (i := 1488) (by decide +kernel)⟩
theorem lw_p59 : lw_okq (⟨"BookBargeModel", "isReaderHere", "(I)Z"⟩, 39) := ⟨⟨by decide +kernel, by decide +kernel⟩, List.mem_of_getElem? (i := 1271) (by decide +kernel), List.mem_of_getElem? (i := 1491) (by decide +kernel), List.mem_of_getElem? (i := 1492) (by decide +kernel)⟩
theorem lw_p60 : lw_okq (⟨"BookBargeModel", "isWishHere", "()Z"⟩, 39) := ⟨⟨by decide +kernel, by decide +kernel⟩, List.mem_of_getElem? (i := 1271) (by decide +kernel), List.mem_of_getElem? (i := 1495) (by decide +kernel), List.mem_of_getElem? (i := 1496) (by decide +kernel)⟩
theorem lw_p61 : lw_okq (⟨"BookBargeModel", "isHoleHere", "(I)Z"⟩, 39) := ⟨⟨by decide +kernel, by decide +kernel⟩, List.mem_of_getElem? (i := 1271) (by decide +kernel), List.mem_of_getElem? (i := 1499) (by decide +kernel), List.mem_of_getElem? (i := 1500) (by decide +kernel)⟩
theorem lw_p62 : lw_okq (⟨"BookBargeModel", "isDoingHere", "(I)Z"⟩, 39) := ⟨⟨by decide +kernel, by decide +kernel⟩, List.mem_of_getElem? (i := 1271) (by decide +kernel), List.mem_of_getElem? (i := 1503) (by decide +kernel), List.mem_of_getElem? (i := 1504) (by decide +kernel)⟩
theorem lw_p63 : lw_okq (⟨"BookBargeModel", "sum", "()Z"⟩, 39) := ⟨⟨by decide +kernel, by decide +kernel⟩, List.mem_of_getElem? (i := 1271) (by decide +kernel), List.mem_of_getElem? (i := 1507) (by decide +kernel), List.mem_of_getElem? (i := 1508) (by decide +kernel)⟩
def lw_privs_4 : List (MethodName × Nat) := [(⟨"BookBargeModel", "doingSort", "()I"⟩, 39), (⟨"BookBargeModel", "fails", "(II)Z"⟩, 39), (⟨"BookBargeModel", "riverLineHere", "(I)Z"⟩, 39), (⟨"BookBargeModel", "isBargeHere", "(I)Z"⟩, 39), (⟨"BookBargeModel", "passWord", "()V"⟩, 39), (⟨"BookBargeModel", "cellHere", "(III)Z"⟩, 39), (⟨"BookBargeModel", "numberHere", "(II)Z"⟩, 39), (⟨"BookBargeModel", "isDigit", "(I)Z"⟩, 39), (⟨"BookBargeModel", "isBookHere", "(I)Z"⟩, 39), (⟨"BookBargeModel", "isStopHere", "(I)Z"⟩, 39), (⟨"BookBargeModel", "isDigitNext", "()Z"⟩, 39), (⟨"BookBargeModel", "isReaderHere", "(I)Z"⟩, 39), (⟨"BookBargeModel", "isWishHere", "()Z"⟩, 39), (⟨"BookBargeModel", "isHoleHere", "(I)Z"⟩, 39), (⟨"BookBargeModel", "isDoingHere", "(I)Z"⟩, 39), (⟨"BookBargeModel", "sum", "()Z"⟩, 39)]
theorem lw_r4 : ∀ q ∈ lw_privs_4, lw_okq q := List.forall_mem_cons.mpr ⟨lw_p48, List.forall_mem_cons.mpr ⟨lw_p49, List.forall_mem_cons.mpr ⟨lw_p50, List.forall_mem_cons.mpr ⟨lw_p51, List.forall_mem_cons.mpr ⟨lw_p52, List.forall_mem_cons.mpr ⟨lw_p53, List.forall_mem_cons.mpr ⟨lw_p54, List.forall_mem_cons.mpr ⟨lw_p55, List.forall_mem_cons.mpr ⟨lw_p56, List.forall_mem_cons.mpr ⟨lw_p57, List.forall_mem_cons.mpr ⟨lw_p58, List.forall_mem_cons.mpr ⟨lw_p59, List.forall_mem_cons.mpr ⟨lw_p60, List.forall_mem_cons.mpr ⟨lw_p61, List.forall_mem_cons.mpr ⟨lw_p62, List.forall_mem_cons.mpr ⟨lw_p63, fun _ h => absurd h List.not_mem_nil⟩⟩⟩⟩⟩⟩⟩⟩⟩⟩⟩⟩⟩⟩⟩⟩
theorem lw_p64 : lw_okq (⟨"BookBargeModel", "term", "()Z"⟩, 39) := ⟨⟨by decide +kernel, by decide +kernel⟩, List.mem_of_getElem? (i := 1271) (by decide +kernel), List.mem_of_getElem? (i := 1511) (by decide +kernel), List.mem_of_getElem? (i := 1512) (by decide +kernel)⟩
theorem lw_p65 : lw_okq (⟨"BookBargeModel", "value", "()Z"⟩, 39) := ⟨⟨by decide +kernel, by decide +kernel⟩, List.mem_of_getElem? (i := 1271) (by decide +kernel), List.mem_of_getElem? (i := 1515) (by decide +kernel), List.mem_of_getElem? (i := 1516) (by decide +kernel)⟩
theorem lw_p66 : lw_okq (⟨"BookBargeModel", "makes", "(I)Z"⟩, 39) := ⟨⟨by decide +kernel, by decide +kernel⟩, List.mem_of_getElem? (i := 1271) (by decide +kernel), List.mem_of_getElem? (i := 1520) (by decide +kernel), List.mem_of_getElem? (i := 1521) (by decide +kernel)⟩
theorem lw_p67 : lw_okq (⟨"BookBargeModel", "puts", "(II)V"⟩, 39) := ⟨⟨by decide +kernel, by decide +kernel⟩, List.mem_of_getElem? (i := 1271) (by decide +kernel), List.mem_of_getElem? (i := 1524) (by decide +kernel), List.mem_of_getElem? (i := 1525) (by decide +kernel)⟩
theorem lw_p68 : lw_okq (⟨"BookBargeModel", "wordHere", "()I"⟩, 39) := ⟨⟨by decide +kernel, by decide +kernel⟩, List.mem_of_getElem? (i := 1271) (by decide +kernel), List.mem_of_getElem? (i := 1528) (by decide +kernel), List.mem_of_getElem? (i := 1529) (by decide +kernel)⟩
theorem lw_p69 : lw_okq (⟨"BookBargeModel", "takesWord", "(J)Z"⟩, 39) := ⟨⟨by decide +kernel, by decide +kernel⟩, List.mem_of_getElem? (i := 1271) (by decide +kernel), List.mem_of_getElem? (i := 1542) (by decide +kernel), List.mem_of_getElem? (i := 1543) (by decide +kernel)⟩
theorem lw_p70 : lw_okq (⟨"BookBargeModel", "isTestHere", "(I)Z"⟩, 39) := ⟨⟨by decide +kernel, by decide +kernel⟩, List.mem_of_getElem? (i := 1271) (by decide +kernel), List.mem_of_getElem? (i := 1546) (by decide +kernel), List.mem_of_getElem? (i := 1547) (by decide +kernel)⟩
theorem lw_p71 : lw_okq (⟨"BookBargeModel", "tested", "()Z"⟩, 39) := ⟨⟨by decide +kernel, by decide +kernel⟩, List.mem_of_getElem? (i := 1271) (by decide +kernel), List.mem_of_getElem? (i := 1550) (by decide +kernel), List.mem_of_getElem? (i := 1551) (by decide +kernel)⟩
theorem lw_p72 : lw_okq (⟨"BookBargeModel", "fact", "()Z"⟩, 39) := ⟨⟨by decide +kernel, by decide +kernel⟩, List.mem_of_getElem? (i := 1271) (by decide +kernel), List.mem_of_getElem? (i := 1554) (by decide +kernel), List.mem_of_getElem? (i := 1555) (by decide +kernel)⟩
theorem lw_p73 : lw_okq (⟨"BookBargeModel", "opens", "(I)Z"⟩, 39) := ⟨⟨by decide +kernel, by decide +kernel⟩, List.mem_of_getElem? (i := 1271) (by decide +kernel), List.mem_of_getElem? (i := 1559) (by decide +kernel), List.mem_of_getElem? (i := 1560) (by decide +kernel)⟩
theorem lw_p74 : lw_okq (⟨"BookBargeModel", "compare", "()Z"⟩, 39) := ⟨⟨by decide +kernel, by decide +kernel⟩, List.mem_of_getElem? (i := 1271) (by decide +kernel), List.mem_of_getElem? (i := 1563) (by decide +kernel), List.mem_of_getElem? (i := 1564) (by decide +kernel)⟩
theorem lw_p75 : lw_okq (⟨"BookBargeModel", "closes", "()V"⟩, 39) := ⟨⟨by decide +kernel, by decide +kernel⟩, List.mem_of_getElem? (i := 1271) (by decide +kernel), List.mem_of_getElem? (i := 1567) (by decide +kernel), List.mem_of_getElem? (i := 1568) (by decide +kernel)⟩
theorem lw_p76 : lw_okq (⟨"BookBargeModel", "settles", "(I)V"⟩, 39) := ⟨⟨by decide +kernel, by decide +kernel⟩, List.mem_of_getElem? (i := 1271) (by decide +kernel), List.mem_of_getElem? (i := 1571) (by decide +kernel), List.mem_of_getElem? (i := 1572) (by decide +kernel)⟩
theorem lw_p77 : lw_okq (⟨"BookBargeModel", "isInside", "()Z"⟩, 39) := ⟨⟨by decide +kernel, by decide +kernel⟩, List.mem_of_getElem? (i := 1271) (by decide +kernel), List.mem_of_getElem? (i := 1578) (by decide +kernel), List.mem_of_getElem? (i := 1579) (by decide +kernel)⟩
theorem lw_p78 : lw_okq (⟨"BookBargeModel", "isBook", "(I)Z"⟩, 39) := ⟨⟨by decide +kernel, by decide +kernel⟩, List.mem_of_getElem? (i := 1271) (by decide +kernel), List.mem_of_getElem? (i := 1592) (by decide +kernel), List.mem_of_getElem? (i := 1593) (by decide +kernel)⟩
theorem lw_p79 : lw_okq (⟨"BookBargeModel", "bookOf", "(II)I"⟩, 39) := ⟨⟨by decide +kernel, by decide +kernel⟩, List.mem_of_getElem? (i := 1271) (by decide +kernel), List.mem_of_getElem? (i := 1597) (by decide +kernel), List.mem_of_getElem? (i := 1598) (by decide +kernel)⟩
def lw_privs_5 : List (MethodName × Nat) := [(⟨"BookBargeModel", "term", "()Z"⟩, 39), (⟨"BookBargeModel", "value", "()Z"⟩, 39), (⟨"BookBargeModel", "makes", "(I)Z"⟩, 39), (⟨"BookBargeModel", "puts", "(II)V"⟩, 39), (⟨"BookBargeModel", "wordHere", "()I"⟩, 39), (⟨"BookBargeModel", "takesWord", "(J)Z"⟩, 39), (⟨"BookBargeModel", "isTestHere", "(I)Z"⟩, 39), (⟨"BookBargeModel", "tested", "()Z"⟩, 39), (⟨"BookBargeModel", "fact", "()Z"⟩, 39), (⟨"BookBargeModel", "opens", "(I)Z"⟩, 39), (⟨"BookBargeModel", "compare", "()Z"⟩, 39), (⟨"BookBargeModel", "closes", "()V"⟩, 39), (⟨"BookBargeModel", "settles", "(I)V"⟩, 39), (⟨"BookBargeModel", "isInside", "()Z"⟩, 39), (⟨"BookBargeModel", "isBook", "(I)Z"⟩, 39), (⟨"BookBargeModel", "bookOf", "(II)I"⟩, 39)]
theorem lw_r5 : ∀ q ∈ lw_privs_5, lw_okq q := List.forall_mem_cons.mpr ⟨lw_p64, List.forall_mem_cons.mpr ⟨lw_p65, List.forall_mem_cons.mpr ⟨lw_p66, List.forall_mem_cons.mpr ⟨lw_p67, List.forall_mem_cons.mpr ⟨lw_p68, List.forall_mem_cons.mpr ⟨lw_p69, List.forall_mem_cons.mpr ⟨lw_p70, List.forall_mem_cons.mpr ⟨lw_p71, List.forall_mem_cons.mpr ⟨lw_p72, List.forall_mem_cons.mpr ⟨lw_p73, List.forall_mem_cons.mpr ⟨lw_p74, List.forall_mem_cons.mpr ⟨lw_p75, List.forall_mem_cons.mpr ⟨lw_p76, List.forall_mem_cons.mpr ⟨lw_p77, List.forall_mem_cons.mpr ⟨lw_p78, List.forall_mem_cons.mpr ⟨lw_p79, fun _ h => absurd h List.not_mem_nil⟩⟩⟩⟩⟩⟩⟩⟩⟩⟩⟩⟩⟩⟩⟩⟩
theorem lw_p80 : lw_okq (⟨"BookBargeModel", "isStop", "(I)Z"⟩, 39) := ⟨⟨by decide +kernel, by decide +kernel⟩, List.mem_of_getElem? (i := 1271) (by decide +kernel), List.mem_of_getElem? (i := 1605) (by decide +kernel), List.mem_of_getElem? (i := 1606) (by decide +kernel)⟩
theorem lw_p81 : lw_okq (⟨"BookBargeModel", "depthOf", "(I)I"⟩, 39) := ⟨⟨by decide +kernel, by decide +kernel⟩, List.mem_of_getElem? (i := 1271) (by decide +kernel), List.mem_of_getElem? (i := 1610) (by decide +kernel), List.mem_of_getElem? (i := 1611) (by decide +kernel)⟩
theorem lw_p82 : lw_okq (⟨"BookBargeModel", "leftAt", "(I)I"⟩, 39) := ⟨⟨by decide +kernel, by decide +kernel⟩, List.mem_of_getElem? (i := 1271) (by decide +kernel), List.mem_of_getElem? (i := 1614) (by decide +kernel), List.mem_of_getElem? (i := 1615) (by decide +kernel)⟩
theorem lw_p83 : lw_okq (⟨"BookBargeModel", "isBarge", "(I)Z"⟩, 39) := ⟨⟨by decide +kernel, by decide +kernel⟩, List.mem_of_getElem? (i := 1271) (by decide +kernel), List.mem_of_getElem? (i := 1618) (by decide +kernel), List.mem_of_getElem? (i := 1619) (by decide +kernel)⟩
theorem lw_p84 : lw_okq (⟨"BookBargeModel", "passesNow", "(II)Z"⟩, 39) := ⟨⟨by decide +kernel, by decide +kernel⟩, List.mem_of_getElem? (i := 1271) (by decide +kernel), List.mem_of_getElem? (i := 1622) (by decide +kernel), List.mem_of_getElem? (i := 1623) (by decide +kernel)⟩
theorem lw_p85 : lw_okq (⟨"BookBargeModel", "aboardOf", "(I)I"⟩, 39) := ⟨⟨by decide +kernel, by decide +kernel⟩, List.mem_of_getElem? (i := 1271) (by decide +kernel), List.mem_of_getElem? (i := 1626) (by decide +kernel), List.mem_of_getElem? (i := 1627) (by decide +kernel)⟩
theorem lw_p86 : lw_okq (⟨"BookBargeModel", "isAboard", "(II)Z"⟩, 39) := ⟨⟨by decide +kernel, by decide +kernel⟩, List.mem_of_getElem? (i := 1271) (by decide +kernel), List.mem_of_getElem? (i := 1630) (by decide +kernel), List.mem_of_getElem? (i := 1631) (by decide +kernel)⟩
theorem lw_p87 : lw_okq (⟨"BookBargeModel", "passesBy", "(III)Z"⟩, 39) := ⟨⟨by decide +kernel, by decide +kernel⟩, List.mem_of_getElem? (i := 1271) (by decide +kernel), List.mem_of_getElem? (i := 1634) (by decide +kernel), List.mem_of_getElem? (i := 1635) (by decide +kernel)⟩
theorem lw_p88 : lw_okq (⟨"BookBargeModel", "draughtBy", "(II)I"⟩, 39) := ⟨⟨by decide +kernel, by decide +kernel⟩, List.mem_of_getElem? (i := 1271) (by decide +kernel), List.mem_of_getElem? (i := 1638) (by decide +kernel), List.mem_of_getElem? (i := 1639) (by decide +kernel)⟩
theorem lw_p89 : lw_okq (⟨"BookBargeModel", "loadBy", "(II)I"⟩, 39) := ⟨⟨by decide +kernel, by decide +kernel⟩, List.mem_of_getElem? (i := 1271) (by decide +kernel), List.mem_of_getElem? (i := 1642) (by decide +kernel), List.mem_of_getElem? (i := 1643) (by decide +kernel)⟩
theorem lw_p90 : lw_okq (⟨"BookBargeModel", "bargeOf", "(II)I"⟩, 39) := ⟨⟨by decide +kernel, by decide +kernel⟩, List.mem_of_getElem? (i := 1271) (by decide +kernel), List.mem_of_getElem? (i := 1646) (by decide +kernel), List.mem_of_getElem? (i := 1647) (by decide +kernel)⟩
theorem lw_p91 : lw_okq (⟨"BookBargeModel", "heavy", "(I)I"⟩, 39) := ⟨⟨by decide +kernel, by decide +kernel⟩, List.mem_of_getElem? (i := 1271) (by decide +kernel), List.mem_of_getElem? (i := 1653) (by decide +kernel), List.mem_of_getElem? (i := 1654) (by decide +kernel)⟩
theorem lw_p92 : lw_okq (⟨"BookBargeModel", "tiltBy", "(II)I"⟩, 39) := ⟨⟨by decide +kernel, by decide +kernel⟩, List.mem_of_getElem? (i := 1271) (by decide +kernel), List.mem_of_getElem? (i := 1657) (by decide +kernel), List.mem_of_getElem? (i := 1658) (by decide +kernel)⟩
theorem lw_p93 : lw_okq (⟨"BookBargeModel", "shelfIn", "(II)I"⟩, 39) := ⟨⟨by decide +kernel, by decide +kernel⟩, List.mem_of_getElem? (i := 1271) (by decide +kernel), List.mem_of_getElem? (i := 1661) (by decide +kernel), List.mem_of_getElem? (i := 1662) (by decide +kernel)⟩
theorem lw_p94 : lw_okq (⟨"BookBargeModel", "arm", "(II)I"⟩, 39) := ⟨⟨by decide +kernel, by decide +kernel⟩, List.mem_of_getElem? (i := 1271) (by decide +kernel), List.mem_of_getElem? (i := 1665) (by decide +kernel), List.mem_of_getElem? (i := 1666) (by decide +kernel)⟩
theorem lw_p95 : lw_okq (⟨"BookBargeModel", "draughtOf", "(III)I"⟩, 39) := ⟨⟨by decide +kernel, by decide +kernel⟩, List.mem_of_getElem? (i := 1271) (by decide +kernel), List.mem_of_getElem? (i := 1669) (by decide +kernel), List.mem_of_getElem? (i := 1670) (by decide +kernel)⟩
def lw_privs_6 : List (MethodName × Nat) := [(⟨"BookBargeModel", "isStop", "(I)Z"⟩, 39), (⟨"BookBargeModel", "depthOf", "(I)I"⟩, 39), (⟨"BookBargeModel", "leftAt", "(I)I"⟩, 39), (⟨"BookBargeModel", "isBarge", "(I)Z"⟩, 39), (⟨"BookBargeModel", "passesNow", "(II)Z"⟩, 39), (⟨"BookBargeModel", "aboardOf", "(I)I"⟩, 39), (⟨"BookBargeModel", "isAboard", "(II)Z"⟩, 39), (⟨"BookBargeModel", "passesBy", "(III)Z"⟩, 39), (⟨"BookBargeModel", "draughtBy", "(II)I"⟩, 39), (⟨"BookBargeModel", "loadBy", "(II)I"⟩, 39), (⟨"BookBargeModel", "bargeOf", "(II)I"⟩, 39), (⟨"BookBargeModel", "heavy", "(I)I"⟩, 39), (⟨"BookBargeModel", "tiltBy", "(II)I"⟩, 39), (⟨"BookBargeModel", "shelfIn", "(II)I"⟩, 39), (⟨"BookBargeModel", "arm", "(II)I"⟩, 39), (⟨"BookBargeModel", "draughtOf", "(III)I"⟩, 39)]
theorem lw_r6 : ∀ q ∈ lw_privs_6, lw_okq q := List.forall_mem_cons.mpr ⟨lw_p80, List.forall_mem_cons.mpr ⟨lw_p81, List.forall_mem_cons.mpr ⟨lw_p82, List.forall_mem_cons.mpr ⟨lw_p83, List.forall_mem_cons.mpr ⟨lw_p84, List.forall_mem_cons.mpr ⟨lw_p85, List.forall_mem_cons.mpr ⟨lw_p86, List.forall_mem_cons.mpr ⟨lw_p87, List.forall_mem_cons.mpr ⟨lw_p88, List.forall_mem_cons.mpr ⟨lw_p89, List.forall_mem_cons.mpr ⟨lw_p90, List.forall_mem_cons.mpr ⟨lw_p91, List.forall_mem_cons.mpr ⟨lw_p92, List.forall_mem_cons.mpr ⟨lw_p93, List.forall_mem_cons.mpr ⟨lw_p94, List.forall_mem_cons.mpr ⟨lw_p95, fun _ h => absurd h List.not_mem_nil⟩⟩⟩⟩⟩⟩⟩⟩⟩⟩⟩⟩⟩⟩⟩⟩
theorem lw_p96 : lw_okq (⟨"BookBargeModel", "readerOf", "(II)I"⟩, 39) := ⟨⟨by decide +kernel, by decide +kernel⟩, List.mem_of_getElem? (i := 1271) (by decide +kernel), List.mem_of_getElem? (i := 1673) (by decide +kernel), List.mem_of_getElem? (i := 1674) (by decide +kernel)⟩
theorem lw_p97 : lw_okq (⟨"BookBargeModel", "isReader", "(I)Z"⟩, 39) := ⟨⟨by decide +kernel, by decide +kernel⟩, List.mem_of_getElem? (i := 1271) (by decide +kernel), List.mem_of_getElem? (i := 1681) (by decide +kernel), List.mem_of_getElem? (i := 1682) (by decide +kernel)⟩
theorem lw_p98 : lw_okq (⟨"BookBargeModel", "wishOf", "(II)I"⟩, 39) := ⟨⟨by decide +kernel, by decide +kernel⟩, List.mem_of_getElem? (i := 1271) (by decide +kernel), List.mem_of_getElem? (i := 1689) (by decide +kernel), List.mem_of_getElem? (i := 1690) (by decide +kernel)⟩
theorem lw_p99 : lw_okq (⟨"BookBargeModel", "isHole", "(I)Z"⟩, 39) := ⟨⟨by decide +kernel, by decide +kernel⟩, List.mem_of_getElem? (i := 1271) (by decide +kernel), List.mem_of_getElem? (i := 1697) (by decide +kernel), List.mem_of_getElem? (i := 1698) (by decide +kernel)⟩
theorem lw_p100 : lw_okq (⟨"BookBargeModel", "holeOf", "(II)I"⟩, 39) := ⟨⟨by decide +kernel, by decide +kernel⟩, List.mem_of_getElem? (i := 1271) (by decide +kernel), List.mem_of_getElem? (i := 1702) (by decide +kernel), List.mem_of_getElem? (i := 1703) (by decide +kernel)⟩
theorem lw_p101 : lw_okq (⟨"BookBargeModel", "draughtNow", "(I)I"⟩, 39) := ⟨⟨by decide +kernel, by decide +kernel⟩, List.mem_of_getElem? (i := 1271) (by decide +kernel), List.mem_of_getElem? (i := 1711) (by decide +kernel), List.mem_of_getElem? (i := 1712) (by decide +kernel)⟩
theorem lw_p102 : lw_okq (⟨"BookBargeModel", "stopOf", "(I)I"⟩, 39) := ⟨⟨by decide +kernel, by decide +kernel⟩, List.mem_of_getElem? (i := 1271) (by decide +kernel), List.mem_of_getElem? (i := 1715) (by decide +kernel), List.mem_of_getElem? (i := 1716) (by decide +kernel)⟩
theorem lw_p103 : lw_okq (⟨"BookBargeModel", "bargeWith", "(I)I"⟩, 39) := ⟨⟨by decide +kernel, by decide +kernel⟩, List.mem_of_getElem? (i := 1271) (by decide +kernel), List.mem_of_getElem? (i := 1727) (by decide +kernel), List.mem_of_getElem? (i := 1728) (by decide +kernel)⟩
theorem lw_p104 : lw_okq (⟨"BookBargeModel", "keepsAct", "()V"⟩, 39) := ⟨⟨by decide +kernel, by decide +kernel⟩, List.mem_of_getElem? (i := 1271) (by decide +kernel), List.mem_of_getElem? (i := 1733) (by decide +kernel), List.mem_of_getElem? (i := 1734) (by decide +kernel)⟩
theorem lw_p105 : lw_okq (⟨"BookBargeModel", "stands", "(II)V"⟩, 39) := ⟨⟨by decide +kernel, by decide +kernel⟩, List.mem_of_getElem? (i := 1271) (by decide +kernel), List.mem_of_getElem? (i := 1737) (by decide +kernel), List.mem_of_getElem? (i := 1738) (by decide +kernel)⟩
theorem lw_p106 : lw_okq (⟨"BookBargeModel", "canLend", "(II)Z"⟩, 39) := ⟨⟨by decide +kernel, by decide +kernel⟩, List.mem_of_getElem? (i := 1271) (by decide +kernel), List.mem_of_getElem? (i := 1745) (by decide +kernel), List.mem_of_getElem? (i := 1746) (by decide +kernel)⟩
theorem lw_p107 : lw_okq (⟨"BookBargeModel", "lends", "(II)V"⟩, 39) := ⟨⟨by decide +kernel, by decide +kernel⟩, List.mem_of_getElem? (i := 1271) (by decide +kernel), List.mem_of_getElem? (i := 1749) (by decide +kernel), List.mem_of_getElem? (i := 1750) (by decide +kernel)⟩
theorem lw_p108 : lw_okq (⟨"BookBargeModel", "isShelf", "(II)Z"⟩, 39) := ⟨⟨by decide +kernel, by decide +kernel⟩, List.mem_of_getElem? (i := 1271) (by decide +kernel), List.mem_of_getElem? (i := 1757) (by decide +kernel), List.mem_of_getElem? (i := 1758) (by decide +kernel)⟩
theorem lw_p109 : lw_okq (⟨"BookBargeModel", "canFetch", "(II)Z"⟩, 39) := ⟨⟨by decide +kernel, by decide +kernel⟩, List.mem_of_getElem? (i := 1271) (by decide +kernel), List.mem_of_getElem? (i := 1761) (by decide +kernel), List.mem_of_getElem? (i := 1762) (by decide +kernel)⟩
theorem lw_p110 : lw_okq (⟨"BookBargeModel", "fetches", "(III)V"⟩, 39) := ⟨⟨by decide +kernel, by decide +kernel⟩, List.mem_of_getElem? (i := 1271) (by decide +kernel), List.mem_of_getElem? (i := 1767) (by decide +kernel), List.mem_of_getElem? (i := 1768) (by decide +kernel)⟩
theorem lw_p111 : lw_okq (⟨"BookBargeModel", "nights", "()V"⟩, 39) := ⟨⟨by decide +kernel, by decide +kernel⟩, List.mem_of_getElem? (i := 1271) (by decide +kernel), List.mem_of_getElem? (i := 1787) (by decide +kernel), List.mem_of_getElem? (i := 1788) (by decide +kernel)⟩
def lw_privs_7 : List (MethodName × Nat) := [(⟨"BookBargeModel", "readerOf", "(II)I"⟩, 39), (⟨"BookBargeModel", "isReader", "(I)Z"⟩, 39), (⟨"BookBargeModel", "wishOf", "(II)I"⟩, 39), (⟨"BookBargeModel", "isHole", "(I)Z"⟩, 39), (⟨"BookBargeModel", "holeOf", "(II)I"⟩, 39), (⟨"BookBargeModel", "draughtNow", "(I)I"⟩, 39), (⟨"BookBargeModel", "stopOf", "(I)I"⟩, 39), (⟨"BookBargeModel", "bargeWith", "(I)I"⟩, 39), (⟨"BookBargeModel", "keepsAct", "()V"⟩, 39), (⟨"BookBargeModel", "stands", "(II)V"⟩, 39), (⟨"BookBargeModel", "canLend", "(II)Z"⟩, 39), (⟨"BookBargeModel", "lends", "(II)V"⟩, 39), (⟨"BookBargeModel", "isShelf", "(II)Z"⟩, 39), (⟨"BookBargeModel", "canFetch", "(II)Z"⟩, 39), (⟨"BookBargeModel", "fetches", "(III)V"⟩, 39), (⟨"BookBargeModel", "nights", "()V"⟩, 39)]
theorem lw_r7 : ∀ q ∈ lw_privs_7, lw_okq q := List.forall_mem_cons.mpr ⟨lw_p96, List.forall_mem_cons.mpr ⟨lw_p97, List.forall_mem_cons.mpr ⟨lw_p98, List.forall_mem_cons.mpr ⟨lw_p99, List.forall_mem_cons.mpr ⟨lw_p100, List.forall_mem_cons.mpr ⟨lw_p101, List.forall_mem_cons.mpr ⟨lw_p102, List.forall_mem_cons.mpr ⟨lw_p103, List.forall_mem_cons.mpr ⟨lw_p104, List.forall_mem_cons.mpr ⟨lw_p105, List.forall_mem_cons.mpr ⟨lw_p106, List.forall_mem_cons.mpr ⟨lw_p107, List.forall_mem_cons.mpr ⟨lw_p108, List.forall_mem_cons.mpr ⟨lw_p109, List.forall_mem_cons.mpr ⟨lw_p110, List.forall_mem_cons.mpr ⟨lw_p111, fun _ h => absurd h List.not_mem_nil⟩⟩⟩⟩⟩⟩⟩⟩⟩⟩⟩⟩⟩⟩⟩⟩
theorem lw_p112 : lw_okq (⟨"BookBargeModel", "dry", "()I"⟩, 39) := ⟨⟨by decide +kernel, by decide +kernel⟩, List.mem_of_getElem? (i := 1271) (by decide +kernel), List.mem_of_getElem? (i := 1795) (by decide +kernel), List.mem_of_getElem? (i := 1796) (by decide +kernel)⟩
theorem lw_p113 : lw_okq (⟨"BookBargeModel", "rains", "()V"⟩, 39) := ⟨⟨by decide +kernel, by decide +kernel⟩, List.mem_of_getElem? (i := 1271) (by decide +kernel), List.mem_of_getElem? (i := 1799) (by decide +kernel), List.mem_of_getElem? (i := 1800) (by decide +kernel)⟩
theorem lw_p114 : lw_okq (⟨"BookBargeModel", "couldPlug", "(II)Z"⟩, 39) := ⟨⟨by decide +kernel, by decide +kernel⟩, List.mem_of_getElem? (i := 1271) (by decide +kernel), List.mem_of_getElem? (i := 1811) (by decide +kernel), List.mem_of_getElem? (i := 1812) (by decide +kernel)⟩
theorem lw_p115 : lw_okq (⟨"BookBargeModel", "isRule", "(I)Z"⟩, 39) := ⟨⟨by decide +kernel, by decide +kernel⟩, List.mem_of_getElem? (i := 1271) (by decide +kernel), List.mem_of_getElem? (i := 1819) (by decide +kernel), List.mem_of_getElem? (i := 1820) (by decide +kernel)⟩
theorem lw_p116 : lw_okq (⟨"BookBargeModel", "goesOn", "(II)Z"⟩, 39) := ⟨⟨by decide +kernel, by decide +kernel⟩, List.mem_of_getElem? (i := 1271) (by decide +kernel), List.mem_of_getElem? (i := 1824) (by decide +kernel), List.mem_of_getElem? (i := 1825) (by decide +kernel)⟩
theorem lw_p117 : lw_okq (⟨"BookBargeModel", "clauseFor", "(IIII)I"⟩, 39) := ⟨⟨by decide +kernel, by decide +kernel⟩, List.mem_of_getElem? (i := 1271) (by decide +kernel), List.mem_of_getElem? (i := 1828) (by decide +kernel), List.mem_of_getElem? (i := 1829) (by decide +kernel)⟩
theorem lw_p118 : lw_okq (⟨"BookBargeModel", "words", "(II)V"⟩, 39) := ⟨⟨by decide +kernel, by decide +kernel⟩, List.mem_of_getElem? (i := 1271) (by decide +kernel), List.mem_of_getElem? (i := 1832) (by decide +kernel), List.mem_of_getElem? (i := 1833) (by decide +kernel)⟩
theorem lw_p119 : lw_okq (⟨"BookBargeModel", "bestReader", "(II)I"⟩, 39) := ⟨⟨by decide +kernel, by decide +kernel⟩, List.mem_of_getElem? (i := 1271) (by decide +kernel), List.mem_of_getElem? (i := 1836) (by decide +kernel), List.mem_of_getElem? (i := 1837) (by decide +kernel)⟩
theorem lw_p120 : lw_okq (⟨"BookBargeModel", "holds", "(II)Z"⟩, 39) := ⟨⟨by decide +kernel, by decide +kernel⟩, List.mem_of_getElem? (i := 1271) (by decide +kernel), List.mem_of_getElem? (i := 1840) (by decide +kernel), List.mem_of_getElem? (i := 1841) (by decide +kernel)⟩
theorem lw_p121 : lw_okq (⟨"BookBargeModel", "reckons", "(III)J"⟩, 39) := ⟨⟨by decide +kernel, by decide +kernel⟩, List.mem_of_getElem? (i := 1271) (by decide +kernel), List.mem_of_getElem? (i := 1844) (by decide +kernel), List.mem_of_getElem? (i := 1845) (by decide +kernel)⟩
theorem lw_p122 : lw_okq (⟨"BookBargeModel", "push", "(J)V"⟩, 39) := ⟨⟨by decide +kernel, by decide +kernel⟩, List.mem_of_getElem? (i := 1271) (by decide +kernel), List.mem_of_getElem? (i := 1848) (by decide +kernel), List.mem_of_getElem? (i := 1849) (by decide +kernel)⟩
theorem lw_p123 : lw_okq (⟨"BookBargeModel", "pop", "()J"⟩, 39) := ⟨⟨by decide +kernel, by decide +kernel⟩, List.mem_of_getElem? (i := 1271) (by decide +kernel), List.mem_of_getElem? (i := 1852) (by decide +kernel), List.mem_of_getElem? (i := 1853) (by decide +kernel)⟩
theorem lw_p124 : lw_okq (⟨"BookBargeModel", "lightens", "(III)Z"⟩, 39) := ⟨⟨by decide +kernel, by decide +kernel⟩, List.mem_of_getElem? (i := 1271) (by decide +kernel), List.mem_of_getElem? (i := 1859) (by decide +kernel), List.mem_of_getElem? (i := 1860) (by decide +kernel)⟩
theorem lw_p125 : lw_okq (⟨"BookBargeModel", "nextFor", "(II)I"⟩, 39) := ⟨⟨by decide +kernel, by decide +kernel⟩, List.mem_of_getElem? (i := 1271) (by decide +kernel), List.mem_of_getElem? (i := 1863) (by decide +kernel), List.mem_of_getElem? (i := 1864) (by decide +kernel)⟩
theorem lw_p126 : lw_okq (⟨"BookBargeModel", "leastDepth", "(II)I"⟩, 39) := ⟨⟨by decide +kernel, by decide +kernel⟩, List.mem_of_getElem? (i := 1271) (by decide +kernel), List.mem_of_getElem? (i := 1871) (by decide +kernel), List.mem_of_getElem? (i := 1872) (by decide +kernel)⟩
theorem lw_p127 : lw_okq (⟨"BookBargeModel", "worthOf", "(I)I"⟩, 39) := ⟨⟨by decide +kernel, by decide +kernel⟩, List.mem_of_getElem? (i := 1271) (by decide +kernel), List.mem_of_getElem? (i := 1875) (by decide +kernel), List.mem_of_getElem? (i := 1876) (by decide +kernel)⟩
def lw_privs_8 : List (MethodName × Nat) := [(⟨"BookBargeModel", "dry", "()I"⟩, 39), (⟨"BookBargeModel", "rains", "()V"⟩, 39), (⟨"BookBargeModel", "couldPlug", "(II)Z"⟩, 39), (⟨"BookBargeModel", "isRule", "(I)Z"⟩, 39), (⟨"BookBargeModel", "goesOn", "(II)Z"⟩, 39), (⟨"BookBargeModel", "clauseFor", "(IIII)I"⟩, 39), (⟨"BookBargeModel", "words", "(II)V"⟩, 39), (⟨"BookBargeModel", "bestReader", "(II)I"⟩, 39), (⟨"BookBargeModel", "holds", "(II)Z"⟩, 39), (⟨"BookBargeModel", "reckons", "(III)J"⟩, 39), (⟨"BookBargeModel", "push", "(J)V"⟩, 39), (⟨"BookBargeModel", "pop", "()J"⟩, 39), (⟨"BookBargeModel", "lightens", "(III)Z"⟩, 39), (⟨"BookBargeModel", "nextFor", "(II)I"⟩, 39), (⟨"BookBargeModel", "leastDepth", "(II)I"⟩, 39), (⟨"BookBargeModel", "worthOf", "(I)I"⟩, 39)]
theorem lw_r8 : ∀ q ∈ lw_privs_8, lw_okq q := List.forall_mem_cons.mpr ⟨lw_p112, List.forall_mem_cons.mpr ⟨lw_p113, List.forall_mem_cons.mpr ⟨lw_p114, List.forall_mem_cons.mpr ⟨lw_p115, List.forall_mem_cons.mpr ⟨lw_p116, List.forall_mem_cons.mpr ⟨lw_p117, List.forall_mem_cons.mpr ⟨lw_p118, List.forall_mem_cons.mpr ⟨lw_p119, List.forall_mem_cons.mpr ⟨lw_p120, List.forall_mem_cons.mpr ⟨lw_p121, List.forall_mem_cons.mpr ⟨lw_p122, List.forall_mem_cons.mpr ⟨lw_p123, List.forall_mem_cons.mpr ⟨lw_p124, List.forall_mem_cons.mpr ⟨lw_p125, List.forall_mem_cons.mpr ⟨lw_p126, List.forall_mem_cons.mpr ⟨lw_p127, fun _ h => absurd h List.not_mem_nil⟩⟩⟩⟩⟩⟩⟩⟩⟩⟩⟩⟩⟩⟩⟩⟩
theorem lw_p128 : lw_okq (⟨"BookBargeModel", "isAhead", "(II)Z"⟩, 39) := ⟨⟨by decide +kernel, by decide +kernel⟩, List.mem_of_getElem? (i := 1271) (by decide +kernel), List.mem_of_getElem? (i := 1886) (by decide +kernel), List.mem_of_getElem? (i := 1887) (by decide +kernel)⟩
theorem lw_p129 : lw_okq (⟨"BookBargeModel", "mostCoins", "(III)I"⟩, 39) := ⟨⟨by decide +kernel, by decide +kernel⟩, List.mem_of_getElem? (i := 1271) (by decide +kernel), List.mem_of_getElem? (i := 1891) (by decide +kernel), List.mem_of_getElem? (i := 1892) (by decide +kernel)⟩
theorem lw_p130 : lw_okq (⟨"BookBargeModel", "tellsThrough", "(III)V"⟩, 39) := ⟨⟨by decide +kernel, by decide +kernel⟩, List.mem_of_getElem? (i := 1271) (by decide +kernel), List.mem_of_getElem? (i := 1895) (by decide +kernel), List.mem_of_getElem? (i := 1896) (by decide +kernel)⟩
theorem lw_p131 : lw_okq (⟨"BookBargeModel", "coinsOf", "(II)I"⟩, 39) := ⟨⟨by decide +kernel, by decide +kernel⟩, List.mem_of_getElem? (i := 1271) (by decide +kernel), List.mem_of_getElem? (i := 1899) (by decide +kernel), List.mem_of_getElem? (i := 1900) (by decide +kernel)⟩
theorem lw_p132 : lw_okq (⟨"BookBargeModel", "nextRow", "(III)Z"⟩, 39) := ⟨⟨by decide +kernel, by decide +kernel⟩, List.mem_of_getElem? (i := 1271) (by decide +kernel), List.mem_of_getElem? (i := 1903) (by decide +kernel), List.mem_of_getElem? (i := 1904) (by decide +kernel)⟩
theorem lw_p133 : lw_okq (⟨"BookBargeModel", "canAsk", "(IIII)Z"⟩, 39) := ⟨⟨by decide +kernel, by decide +kernel⟩, List.mem_of_getElem? (i := 1271) (by decide +kernel), List.mem_of_getElem? (i := 1907) (by decide +kernel), List.mem_of_getElem? (i := 1908) (by decide +kernel)⟩
theorem lw_p134 : lw_okq (⟨"BookBargeModel", "nextBook", "(III)I"⟩, 39) := ⟨⟨by decide +kernel, by decide +kernel⟩, List.mem_of_getElem? (i := 1271) (by decide +kernel), List.mem_of_getElem? (i := 1911) (by decide +kernel), List.mem_of_getElem? (i := 1912) (by decide +kernel)⟩
theorem lw_p135 : lw_okq (⟨"BookBargeModel", "isPlugRow", "(I)Z"⟩, 39) := ⟨⟨by decide +kernel, by decide +kernel⟩, List.mem_of_getElem? (i := 1271) (by decide +kernel), List.mem_of_getElem? (i := 1936) (by decide +kernel), List.mem_of_getElem? (i := 1937) (by decide +kernel)⟩
theorem lw_p136 : lw_okq (⟨"BookBargeModel", "plugWorth", "(I)I"⟩, 39) := ⟨⟨by decide +kernel, by decide +kernel⟩, List.mem_of_getElem? (i := 1271) (by decide +kernel), List.mem_of_getElem? (i := 1940) (by decide +kernel), List.mem_of_getElem? (i := 1941) (by decide +kernel)⟩
theorem lw_p137 : lw_okq (⟨"BookBargeModel", "nextPlugRow", "(I)Z"⟩, 39) := ⟨⟨by decide +kernel, by decide +kernel⟩, List.mem_of_getElem? (i := 1271) (by decide +kernel), List.mem_of_getElem? (i := 1944) (by decide +kernel), List.mem_of_getElem? (i := 1945) (by decide +kernel)⟩
theorem lw_p138 : lw_okq (⟨"BookBargeModel", "keeps", "()V"⟩, 39) := ⟨⟨by decide +kernel, by decide +kernel⟩, List.mem_of_getElem? (i := 1271) (by decide +kernel), List.mem_of_getElem? (i := 1957) (by decide +kernel), List.mem_of_getElem? (i := 1958) (by decide +kernel)⟩
theorem lw_p139 : lw_okq (⟨"BookBargeModel", "weathers", "(II)V"⟩, 39) := ⟨⟨by decide +kernel, by decide +kernel⟩, List.mem_of_getElem? (i := 1271) (by decide +kernel), List.mem_of_getElem? (i := 1961) (by decide +kernel), List.mem_of_getElem? (i := 1962) (by decide +kernel)⟩
theorem lw_p140 : lw_okq (⟨"BookBargeModel", "draw", "(I)I"⟩, 39) := ⟨⟨by decide +kernel, by decide +kernel⟩, List.mem_of_getElem? (i := 1271) (by decide +kernel), List.mem_of_getElem? (i := 1965) (by decide +kernel), List.mem_of_getElem? (i := 1966) (by decide +kernel)⟩
theorem lw_p141 : lw_okq (⟨"BookBargeModel", "putsBack", "()V"⟩, 39) := ⟨⟨by decide +kernel, by decide +kernel⟩, List.mem_of_getElem? (i := 1271) (by decide +kernel), List.mem_of_getElem? (i := 1973) (by decide +kernel), List.mem_of_getElem? (i := 1974) (by decide +kernel)⟩
def lw_privs_9 : List (MethodName × Nat) := [(⟨"BookBargeModel", "isAhead", "(II)Z"⟩, 39), (⟨"BookBargeModel", "mostCoins", "(III)I"⟩, 39), (⟨"BookBargeModel", "tellsThrough", "(III)V"⟩, 39), (⟨"BookBargeModel", "coinsOf", "(II)I"⟩, 39), (⟨"BookBargeModel", "nextRow", "(III)Z"⟩, 39), (⟨"BookBargeModel", "canAsk", "(IIII)Z"⟩, 39), (⟨"BookBargeModel", "nextBook", "(III)I"⟩, 39), (⟨"BookBargeModel", "isPlugRow", "(I)Z"⟩, 39), (⟨"BookBargeModel", "plugWorth", "(I)I"⟩, 39), (⟨"BookBargeModel", "nextPlugRow", "(I)Z"⟩, 39), (⟨"BookBargeModel", "keeps", "()V"⟩, 39), (⟨"BookBargeModel", "weathers", "(II)V"⟩, 39), (⟨"BookBargeModel", "draw", "(I)I"⟩, 39), (⟨"BookBargeModel", "putsBack", "()V"⟩, 39)]
theorem lw_r9 : ∀ q ∈ lw_privs_9, lw_okq q := List.forall_mem_cons.mpr ⟨lw_p128, List.forall_mem_cons.mpr ⟨lw_p129, List.forall_mem_cons.mpr ⟨lw_p130, List.forall_mem_cons.mpr ⟨lw_p131, List.forall_mem_cons.mpr ⟨lw_p132, List.forall_mem_cons.mpr ⟨lw_p133, List.forall_mem_cons.mpr ⟨lw_p134, List.forall_mem_cons.mpr ⟨lw_p135, List.forall_mem_cons.mpr ⟨lw_p136, List.forall_mem_cons.mpr ⟨lw_p137, List.forall_mem_cons.mpr ⟨lw_p138, List.forall_mem_cons.mpr ⟨lw_p139, List.forall_mem_cons.mpr ⟨lw_p140, List.forall_mem_cons.mpr ⟨lw_p141, fun _ h => absurd h List.not_mem_nil⟩⟩⟩⟩⟩⟩⟩⟩⟩⟩⟩⟩⟩⟩
def lw_privs : List (MethodName × Nat) := lw_privs_1 ++ (lw_privs_2 ++ (lw_privs_3 ++ (lw_privs_4 ++ (lw_privs_5 ++ (lw_privs_6 ++ (lw_privs_7 ++ (lw_privs_8 ++ (lw_privs_9))))))))
def lw_tbl : List Cond := k2_sels lw_privs ++ tables_1
theorem lw_privs_ok : ∀ q ∈ lw_privs, lw_okq q := by
  show ∀ q ∈ lw_privs_1 ++ (lw_privs_2 ++ (lw_privs_3 ++ (lw_privs_4 ++ (lw_privs_5 ++ (lw_privs_6 ++ (lw_privs_7 ++ (lw_privs_8 ++ (lw_privs_9)))))))), lw_okq q
  exact List.forall_mem_append.mpr ⟨lw_r1, List.forall_mem_append.mpr ⟨lw_r2, List.forall_mem_append.mpr ⟨lw_r3, List.forall_mem_append.mpr ⟨lw_r4, List.forall_mem_append.mpr ⟨lw_r5, List.forall_mem_append.mpr ⟨lw_r6, List.forall_mem_append.mpr ⟨lw_r7, List.forall_mem_append.mpr ⟨lw_r8, lw_r9⟩⟩⟩⟩⟩⟩⟩⟩
-- ===== end of PART A; then your names; then what follows =====
end
section
/-! ===== BEGIN printed: names, fields, word lists, decode rows ===== -/
def RX0 : String := "BookBarge$Cargo"
def TX0 : u_T := fun k => match k with
  | 0 => ("BookBarge$Cargo", "heavy", "[I", true)
  | 1 => ("BookBarge$Cargo", "turn", "[I", true)
  | 2 => ("BookBarge$Cargo", "stone", "I", false)
  | 3 => ("BookBarge$Cargo", "lean", "I", false)
  | 4 => ("BookBarge$Cargo", "draught", "I", false)
  | 5 => ("BookBarge$Cargo", "tiltWanted", "I", false)
  | 6 => ("BookBarge$Cargo", "isAnyTilt", "Z", false)
  | 7 => ("BookBarge$Cargo", "some", "I", false)
  | 8 => ("BookBarge$Cargo", "found", "I", false)
  | 9 => ("BookBarge$Cargo", "inAll", "I", false)
  | _ => ("BookBarge$Cargo", "inNone", "I", false)
def tyX0 : Nat → FieldType := fun k => match k with
  | 0 => .array .int
  | 1 => .array .int
  | 2 => .int
  | 3 => .int
  | 4 => .int
  | 5 => .int
  | 6 => .boolean
  | 7 => .int
  | 8 => .int
  | 9 => .int
  | _ => .int
abbrev wsX00 : List Cond := u_ws RX0 TX0 11
theorem nmX0 : ∀ a, a < 11 → ∀ b, b < 11 → a ≠ b → (TX0 a).2.1 ≠ (TX0 b).2.1 := by decide +kernel
theorem tyX0_ok : ∀ k, k < 11 → parseFieldDescriptor (TX0 k).2.2.1 = some (tyX0 k) := by decide +kernel
abbrev cX0_init : ByteArray := prog_2_method_1_code
def yX0_init : MethodName := ⟨RX0, "<init>", "()V"⟩
abbrev cX0_find : ByteArray := prog_2_method_2_code
def yX0_find : MethodName := ⟨RX0, "find", "(LBookBarge$World;IIIZ)V"⟩
abbrev cX0_noteCandidates : ByteArray := prog_2_method_3_code
def yX0_noteCandidates : MethodName := ⟨RX0, "noteCandidates", "(LBookBarge$World;I)I"⟩
abbrev cX0_search : ByteArray := prog_2_method_4_code
def yX0_search : MethodName := ⟨RX0, "search", "(IIII)V"⟩
def RX1 : String := "BookBarge$Journey"
def TX1 : u_T := fun k => match k with
  | 0 => ("BookBarge$Journey", "trip", "LBookBarge$World;", true)
  | 1 => ("BookBarge$Journey", "words", "[J", true)
  | 2 => ("BookBarge$Journey", "world", "LBookBarge$World;", false)
  | 3 => ("BookBarge$Journey", "rule", "LBookBarge$Rule;", false)
  | 4 => ("BookBarge$Journey", "barge", "I", false)
  | 5 => ("BookBarge$Journey", "keenest", "I", false)
  | 6 => ("BookBarge$Journey", "x", "I", false)
  | 7 => ("BookBarge$Journey", "lent", "I", false)
  | 8 => ("BookBarge$Journey", "ashore", "I", false)
  | _ => ("BookBarge$Journey", "arrived", "I", false)
def tyX1 : Nat → FieldType := fun k => match k with
  | 0 => .object "BookBarge$World"
  | 1 => .array .long
  | 2 => .object "BookBarge$World"
  | 3 => .object "BookBarge$Rule"
  | 4 => .int
  | 5 => .int
  | 6 => .int
  | 7 => .int
  | 8 => .int
  | _ => .int
abbrev wsX10 : List Cond := u_ws RX1 TX1 10
theorem nmX1 : ∀ a, a < 10 → ∀ b, b < 10 → a ≠ b → (TX1 a).2.1 ≠ (TX1 b).2.1 := by decide +kernel
theorem tyX1_ok : ∀ k, k < 10 → parseFieldDescriptor (TX1 k).2.2.1 = some (tyX1 k) := by decide +kernel
abbrev cX1_init : ByteArray := prog_3_method_1_code
def yX1_init : MethodName := ⟨RX1, "<init>", "()V"⟩
abbrev cX1_begin : ByteArray := prog_3_method_2_code
def yX1_begin : MethodName := ⟨RX1, "begin", "(LBookBarge$World;LBookBarge$Rule;I)V"⟩
abbrev cX1_here : ByteArray := prog_3_method_3_code
def yX1_here : MethodName := ⟨RX1, "here", "()I"⟩
abbrev cX1_tellBarge : ByteArray := prog_3_method_4_code
def yX1_tellBarge : MethodName := ⟨RX1, "tellBarge", "()V"⟩
abbrev cX1_tellBook : ByteArray := prog_3_method_5_code
def yX1_tellBook : MethodName := ⟨RX1, "tellBook", "(I)V"⟩
abbrev cX1_goOneStop : ByteArray := prog_3_method_6_code
def yX1_goOneStop : MethodName := ⟨RX1, "goOneStop", "()Z"⟩
abbrev cX1_fetchByRule : ByteArray := prog_3_method_7_code
def yX1_fetchByRule : MethodName := ⟨RX1, "fetchByRule", "()V"⟩
abbrev cX1_shiftByRule : ByteArray := prog_3_method_8_code
def yX1_shiftByRule : MethodName := ⟨RX1, "shiftByRule", "()V"⟩
abbrev cX1_lightenByRule : ByteArray := prog_3_method_9_code
def yX1_lightenByRule : MethodName := ⟨RX1, "lightenByRule", "(I)Z"⟩
abbrev cX1_bookByRule : ByteArray := prog_3_method_10_code
def yX1_bookByRule : MethodName := ⟨RX1, "bookByRule", "()I"⟩
abbrev cX1_draw : ByteArray := prog_3_method_11_code
def yX1_draw : MethodName := ⟨RX1, "draw", "()I"⟩
abbrev cX1_gnaw : ByteArray := prog_3_method_12_code
def yX1_gnaw : MethodName := ⟨RX1, "gnaw", "()V"⟩
abbrev cX1_drawVoyages : ByteArray := prog_3_method_13_code
def yX1_drawVoyages : MethodName := ⟨RX1, "drawVoyages", "(LBookBarge$World;III)V"⟩
def RX2 : String := "BookBarge$Leaving"
def TX2 : u_T := fun k => match k with
  | 0 => ("BookBarge$Leaving", "heavy", "[I", true)
  | 1 => ("BookBarge$Leaving", "turn", "[I", true)
  | 2 => ("BookBarge$Leaving", "worthOf", "[I", true)
  | 3 => ("BookBarge$Leaving", "stone", "I", false)
  | 4 => ("BookBarge$Leaving", "lean", "I", false)
  | 5 => ("BookBarge$Leaving", "depth", "I", false)
  | 6 => ("BookBarge$Leaving", "bestSize", "I", false)
  | 7 => ("BookBarge$Leaving", "bestWorth", "I", false)
  | _ => ("BookBarge$Leaving", "bestSet", "I", false)
def tyX2 : Nat → FieldType := fun k => match k with
  | 0 => .array .int
  | 1 => .array .int
  | 2 => .array .int
  | 3 => .int
  | 4 => .int
  | 5 => .int
  | 6 => .int
  | 7 => .int
  | _ => .int
abbrev wsX20 : List Cond := u_ws RX2 TX2 9
theorem nmX2 : ∀ a, a < 9 → ∀ b, b < 9 → a ≠ b → (TX2 a).2.1 ≠ (TX2 b).2.1 := by decide +kernel
theorem tyX2_ok : ∀ k, k < 9 → parseFieldDescriptor (TX2 k).2.2.1 = some (tyX2 k) := by decide +kernel
abbrev cX2_init : ByteArray := prog_4_method_1_code
def yX2_init : MethodName := ⟨RX2, "<init>", "()V"⟩
abbrev cX2_find : ByteArray := prog_4_method_2_code
def yX2_find : MethodName := ⟨RX2, "find", "(LBookBarge$World;II)Z"⟩
abbrev cX2_search : ByteArray := prog_4_method_3_code
def yX2_search : MethodName := ⟨RX2, "search", "(IIIIII)V"⟩
def RX3 : String := "BookBarge$Lending"
def TX3 : u_T := fun k => match k with
  | 0 => ("BookBarge$Lending", "gains", "[I", true)
  | 1 => ("BookBarge$Lending", "atMost", "[I", true)
  | 2 => ("BookBarge$Lending", "home", "[I", true)
  | 3 => ("BookBarge$Lending", "heavy", "[I", true)
  | 4 => ("BookBarge$Lending", "turn", "[I", true)
  | 5 => ("BookBarge$Lending", "depths", "[I", true)
  | 6 => ("BookBarge$Lending", "lessLoad", "[I", true)
  | 7 => ("BookBarge$Lending", "lessTilt", "[I", true)
  | 8 => ("BookBarge$Lending", "row", "[I", true)
  | 9 => ("BookBarge$Lending", "best", "[I", true)
  | 10 => ("BookBarge$Lending", "bestCoins", "I", false)
  | 11 => ("BookBarge$Lending", "first", "I", false)
  | 12 => ("BookBarge$Lending", "last", "I", false)
  | 13 => ("BookBarge$Lending", "load", "I", false)
  | 14 => ("BookBarge$Lending", "tilt", "I", false)
  | 15 => ("BookBarge$Lending", "stone", "I", false)
  | _ => ("BookBarge$Lending", "lean", "I", false)
def tyX3 : Nat → FieldType := fun k => match k with
  | 0 => .array .int
  | 1 => .array .int
  | 2 => .array .int
  | 3 => .array .int
  | 4 => .array .int
  | 5 => .array .int
  | 6 => .array .int
  | 7 => .array .int
  | 8 => .array .int
  | 9 => .array .int
  | 10 => .int
  | 11 => .int
  | 12 => .int
  | 13 => .int
  | 14 => .int
  | 15 => .int
  | _ => .int
abbrev wsX30 : List Cond := u_ws RX3 TX3 17
theorem nmX3 : ∀ a, a < 17 → ∀ b, b < 17 → a ≠ b → (TX3 a).2.1 ≠ (TX3 b).2.1 := by decide +kernel
theorem tyX3_ok : ∀ k, k < 17 → parseFieldDescriptor (TX3 k).2.2.1 = some (tyX3 k) := by decide +kernel
abbrev cX3_init : ByteArray := prog_5_method_1_code
def yX3_init : MethodName := ⟨RX3, "<init>", "()V"⟩
abbrev cX3_mostCoins : ByteArray := prog_5_method_2_code
def yX3_mostCoins : MethodName := ⟨RX3, "mostCoins", "(LBookBarge$World;IIII)I"⟩
abbrev cX3_noteGains : ByteArray := prog_5_method_3_code
def yX3_noteGains : MethodName := ⟨RX3, "noteGains", "(LBookBarge$World;IZ)I"⟩
abbrev cX3_search : ByteArray := prog_5_method_4_code
def yX3_search : MethodName := ⟨RX3, "search", "(III)V"⟩
abbrev cX3_passesAll : ByteArray := prog_5_method_5_code
def yX3_passesAll : MethodName := ⟨RX3, "passesAll", "()Z"⟩
def RX4 : String := "BookBarge$Meeting"
def TX4 : u_T := fun k => match k with
  | 0 => ("BookBarge$Meeting", "heavy", "[I", true)
  | 1 => ("BookBarge$Meeting", "turn0", "[I", true)
  | 2 => ("BookBarge$Meeting", "turn1", "[I", true)
  | 3 => ("BookBarge$Meeting", "stone0", "I", false)
  | 4 => ("BookBarge$Meeting", "lean0", "I", false)
  | 5 => ("BookBarge$Meeting", "depth0", "I", false)
  | 6 => ("BookBarge$Meeting", "stone1", "I", false)
  | 7 => ("BookBarge$Meeting", "lean1", "I", false)
  | 8 => ("BookBarge$Meeting", "depth1", "I", false)
  | 9 => ("BookBarge$Meeting", "bestSize", "I", false)
  | _ => ("BookBarge$Meeting", "bestSet", "I", false)
def tyX4 : Nat → FieldType := fun k => match k with
  | 0 => .array .int
  | 1 => .array .int
  | 2 => .array .int
  | 3 => .int
  | 4 => .int
  | 5 => .int
  | 6 => .int
  | 7 => .int
  | 8 => .int
  | 9 => .int
  | _ => .int
abbrev wsX40 : List Cond := u_ws RX4 TX4 11
theorem nmX4 : ∀ a, a < 11 → ∀ b, b < 11 → a ≠ b → (TX4 a).2.1 ≠ (TX4 b).2.1 := by decide +kernel
theorem tyX4_ok : ∀ k, k < 11 → parseFieldDescriptor (TX4 k).2.2.1 = some (tyX4 k) := by decide +kernel
abbrev cX4_init : ByteArray := prog_6_method_1_code
def yX4_init : MethodName := ⟨RX4, "<init>", "()V"⟩
abbrev cX4_find : ByteArray := prog_6_method_2_code
def yX4_find : MethodName := ⟨RX4, "find", "(LBookBarge$World;)Z"⟩
abbrev cX4_search : ByteArray := prog_6_method_3_code
def yX4_search : MethodName := ⟨RX4, "search", "(IIIIIII)V"⟩
def RX5 : String := "BookBarge$Plugging"
def TX5 : u_T := fun k => match k with
  | 0 => ("BookBarge$Plugging", "isNeeded", "[Z", true)
  | 1 => ("BookBarge$Plugging", "fitting", "[I", true)
  | 2 => ("BookBarge$Plugging", "worthOf", "[I", true)
  | 3 => ("BookBarge$Plugging", "row", "[I", true)
  | 4 => ("BookBarge$Plugging", "best", "[I", true)
  | _ => ("BookBarge$Plugging", "bestWorth", "I", false)
def tyX5 : Nat → FieldType := fun k => match k with
  | 0 => .array .boolean
  | 1 => .array .int
  | 2 => .array .int
  | 3 => .array .int
  | 4 => .array .int
  | _ => .int
abbrev wsX50 : List Cond := u_ws RX5 TX5 6
theorem nmX5 : ∀ a, a < 6 → ∀ b, b < 6 → a ≠ b → (TX5 a).2.1 ≠ (TX5 b).2.1 := by decide +kernel
theorem tyX5_ok : ∀ k, k < 6 → parseFieldDescriptor (TX5 k).2.2.1 = some (tyX5 k) := by decide +kernel
abbrev cX5_init : ByteArray := prog_7_method_1_code
def yX5_init : MethodName := ⟨RX5, "<init>", "()V"⟩
abbrev cX5_find : ByteArray := prog_7_method_2_code
def yX5_find : MethodName := ⟨RX5, "find", "(LBookBarge$World;I)Z"⟩
abbrev cX5_search : ByteArray := prog_7_method_3_code
def yX5_search : MethodName := ⟨RX5, "search", "(III)V"⟩
def RX6 : String := "BookBarge$RiverParser"
def TX6 : u_T := fun k => match k with
  | 0 => ("BookBarge$Scanner", "text", "[I", true)
  | 1 => ("BookBarge$Scanner", "length", "I", false)
  | 2 => ("BookBarge$Scanner", "place", "I", false)
  | 3 => ("BookBarge$Scanner", "number", "I", false)
  | 4 => ("BookBarge$Scanner", "fault", "I", false)
  | 5 => ("BookBarge$RiverParser", "told", "LBookBarge$World;", true)
  | _ => ("BookBarge$RiverParser", "cells", "[I", true)
def tyX6 : Nat → FieldType := fun k => match k with
  | 0 => .array .int
  | 1 => .int
  | 2 => .int
  | 3 => .int
  | 4 => .int
  | 5 => .object "BookBarge$World"
  | _ => .array .int
abbrev wsX60 : List Cond := u_ws RX6 TX6 7
theorem nmX6 : ∀ a, a < 7 → ∀ b, b < 7 → a ≠ b → (TX6 a).2.1 ≠ (TX6 b).2.1 := by decide +kernel
theorem tyX6_ok : ∀ k, k < 7 → parseFieldDescriptor (TX6 k).2.2.1 = some (tyX6 k) := by decide +kernel
abbrev cX6_init : ByteArray := prog_8_method_1_code
def yX6_init : MethodName := ⟨RX6, "<init>", "()V"⟩
abbrev cX6_parse : ByteArray := prog_8_method_2_code
def yX6_parse : MethodName := ⟨RX6, "parse", "([II)I"⟩
abbrev cX6_settle : ByteArray := prog_8_method_3_code
def yX6_settle : MethodName := ⟨RX6, "settle", "()V"⟩
abbrev cX6_readClause : ByteArray := prog_8_method_4_code
def yX6_readClause : MethodName := ⟨RX6, "readClause", "(I)Z"⟩
abbrev cX6_hasPlaceFor : ByteArray := prog_8_method_5_code
def yX6_hasPlaceFor : MethodName := ⟨RX6, "hasPlaceFor", "(II)Z"⟩
abbrev cX6_readInto : ByteArray := prog_8_method_6_code
def yX6_readInto : MethodName := ⟨RX6, "readInto", "(III)Z"⟩
abbrev cX6_readBarge : ByteArray := prog_8_method_7_code
def yX6_readBarge : MethodName := ⟨RX6, "readBarge", "()Z"⟩
abbrev cX6_readBook : ByteArray := prog_8_method_8_code
def yX6_readBook : MethodName := ⟨RX6, "readBook", "()Z"⟩
abbrev cX6_readStop : ByteArray := prog_8_method_9_code
def yX6_readStop : MethodName := ⟨RX6, "readStop", "()Z"⟩
abbrev cX6_readReader : ByteArray := prog_8_method_10_code
def yX6_readReader : MethodName := ⟨RX6, "readReader", "()Z"⟩
abbrev cX6_readWish : ByteArray := prog_8_method_11_code
def yX6_readWish : MethodName := ⟨RX6, "readWish", "()Z"⟩
abbrev cX6_readHole : ByteArray := prog_8_method_12_code
def yX6_readHole : MethodName := ⟨RX6, "readHole", "()Z"⟩
def RX7 : String := "BookBarge$Rule"
def TX7 : u_T := fun k => match k with
  | 0 => ("BookBarge$Rule", "code", "[I", true)
  | 1 => ("BookBarge$Rule", "clauses", "[I", true)
  | _ => ("BookBarge$Rule", "stack", "[J", true)
def tyX7 : Nat → FieldType := fun k => match k with
  | 0 => .array .int
  | 1 => .array .int
  | _ => .array .long
abbrev wsX70 : List Cond := u_ws RX7 TX7 3
theorem nmX7 : ∀ a, a < 3 → ∀ b, b < 3 → a ≠ b → (TX7 a).2.1 ≠ (TX7 b).2.1 := by decide +kernel
theorem tyX7_ok : ∀ k, k < 3 → parseFieldDescriptor (TX7 k).2.2.1 = some (tyX7 k) := by decide +kernel
abbrev cX7_init : ByteArray := prog_9_method_1_code
def yX7_init : MethodName := ⟨RX7, "<init>", "([I[I)V"⟩
abbrev cX7_part : ByteArray := prog_9_method_2_code
def yX7_part : MethodName := ⟨RX7, "part", "(II)I"⟩
abbrev cX7_firstClause : ByteArray := prog_9_method_3_code
def yX7_firstClause : MethodName := ⟨RX7, "firstClause", "(II[J)I"⟩
abbrev cX7_sum : ByteArray := prog_9_method_4_code
def yX7_sum : MethodName := ⟨RX7, "sum", "(I[J)J"⟩
abbrev cX7_worked : ByteArray := prog_9_method_5_code
def yX7_worked : MethodName := ⟨RX7, "worked", "(II[J)J"⟩
abbrev cX7_joined : ByteArray := prog_9_method_6_code
def yX7_joined : MethodName := ⟨RX7, "joined", "(IJJ)J"⟩
def RX8 : String := "BookBarge$RuleParser"
def TX8 : u_T := fun k => match k with
  | 0 => ("BookBarge$Scanner", "text", "[I", true)
  | 1 => ("BookBarge$Scanner", "length", "I", false)
  | 2 => ("BookBarge$Scanner", "place", "I", false)
  | 3 => ("BookBarge$Scanner", "number", "I", false)
  | 4 => ("BookBarge$Scanner", "fault", "I", false)
  | 5 => ("BookBarge$RuleParser", "code", "[I", true)
  | 6 => ("BookBarge$RuleParser", "codeLength", "I", false)
  | 7 => ("BookBarge$RuleParser", "clauses", "[I", true)
  | 8 => ("BookBarge$RuleParser", "clauseCount", "I", false)
  | _ => ("BookBarge$RuleParser", "parts", "I", false)
def tyX8 : Nat → FieldType := fun k => match k with
  | 0 => .array .int
  | 1 => .int
  | 2 => .int
  | 3 => .int
  | 4 => .int
  | 5 => .array .int
  | 6 => .int
  | 7 => .array .int
  | 8 => .int
  | _ => .int
abbrev wsX80 : List Cond := u_ws RX8 TX8 10
theorem nmX8 : ∀ a, a < 10 → ∀ b, b < 10 → a ≠ b → (TX8 a).2.1 ≠ (TX8 b).2.1 := by decide +kernel
theorem tyX8_ok : ∀ k, k < 10 → parseFieldDescriptor (TX8 k).2.2.1 = some (tyX8 k) := by decide +kernel
abbrev cX8_init : ByteArray := prog_10_method_1_code
def yX8_init : MethodName := ⟨RX8, "<init>", "()V"⟩
abbrev cX8_parse : ByteArray := prog_10_method_2_code
def yX8_parse : MethodName := ⟨RX8, "parse", "([II)I"⟩
abbrev cX8_made : ByteArray := prog_10_method_3_code
def yX8_made : MethodName := ⟨RX8, "made", "()LBookBarge$Rule;"⟩
abbrev cX8_readClause : ByteArray := prog_10_method_4_code
def yX8_readClause : MethodName := ⟨RX8, "readClause", "()Z"⟩
abbrev cX8_put : ByteArray := prog_10_method_5_code
def yX8_put : MethodName := ⟨RX8, "put", "(I)V"⟩
abbrev cX8_countPart : ByteArray := prog_10_method_6_code
def yX8_countPart : MethodName := ⟨RX8, "countPart", "(I)Z"⟩
abbrev cX8_readTest : ByteArray := prog_10_method_7_code
def yX8_readTest : MethodName := ⟨RX8, "readTest", "(I)Z"⟩
abbrev cX8_readFact : ByteArray := prog_10_method_8_code
def yX8_readFact : MethodName := ⟨RX8, "readFact", "(I)Z"⟩
abbrev cX8_takeComparison : ByteArray := prog_10_method_9_code
def yX8_takeComparison : MethodName := ⟨RX8, "takeComparison", "()I"⟩
abbrev cX8_readSum : ByteArray := prog_10_method_10_code
def yX8_readSum : MethodName := ⟨RX8, "readSum", "()Z"⟩
abbrev cX8_readValue : ByteArray := prog_10_method_11_code
def yX8_readValue : MethodName := ⟨RX8, "readValue", "()Z"⟩
def RX9 : String := "BookBarge$Scanner"
def TX9 : u_T := fun k => match k with
  | _ => ("", "", "", false)
def tyX9 : Nat → FieldType := fun k => match k with
  | _ => .int
abbrev wsX90 : List Cond := u_ws RX9 TX9 0
theorem nmX9 : ∀ a, a < 0 → ∀ b, b < 0 → a ≠ b → (TX9 a).2.1 ≠ (TX9 b).2.1 := by decide +kernel
theorem tyX9_ok : ∀ k, k < 0 → parseFieldDescriptor (TX9 k).2.2.1 = some (tyX9 k) := by decide +kernel
abbrev cX9_init : ByteArray := prog_11_method_1_code
def yX9_init : MethodName := ⟨RX9, "<init>", "()V"⟩
abbrev cX9_open : ByteArray := prog_11_method_2_code
def yX9_open : MethodName := ⟨RX9, "open", "([II)V"⟩
abbrev cX9_wrong : ByteArray := prog_11_method_3_code
def yX9_wrong : MethodName := ⟨RX9, "wrong", "(II)Z"⟩
abbrev cX9_skipBlanks : ByteArray := prog_11_method_4_code
def yX9_skipBlanks : MethodName := ⟨RX9, "skipBlanks", "()V"⟩
abbrev cX9_sign : ByteArray := prog_11_method_5_code
def yX9_sign : MethodName := ⟨RX9, "sign", "()I"⟩
abbrev cX9_isAtEnd : ByteArray := prog_11_method_6_code
def yX9_isAtEnd : MethodName := ⟨RX9, "isAtEnd", "()Z"⟩
abbrev cX9_isAtDigit : ByteArray := prog_11_method_7_code
def yX9_isAtDigit : MethodName := ⟨RX9, "isAtDigit", "()Z"⟩
abbrev cX9_takeByte : ByteArray := prog_11_method_8_code
def yX9_takeByte : MethodName := ⟨RX9, "takeByte", "()V"⟩
abbrev cX9_takeSign : ByteArray := prog_11_method_9_code
def yX9_takeSign : MethodName := ⟨RX9, "takeSign", "()V"⟩
abbrev cX9_tookSign : ByteArray := prog_11_method_10_code
def yX9_tookSign : MethodName := ⟨RX9, "tookSign", "(C)Z"⟩
abbrev cX9_readNumber : ByteArray := prog_11_method_11_code
def yX9_readNumber : MethodName := ⟨RX9, "readNumber", "(II)Z"⟩
abbrev cX9_wordEnd : ByteArray := prog_11_method_12_code
def yX9_wordEnd : MethodName := ⟨RX9, "wordEnd", "()I"⟩
abbrev cX9_wordAmong : ByteArray := prog_11_method_13_code
def yX9_wordAmong : MethodName := ⟨RX9, "wordAmong", "(Ljava/lang/String;)I"⟩
abbrev cX9_takeWord : ByteArray := prog_11_method_14_code
def yX9_takeWord : MethodName := ⟨RX9, "takeWord", "()V"⟩
abbrev cX9_tookWord : ByteArray := prog_11_method_15_code
def yX9_tookWord : MethodName := ⟨RX9, "tookWord", "(Ljava/lang/String;)Z"⟩
def RX10 : String := "BookBarge$World"
def TX10 : u_T := fun k => match k with
  | _ => ("BookBarge$World", "cells", "[I", true)
def tyX10 : Nat → FieldType := fun k => match k with
  | _ => .array .int
abbrev wsX100 : List Cond := u_ws RX10 TX10 1
theorem nmX10 : ∀ a, a < 1 → ∀ b, b < 1 → a ≠ b → (TX10 a).2.1 ≠ (TX10 b).2.1 := by decide +kernel
theorem tyX10_ok : ∀ k, k < 1 → parseFieldDescriptor (TX10 k).2.2.1 = some (tyX10 k) := by decide +kernel
abbrev cX10_init : ByteArray := prog_12_method_1_code
def yX10_init : MethodName := ⟨RX10, "<init>", "()V"⟩
abbrev cX10_copy : ByteArray := prog_12_method_2_code
def yX10_copy : MethodName := ⟨RX10, "copy", "(LBookBarge$World;)V"⟩
abbrev cX10_cell : ByteArray := prog_12_method_3_code
def yX10_cell : MethodName := ⟨RX10, "cell", "(II)I"⟩
abbrev cX10_hasBarge : ByteArray := prog_12_method_4_code
def yX10_hasBarge : MethodName := ⟨RX10, "hasBarge", "(I)Z"⟩
abbrev cX10_hasBook : ByteArray := prog_12_method_5_code
def yX10_hasBook : MethodName := ⟨RX10, "hasBook", "(I)Z"⟩
abbrev cX10_hasStop : ByteArray := prog_12_method_6_code
def yX10_hasStop : MethodName := ⟨RX10, "hasStop", "(I)Z"⟩
abbrev cX10_hasReader : ByteArray := prog_12_method_7_code
def yX10_hasReader : MethodName := ⟨RX10, "hasReader", "(I)Z"⟩
abbrev cX10_hasHole : ByteArray := prog_12_method_8_code
def yX10_hasHole : MethodName := ⟨RX10, "hasHole", "(I)Z"⟩
abbrev cX10_hasShelf : ByteArray := prog_12_method_9_code
def yX10_hasShelf : MethodName := ⟨RX10, "hasShelf", "(II)Z"⟩
abbrev cX10_isFrom : ByteArray := prog_12_method_10_code
def yX10_isFrom : MethodName := ⟨RX10, "isFrom", "(II)Z"⟩
abbrev cX10_bargesMeet : ByteArray := prog_12_method_11_code
def yX10_bargesMeet : MethodName := ⟨RX10, "bargesMeet", "()Z"⟩
abbrev cX10_depthOf : ByteArray := prog_12_method_12_code
def yX10_depthOf : MethodName := ⟨RX10, "depthOf", "(I)I"⟩
abbrev cX10_coins : ByteArray := prog_12_method_13_code
def yX10_coins : MethodName := ⟨RX10, "coins", "(II)I"⟩
abbrev cX10_heavy : ByteArray := prog_12_method_14_code
def yX10_heavy : MethodName := ⟨RX10, "heavy", "(I)I"⟩
abbrev cX10_arm : ByteArray := prog_12_method_15_code
def yX10_arm : MethodName := ⟨RX10, "arm", "(II)I"⟩
abbrev cX10_shelfOf : ByteArray := prog_12_method_16_code
def yX10_shelfOf : MethodName := ⟨RX10, "shelfOf", "(II)I"⟩
abbrev cX10_loadOf : ByteArray := prog_12_method_17_code
def yX10_loadOf : MethodName := ⟨RX10, "loadOf", "(I)I"⟩
abbrev cX10_tiltOf : ByteArray := prog_12_method_18_code
def yX10_tiltOf : MethodName := ⟨RX10, "tiltOf", "(I)I"⟩
abbrev cX10_draughtBy : ByteArray := prog_12_method_19_code
def yX10_draughtBy : MethodName := ⟨RX10, "draughtBy", "(IIII)I"⟩
abbrev cX10_draughtOf : ByteArray := prog_12_method_20_code
def yX10_draughtOf : MethodName := ⟨RX10, "draughtOf", "(I)I"⟩
abbrev cX10_passes : ByteArray := prog_12_method_21_code
def yX10_passes : MethodName := ⟨RX10, "passes", "(II)Z"⟩
abbrev cX10_bargeOf : ByteArray := prog_12_method_22_code
def yX10_bargeOf : MethodName := ⟨RX10, "bargeOf", "(I)I"⟩
abbrev cX10_booksAt : ByteArray := prog_12_method_23_code
def yX10_booksAt : MethodName := ⟨RX10, "booksAt", "(I)I"⟩
abbrev cX10_readersAt : ByteArray := prog_12_method_24_code
def yX10_readersAt : MethodName := ⟨RX10, "readersAt", "(I)I"⟩
abbrev cX10_booksBetween : ByteArray := prog_12_method_25_code
def yX10_booksBetween : MethodName := ⟨RX10, "booksBetween", "(II)I"⟩
abbrev cX10_waitsFor : ByteArray := prog_12_method_26_code
def yX10_waitsFor : MethodName := ⟨RX10, "waitsFor", "(II)Z"⟩
abbrev cX10_keenestReader : ByteArray := prog_12_method_27_code
def yX10_keenestReader : MethodName := ⟨RX10, "keenestReader", "(II)I"⟩
abbrev cX10_canFetch : ByteArray := prog_12_method_28_code
def yX10_canFetch : MethodName := ⟨RX10, "canFetch", "(II)Z"⟩
abbrev cX10_isOpen : ByteArray := prog_12_method_29_code
def yX10_isOpen : MethodName := ⟨RX10, "isOpen", "(I)Z"⟩
abbrev cX10_fits : ByteArray := prog_12_method_30_code
def yX10_fits : MethodName := ⟨RX10, "fits", "(II)Z"⟩
abbrev cX10_putAshore : ByteArray := prog_12_method_31_code
def yX10_putAshore : MethodName := ⟨RX10, "putAshore", "(II)V"⟩
abbrev cX10_giveTo : ByteArray := prog_12_method_32_code
def yX10_giveTo : MethodName := ⟨RX10, "giveTo", "(III)V"⟩
abbrev cX10_takeIn : ByteArray := prog_12_method_33_code
def yX10_takeIn : MethodName := ⟨RX10, "takeIn", "(III)V"⟩
abbrev cX10_putAboard : ByteArray := prog_12_method_34_code
def yX10_putAboard : MethodName := ⟨RX10, "putAboard", "(III)V"⟩
abbrev cX10_passNight : ByteArray := prog_12_method_35_code
def yX10_passNight : MethodName := ⟨RX10, "passNight", "()V"⟩
abbrev cX10_canBeWetter : ByteArray := prog_12_method_36_code
def yX10_canBeWetter : MethodName := ⟨RX10, "canBeWetter", "(I)Z"⟩
abbrev cX10_canRain : ByteArray := prog_12_method_37_code
def yX10_canRain : MethodName := ⟨RX10, "canRain", "()Z"⟩
abbrev cX10_wetAboard : ByteArray := prog_12_method_38_code
def yX10_wetAboard : MethodName := ⟨RX10, "wetAboard", "()I"⟩
abbrev cX10_roomOn : ByteArray := prog_12_method_39_code
def yX10_roomOn : MethodName := ⟨RX10, "roomOn", "(III)I"⟩
def RX11 : String := "BookBarge"
def TX11 : u_T := fun k => match k with
  | 0 => ("BookBarge", "tape", "[I", true)
  | 1 => ("BookBarge", "tapeLength", "I", false)
  | 2 => ("BookBarge", "world", "LBookBarge$World;", true)
  | 3 => ("BookBarge", "images", "[LBookBarge$World;", true)
  | 4 => ("BookBarge", "rules", "[LBookBarge$Rule;", true)
  | 5 => ("BookBarge", "ruleCount", "I", false)
  | 6 => ("BookBarge", "past", "[I", true)
  | 7 => ("BookBarge", "pastNext", "I", false)
  | 8 => ("BookBarge", "pastCount", "I", false)
  | 9 => ("BookBarge", "riverParser", "LBookBarge$RiverParser;", true)
  | 10 => ("BookBarge", "ruleParser", "LBookBarge$RuleParser;", true)
  | 11 => ("BookBarge", "journey", "LBookBarge$Journey;", true)
  | 12 => ("BookBarge", "leaving", "LBookBarge$Leaving;", true)
  | 13 => ("BookBarge", "lender", "LBookBarge$Lending;", true)
  | 14 => ("BookBarge", "meeter", "LBookBarge$Meeting;", true)
  | 15 => ("BookBarge", "cargo", "LBookBarge$Cargo;", true)
  | _ => ("BookBarge", "plugging", "LBookBarge$Plugging;", true)
def tyX11 : Nat → FieldType := fun k => match k with
  | 0 => .array .int
  | 1 => .int
  | 2 => .object "BookBarge$World"
  | 3 => .array (.object "BookBarge$World")
  | 4 => .array (.object "BookBarge$Rule")
  | 5 => .int
  | 6 => .array .int
  | 7 => .int
  | 8 => .int
  | 9 => .object "BookBarge$RiverParser"
  | 10 => .object "BookBarge$RuleParser"
  | 11 => .object "BookBarge$Journey"
  | 12 => .object "BookBarge$Leaving"
  | 13 => .object "BookBarge$Lending"
  | 14 => .object "BookBarge$Meeting"
  | 15 => .object "BookBarge$Cargo"
  | _ => .object "BookBarge$Plugging"
abbrev wsX110 : List Cond := u_ws RX11 TX11 17
theorem nmX11 : ∀ a, a < 17 → ∀ b, b < 17 → a ≠ b → (TX11 a).2.1 ≠ (TX11 b).2.1 := by decide +kernel
theorem tyX11_ok : ∀ k, k < 17 → parseFieldDescriptor (TX11 k).2.2.1 = some (tyX11 k) := by decide +kernel
abbrev cX11_init : ByteArray := prog_1_method_1_code
def yX11_init : MethodName := ⟨RX11, "<init>", "()V"⟩
abbrev cX11_feed : ByteArray := prog_1_method_2_code
def yX11_feed : MethodName := ⟨RX11, "feed", "(IIIII)I"⟩
abbrev cX11_appendFour : ByteArray := prog_1_method_3_code
def yX11_appendFour : MethodName := ⟨RX11, "appendFour", "(I)V"⟩
abbrev cX11_end : ByteArray := prog_1_method_4_code
def yX11_end : MethodName := ⟨RX11, "end", "(I)I"⟩
abbrev cX11_river : ByteArray := prog_1_method_5_code
def yX11_river : MethodName := ⟨RX11, "river", "()I"⟩
abbrev cX11_rule : ByteArray := prog_1_method_6_code
def yX11_rule : MethodName := ⟨RX11, "rule", "()I"⟩
abbrev cX11_book : ByteArray := prog_1_method_7_code
def yX11_book : MethodName := ⟨RX11, "book", "(II)I"⟩
abbrev cX11_stop : ByteArray := prog_1_method_8_code
def yX11_stop : MethodName := ⟨RX11, "stop", "(II)I"⟩
abbrev cX11_passing : ByteArray := prog_1_method_9_code
def yX11_passing : MethodName := ⟨RX11, "passing", "(II)I"⟩
abbrev cX11_reader : ByteArray := prog_1_method_10_code
def yX11_reader : MethodName := ⟨RX11, "reader", "(II)I"⟩
abbrev cX11_wish : ByteArray := prog_1_method_11_code
def yX11_wish : MethodName := ⟨RX11, "wish", "(II)I"⟩
abbrev cX11_lies : ByteArray := prog_1_method_12_code
def yX11_lies : MethodName := ⟨RX11, "lies", "(II)I"⟩
abbrev cX11_leave : ByteArray := prog_1_method_13_code
def yX11_leave : MethodName := ⟨RX11, "leave", "(I)I"⟩
abbrev cX11_lend : ByteArray := prog_1_method_14_code
def yX11_lend : MethodName := ⟨RX11, "lend", "(II)I"⟩
abbrev cX11_fetch : ByteArray := prog_1_method_15_code
def yX11_fetch : MethodName := ⟨RX11, "fetch", "(III)I"⟩
abbrev cX11_shift : ByteArray := prog_1_method_16_code
def yX11_shift : MethodName := ⟨RX11, "shift", "(II)I"⟩
abbrev cX11_hand : ByteArray := prog_1_method_17_code
def yX11_hand : MethodName := ⟨RX11, "hand", "(II)I"⟩
abbrev cX11_sail : ByteArray := prog_1_method_18_code
def yX11_sail : MethodName := ⟨RX11, "sail", "(IZ)I"⟩
abbrev cX11_night : ByteArray := prog_1_method_19_code
def yX11_night : MethodName := ⟨RX11, "night", "()I"⟩
abbrev cX11_rain : ByteArray := prog_1_method_20_code
def yX11_rain : MethodName := ⟨RX11, "rain", "()I"⟩
abbrev cX11_pump : ByteArray := prog_1_method_21_code
def yX11_pump : MethodName := ⟨RX11, "pump", "(I)I"⟩
abbrev cX11_plug : ByteArray := prog_1_method_22_code
def yX11_plug : MethodName := ⟨RX11, "plug", "(II)I"⟩
abbrev cX11_hole : ByteArray := prog_1_method_23_code
def yX11_hole : MethodName := ⟨RX11, "hole", "(II)I"⟩
abbrev cX11_undo : ByteArray := prog_1_method_24_code
def yX11_undo : MethodName := ⟨RX11, "undo", "()I"⟩
abbrev cX11_remember : ByteArray := prog_1_method_25_code
def yX11_remember : MethodName := ⟨RX11, "remember", "()V"⟩
abbrev cX11_forgetActs : ByteArray := prog_1_method_26_code
def yX11_forgetActs : MethodName := ⟨RX11, "forgetActs", "()V"⟩
abbrev cX11_hasRule : ByteArray := prog_1_method_27_code
def yX11_hasRule : MethodName := ⟨RX11, "hasRule", "(I)Z"⟩
abbrev cX11_run : ByteArray := prog_1_method_28_code
def yX11_run : MethodName := ⟨RX11, "run", "(III)I"⟩
abbrev cX11_left : ByteArray := prog_1_method_29_code
def yX11_left : MethodName := ⟨RX11, "left", "(III)I"⟩
abbrev cX11_lending : ByteArray := prog_1_method_30_code
def yX11_lending : MethodName := ⟨RX11, "lending", "(III)I"⟩
abbrev cX11_dear : ByteArray := prog_1_method_31_code
def yX11_dear : MethodName := ⟨RX11, "dear", "(III)I"⟩
abbrev cX11_room : ByteArray := prog_1_method_32_code
def yX11_room : MethodName := ⟨RX11, "room", "(II)I"⟩
abbrev cX11_meeting : ByteArray := prog_1_method_33_code
def yX11_meeting : MethodName := ⟨RX11, "meeting", "()I"⟩
abbrev cX11_aboard : ByteArray := prog_1_method_34_code
def yX11_aboard : MethodName := ⟨RX11, "aboard", "(IIII)I"⟩
abbrev cX11_plugs : ByteArray := prog_1_method_35_code
def yX11_plugs : MethodName := ⟨RX11, "plugs", "(II)I"⟩
abbrev cX11_seed : ByteArray := prog_1_method_36_code
def yX11_seed : MethodName := ⟨RX11, "seed", "(I)I"⟩
abbrev cX11_voyages : ByteArray := prog_1_method_37_code
def yX11_voyages : MethodName := ⟨RX11, "voyages", "(IIIIII)I"⟩
abbrev cX11_count : ByteArray := prog_1_method_38_code
def yX11_count : MethodName := ⟨RX11, "count", "(I)I"⟩
abbrev cX11_image : ByteArray := prog_1_method_39_code
def yX11_image : MethodName := ⟨RX11, "image", "(I)I"⟩
abbrev cX11_back : ByteArray := prog_1_method_40_code
def yX11_back : MethodName := ⟨RX11, "back", "(I)I"⟩
def RX12 : String := "BookBargeModel"
def TX12 : u_T := fun k => match k with
  | 0 => ("BookBargeModel", "tape", "[B", true)
  | 1 => ("BookBargeModel", "taped", "I", false)
  | 2 => ("BookBargeModel", "rules", "I", false)
  | 3 => ("BookBargeModel", "sign", "[I", true)
  | 4 => ("BookBargeModel", "length", "[I", true)
  | 5 => ("BookBargeModel", "clause", "[I", true)
  | 6 => ("BookBargeModel", "clauses", "[I", true)
  | 7 => ("BookBargeModel", "read", "[I", true)
  | 8 => ("BookBargeModel", "isBargeLine", "Z", false)
  | 9 => ("BookBargeModel", "next", "I", false)
  | 10 => ("BookBargeModel", "wrong", "I", false)
  | 11 => ("BookBargeModel", "number", "I", false)
  | 12 => ("BookBargeModel", "text", "I", false)
  | 13 => ("BookBargeModel", "made", "I", false)
  | 14 => ("BookBargeModel", "deep", "I", false)
  | 15 => ("BookBargeModel", "lines", "I", false)
  | 16 => ("BookBargeModel", "open", "[I", true)
  | 17 => ("BookBargeModel", "opened", "I", false)
  | 18 => ("BookBargeModel", "stack", "[J", true)
  | 19 => ("BookBargeModel", "top", "I", false)
  | 20 => ("BookBargeModel", "word", "[J", true)
  | 21 => ("BookBargeModel", "said", "[I", true)
  | 22 => ("BookBargeModel", "x", "I", false)
  | 23 => ("BookBargeModel", "inches", "I", false)
  | 24 => ("BookBargeModel", "wasSaid", "[I", true)
  | 25 => ("BookBargeModel", "undone", "I", false)
  | 26 => ("BookBargeModel", "lentNow", "I", false)
  | 27 => ("BookBargeModel", "leftNow", "I", false)
  | 28 => ("BookBargeModel", "lentTo", "[I", true)
  | 29 => ("BookBargeModel", "bestLent", "[I", true)
  | 30 => ("BookBargeModel", "bestCoins", "I", false)
  | 31 => ("BookBargeModel", "openHole", "[I", true)
  | 32 => ("BookBargeModel", "plugBy", "[I", true)
  | 33 => ("BookBargeModel", "bestPlug", "[I", true)
  | 34 => ("BookBargeModel", "kept", "[I", true)
  | 35 => ("BookBargeModel", "drawX", "J", false)
  | 36 => ("BookBargeModel", "images", "[I", true)
  | 37 => ("BookBargeModel", "imageX", "[I", true)
  | _ => ("BookBargeModel", "isMade", "[Z", true)
def tyX12 : Nat → FieldType := fun k => match k with
  | 0 => .array .byte
  | 1 => .int
  | 2 => .int
  | 3 => .array .int
  | 4 => .array .int
  | 5 => .array .int
  | 6 => .array .int
  | 7 => .array .int
  | 8 => .boolean
  | 9 => .int
  | 10 => .int
  | 11 => .int
  | 12 => .int
  | 13 => .int
  | 14 => .int
  | 15 => .int
  | 16 => .array .int
  | 17 => .int
  | 18 => .array .long
  | 19 => .int
  | 20 => .array .long
  | 21 => .array .int
  | 22 => .int
  | 23 => .int
  | 24 => .array .int
  | 25 => .int
  | 26 => .int
  | 27 => .int
  | 28 => .array .int
  | 29 => .array .int
  | 30 => .int
  | 31 => .array .int
  | 32 => .array .int
  | 33 => .array .int
  | 34 => .array .int
  | 35 => .long
  | 36 => .array .int
  | 37 => .array .int
  | _ => .array .boolean
abbrev wsX120 : List Cond := u_ws RX12 TX12 39
theorem nmX12 : ∀ a, a < 39 → ∀ b, b < 39 → a ≠ b → (TX12 a).2.1 ≠ (TX12 b).2.1 := by decide +kernel
theorem tyX12_ok : ∀ k, k < 39 → parseFieldDescriptor (TX12 k).2.2.1 = some (tyX12 k) := by decide +kernel
abbrev cX12_init : ByteArray := prog_14_method_1_code
def yX12_init : MethodName := ⟨RX12, "<init>", "()V"⟩
abbrev cX12_in : ByteArray := prog_14_method_2_code
def yX12_in : MethodName := ⟨RX12, "in", "(JJJ)Z"⟩
abbrev cX12_isOf : ByteArray := prog_14_method_3_code
def yX12_isOf : MethodName := ⟨RX12, "isOf", "(II)Z"⟩
abbrev cX12_bits : ByteArray := prog_14_method_4_code
def yX12_bits : MethodName := ⟨RX12, "bits", "(I)I"⟩
abbrev cX12_four : ByteArray := prog_14_method_5_code
def yX12_four : MethodName := ⟨RX12, "four", "(I)V"⟩
abbrev cX12_feed : ByteArray := prog_14_method_6_code
def yX12_feed : MethodName := ⟨RX12, "feed", "(IIIII)I"⟩
abbrev cX12_end : ByteArray := prog_14_method_7_code
def yX12_end : MethodName := ⟨RX12, "end", "(I)I"⟩
abbrev cX12_fails : ByteArray := prog_14_method_8_code
def yX12_fails : MethodName := ⟨RX12, "fails", "(II)Z"⟩
abbrev cX12_see : ByteArray := prog_14_method_9_code
def yX12_see : MethodName := ⟨RX12, "see", "()I"⟩
abbrev cX12_isDigit : ByteArray := prog_14_method_10_code
def yX12_isDigit : MethodName := ⟨RX12, "isDigit", "(I)Z"⟩
abbrev cX12_isLetter : ByteArray := prog_14_method_11_code
def yX12_isLetter : MethodName := ⟨RX12, "isLetter", "(I)Z"⟩
abbrev cX12_isWord : ByteArray := prog_14_method_12_code
def yX12_isWord : MethodName := ⟨RX12, "isWord", "(J)Z"⟩
abbrev cX12_passWord : ByteArray := prog_14_method_13_code
def yX12_passWord : MethodName := ⟨RX12, "passWord", "()V"⟩
abbrev cX12_takesWord : ByteArray := prog_14_method_14_code
def yX12_takesWord : MethodName := ⟨RX12, "takesWord", "(J)Z"⟩
abbrev cX12_numberHere : ByteArray := prog_14_method_15_code
def yX12_numberHere : MethodName := ⟨RX12, "numberHere", "(II)Z"⟩
abbrev cX12_wordHere : ByteArray := prog_14_method_16_code
def yX12_wordHere : MethodName := ⟨RX12, "wordHere", "()I"⟩
abbrev cX12_puts : ByteArray := prog_14_method_17_code
def yX12_puts : MethodName := ⟨RX12, "puts", "(II)V"⟩
abbrev cX12_makes : ByteArray := prog_14_method_18_code
def yX12_makes : MethodName := ⟨RX12, "makes", "(I)Z"⟩
abbrev cX12_opens : ByteArray := prog_14_method_19_code
def yX12_opens : MethodName := ⟨RX12, "opens", "(I)Z"⟩
abbrev cX12_strength : ByteArray := prog_14_method_20_code
def yX12_strength : MethodName := ⟨RX12, "strength", "(I)I"⟩
abbrev cX12_settles : ByteArray := prog_14_method_21_code
def yX12_settles : MethodName := ⟨RX12, "settles", "(I)V"⟩
abbrev cX12_value : ByteArray := prog_14_method_22_code
def yX12_value : MethodName := ⟨RX12, "value", "()Z"⟩
abbrev cX12_term : ByteArray := prog_14_method_23_code
def yX12_term : MethodName := ⟨RX12, "term", "()Z"⟩
abbrev cX12_sum : ByteArray := prog_14_method_24_code
def yX12_sum : MethodName := ⟨RX12, "sum", "()Z"⟩
abbrev cX12_compare : ByteArray := prog_14_method_25_code
def yX12_compare : MethodName := ⟨RX12, "compare", "()Z"⟩
abbrev cX12_fact : ByteArray := prog_14_method_26_code
def yX12_fact : MethodName := ⟨RX12, "fact", "()Z"⟩
abbrev cX12_isInside : ByteArray := prog_14_method_27_code
def yX12_isInside : MethodName := ⟨RX12, "isInside", "()Z"⟩
abbrev cX12_closes : ByteArray := prog_14_method_28_code
def yX12_closes : MethodName := ⟨RX12, "closes", "()V"⟩
abbrev cX12_tested : ByteArray := prog_14_method_29_code
def yX12_tested : MethodName := ⟨RX12, "tested", "()Z"⟩
abbrev cX12_isTestHere : ByteArray := prog_14_method_30_code
def yX12_isTestHere : MethodName := ⟨RX12, "isTestHere", "(I)Z"⟩
abbrev cX12_isDoingHere : ByteArray := prog_14_method_31_code
def yX12_isDoingHere : MethodName := ⟨RX12, "isDoingHere", "(I)Z"⟩
abbrev cX12_cellHere : ByteArray := prog_14_method_32_code
def yX12_cellHere : MethodName := ⟨RX12, "cellHere", "(III)Z"⟩
abbrev cX12_isBargeHere : ByteArray := prog_14_method_33_code
def yX12_isBargeHere : MethodName := ⟨RX12, "isBargeHere", "(I)Z"⟩
abbrev cX12_isBookHere : ByteArray := prog_14_method_34_code
def yX12_isBookHere : MethodName := ⟨RX12, "isBookHere", "(I)Z"⟩
abbrev cX12_isDigitNext : ByteArray := prog_14_method_35_code
def yX12_isDigitNext : MethodName := ⟨RX12, "isDigitNext", "()Z"⟩
abbrev cX12_isStopHere : ByteArray := prog_14_method_36_code
def yX12_isStopHere : MethodName := ⟨RX12, "isStopHere", "(I)Z"⟩
abbrev cX12_isReaderHere : ByteArray := prog_14_method_37_code
def yX12_isReaderHere : MethodName := ⟨RX12, "isReaderHere", "(I)Z"⟩
abbrev cX12_isWishHere : ByteArray := prog_14_method_38_code
def yX12_isWishHere : MethodName := ⟨RX12, "isWishHere", "()Z"⟩
abbrev cX12_isHoleHere : ByteArray := prog_14_method_39_code
def yX12_isHoleHere : MethodName := ⟨RX12, "isHoleHere", "(I)Z"⟩
abbrev cX12_riverLineHere : ByteArray := prog_14_method_40_code
def yX12_riverLineHere : MethodName := ⟨RX12, "riverLineHere", "(I)Z"⟩
abbrev cX12_isRiverWord : ByteArray := prog_14_method_41_code
def yX12_isRiverWord : MethodName := ⟨RX12, "isRiverWord", "()Z"⟩
abbrev cX12_doingSort : ByteArray := prog_14_method_42_code
def yX12_doingSort : MethodName := ⟨RX12, "doingSort", "()I"⟩
abbrev cX12_clauseHere : ByteArray := prog_14_method_43_code
def yX12_clauseHere : MethodName := ⟨RX12, "clauseHere", "()Z"⟩
abbrev cX12_readsAll : ByteArray := prog_14_method_44_code
def yX12_readsAll : MethodName := ⟨RX12, "readsAll", "()Z"⟩
abbrev cX12_rule : ByteArray := prog_14_method_45_code
def yX12_rule : MethodName := ⟨RX12, "rule", "()I"⟩
abbrev cX12_river : ByteArray := prog_14_method_46_code
def yX12_river : MethodName := ⟨RX12, "river", "()I"⟩
abbrev cX12_isRule : ByteArray := prog_14_method_47_code
def yX12_isRule : MethodName := ⟨RX12, "isRule", "(I)Z"⟩
abbrev cX12_push : ByteArray := prog_14_method_48_code
def yX12_push : MethodName := ⟨RX12, "push", "(J)V"⟩
abbrev cX12_pop : ByteArray := prog_14_method_49_code
def yX12_pop : MethodName := ⟨RX12, "pop", "()J"⟩
abbrev cX12_one : ByteArray := prog_14_method_50_code
def yX12_one : MethodName := ⟨RX12, "one", "(IJJ)J"⟩
abbrev cX12_reckons : ByteArray := prog_14_method_51_code
def yX12_reckons : MethodName := ⟨RX12, "reckons", "(III)J"⟩
abbrev cX12_isBarge : ByteArray := prog_14_method_52_code
def yX12_isBarge : MethodName := ⟨RX12, "isBarge", "(I)Z"⟩
abbrev cX12_isBook : ByteArray := prog_14_method_53_code
def yX12_isBook : MethodName := ⟨RX12, "isBook", "(I)Z"⟩
abbrev cX12_isStop : ByteArray := prog_14_method_54_code
def yX12_isStop : MethodName := ⟨RX12, "isStop", "(I)Z"⟩
abbrev cX12_isReader : ByteArray := prog_14_method_55_code
def yX12_isReader : MethodName := ⟨RX12, "isReader", "(I)Z"⟩
abbrev cX12_isHole : ByteArray := prog_14_method_56_code
def yX12_isHole : MethodName := ⟨RX12, "isHole", "(I)Z"⟩
abbrev cX12_bargeOf : ByteArray := prog_14_method_57_code
def yX12_bargeOf : MethodName := ⟨RX12, "bargeOf", "(II)I"⟩
abbrev cX12_bookOf : ByteArray := prog_14_method_58_code
def yX12_bookOf : MethodName := ⟨RX12, "bookOf", "(II)I"⟩
abbrev cX12_readerOf : ByteArray := prog_14_method_59_code
def yX12_readerOf : MethodName := ⟨RX12, "readerOf", "(II)I"⟩
abbrev cX12_wishOf : ByteArray := prog_14_method_60_code
def yX12_wishOf : MethodName := ⟨RX12, "wishOf", "(II)I"⟩
abbrev cX12_holeOf : ByteArray := prog_14_method_61_code
def yX12_holeOf : MethodName := ⟨RX12, "holeOf", "(II)I"⟩
abbrev cX12_stopOf : ByteArray := prog_14_method_62_code
def yX12_stopOf : MethodName := ⟨RX12, "stopOf", "(I)I"⟩
abbrev cX12_isAboard : ByteArray := prog_14_method_63_code
def yX12_isAboard : MethodName := ⟨RX12, "isAboard", "(II)Z"⟩
abbrev cX12_bargeWith : ByteArray := prog_14_method_64_code
def yX12_bargeWith : MethodName := ⟨RX12, "bargeWith", "(I)I"⟩
abbrev cX12_aboardOf : ByteArray := prog_14_method_65_code
def yX12_aboardOf : MethodName := ⟨RX12, "aboardOf", "(I)I"⟩
abbrev cX12_depthOf : ByteArray := prog_14_method_66_code
def yX12_depthOf : MethodName := ⟨RX12, "depthOf", "(I)I"⟩
abbrev cX12_shelfIn : ByteArray := prog_14_method_67_code
def yX12_shelfIn : MethodName := ⟨RX12, "shelfIn", "(II)I"⟩
abbrev cX12_arm : ByteArray := prog_14_method_68_code
def yX12_arm : MethodName := ⟨RX12, "arm", "(II)I"⟩
abbrev cX12_heavy : ByteArray := prog_14_method_69_code
def yX12_heavy : MethodName := ⟨RX12, "heavy", "(I)I"⟩
abbrev cX12_loadBy : ByteArray := prog_14_method_70_code
def yX12_loadBy : MethodName := ⟨RX12, "loadBy", "(II)I"⟩
abbrev cX12_tiltBy : ByteArray := prog_14_method_71_code
def yX12_tiltBy : MethodName := ⟨RX12, "tiltBy", "(II)I"⟩
abbrev cX12_draughtOf : ByteArray := prog_14_method_72_code
def yX12_draughtOf : MethodName := ⟨RX12, "draughtOf", "(III)I"⟩
abbrev cX12_draughtBy : ByteArray := prog_14_method_73_code
def yX12_draughtBy : MethodName := ⟨RX12, "draughtBy", "(II)I"⟩
abbrev cX12_draughtNow : ByteArray := prog_14_method_74_code
def yX12_draughtNow : MethodName := ⟨RX12, "draughtNow", "(I)I"⟩
abbrev cX12_passesBy : ByteArray := prog_14_method_75_code
def yX12_passesBy : MethodName := ⟨RX12, "passesBy", "(III)Z"⟩
abbrev cX12_passesNow : ByteArray := prog_14_method_76_code
def yX12_passesNow : MethodName := ⟨RX12, "passesNow", "(II)Z"⟩
abbrev cX12_book : ByteArray := prog_14_method_77_code
def yX12_book : MethodName := ⟨RX12, "book", "(II)I"⟩
abbrev cX12_leftAt : ByteArray := prog_14_method_78_code
def yX12_leftAt : MethodName := ⟨RX12, "leftAt", "(I)I"⟩
abbrev cX12_stop : ByteArray := prog_14_method_79_code
def yX12_stop : MethodName := ⟨RX12, "stop", "(II)I"⟩
abbrev cX12_reader : ByteArray := prog_14_method_80_code
def yX12_reader : MethodName := ⟨RX12, "reader", "(II)I"⟩
abbrev cX12_wish : ByteArray := prog_14_method_81_code
def yX12_wish : MethodName := ⟨RX12, "wish", "(II)I"⟩
abbrev cX12_hole : ByteArray := prog_14_method_82_code
def yX12_hole : MethodName := ⟨RX12, "hole", "(II)I"⟩
abbrev cX12_lies : ByteArray := prog_14_method_83_code
def yX12_lies : MethodName := ⟨RX12, "lies", "(II)I"⟩
abbrev cX12_keepsAct : ByteArray := prog_14_method_84_code
def yX12_keepsAct : MethodName := ⟨RX12, "keepsAct", "()V"⟩
abbrev cX12_undo : ByteArray := prog_14_method_85_code
def yX12_undo : MethodName := ⟨RX12, "undo", "()I"⟩
abbrev cX12_stands : ByteArray := prog_14_method_86_code
def yX12_stands : MethodName := ⟨RX12, "stands", "(II)V"⟩
abbrev cX12_leave : ByteArray := prog_14_method_87_code
def yX12_leave : MethodName := ⟨RX12, "leave", "(I)I"⟩
abbrev cX12_canLend : ByteArray := prog_14_method_88_code
def yX12_canLend : MethodName := ⟨RX12, "canLend", "(II)Z"⟩
abbrev cX12_lends : ByteArray := prog_14_method_89_code
def yX12_lends : MethodName := ⟨RX12, "lends", "(II)V"⟩
abbrev cX12_lend : ByteArray := prog_14_method_90_code
def yX12_lend : MethodName := ⟨RX12, "lend", "(II)I"⟩
abbrev cX12_canFetch : ByteArray := prog_14_method_91_code
def yX12_canFetch : MethodName := ⟨RX12, "canFetch", "(II)Z"⟩
abbrev cX12_fetches : ByteArray := prog_14_method_92_code
def yX12_fetches : MethodName := ⟨RX12, "fetches", "(III)V"⟩
abbrev cX12_isShelf : ByteArray := prog_14_method_93_code
def yX12_isShelf : MethodName := ⟨RX12, "isShelf", "(II)Z"⟩
abbrev cX12_fetch : ByteArray := prog_14_method_94_code
def yX12_fetch : MethodName := ⟨RX12, "fetch", "(III)I"⟩
abbrev cX12_shift : ByteArray := prog_14_method_95_code
def yX12_shift : MethodName := ⟨RX12, "shift", "(II)I"⟩
abbrev cX12_hand : ByteArray := prog_14_method_96_code
def yX12_hand : MethodName := ⟨RX12, "hand", "(II)I"⟩
abbrev cX12_sail : ByteArray := prog_14_method_97_code
def yX12_sail : MethodName := ⟨RX12, "sail", "(IZ)I"⟩
abbrev cX12_nights : ByteArray := prog_14_method_98_code
def yX12_nights : MethodName := ⟨RX12, "nights", "()V"⟩
abbrev cX12_night : ByteArray := prog_14_method_99_code
def yX12_night : MethodName := ⟨RX12, "night", "()I"⟩
abbrev cX12_dry : ByteArray := prog_14_method_100_code
def yX12_dry : MethodName := ⟨RX12, "dry", "()I"⟩
abbrev cX12_rains : ByteArray := prog_14_method_101_code
def yX12_rains : MethodName := ⟨RX12, "rains", "()V"⟩
abbrev cX12_rain : ByteArray := prog_14_method_102_code
def yX12_rain : MethodName := ⟨RX12, "rain", "()I"⟩
abbrev cX12_pump : ByteArray := prog_14_method_103_code
def yX12_pump : MethodName := ⟨RX12, "pump", "(I)I"⟩
abbrev cX12_couldPlug : ByteArray := prog_14_method_104_code
def yX12_couldPlug : MethodName := ⟨RX12, "couldPlug", "(II)Z"⟩
abbrev cX12_plug : ByteArray := prog_14_method_105_code
def yX12_plug : MethodName := ⟨RX12, "plug", "(II)I"⟩
abbrev cX12_bestReader : ByteArray := prog_14_method_106_code
def yX12_bestReader : MethodName := ⟨RX12, "bestReader", "(II)I"⟩
abbrev cX12_words : ByteArray := prog_14_method_107_code
def yX12_words : MethodName := ⟨RX12, "words", "(II)V"⟩
abbrev cX12_holds : ByteArray := prog_14_method_108_code
def yX12_holds : MethodName := ⟨RX12, "holds", "(II)Z"⟩
abbrev cX12_clauseFor : ByteArray := prog_14_method_109_code
def yX12_clauseFor : MethodName := ⟨RX12, "clauseFor", "(IIII)I"⟩
abbrev cX12_nextFor : ByteArray := prog_14_method_110_code
def yX12_nextFor : MethodName := ⟨RX12, "nextFor", "(II)I"⟩
abbrev cX12_lightens : ByteArray := prog_14_method_111_code
def yX12_lightens : MethodName := ⟨RX12, "lightens", "(III)Z"⟩
abbrev cX12_goesOn : ByteArray := prog_14_method_112_code
def yX12_goesOn : MethodName := ⟨RX12, "goesOn", "(II)Z"⟩
abbrev cX12_run : ByteArray := prog_14_method_113_code
def yX12_run : MethodName := ⟨RX12, "run", "(III)I"⟩
abbrev cX12_worthOf : ByteArray := prog_14_method_114_code
def yX12_worthOf : MethodName := ⟨RX12, "worthOf", "(I)I"⟩
abbrev cX12_leastDepth : ByteArray := prog_14_method_115_code
def yX12_leastDepth : MethodName := ⟨RX12, "leastDepth", "(II)I"⟩
abbrev cX12_left : ByteArray := prog_14_method_116_code
def yX12_left : MethodName := ⟨RX12, "left", "(III)I"⟩
abbrev cX12_canAsk : ByteArray := prog_14_method_117_code
def yX12_canAsk : MethodName := ⟨RX12, "canAsk", "(IIII)Z"⟩
abbrev cX12_nextBook : ByteArray := prog_14_method_118_code
def yX12_nextBook : MethodName := ⟨RX12, "nextBook", "(III)I"⟩
abbrev cX12_nextRow : ByteArray := prog_14_method_119_code
def yX12_nextRow : MethodName := ⟨RX12, "nextRow", "(III)Z"⟩
abbrev cX12_coinsOf : ByteArray := prog_14_method_120_code
def yX12_coinsOf : MethodName := ⟨RX12, "coinsOf", "(II)I"⟩
abbrev cX12_tellsThrough : ByteArray := prog_14_method_121_code
def yX12_tellsThrough : MethodName := ⟨RX12, "tellsThrough", "(III)V"⟩
abbrev cX12_mostCoins : ByteArray := prog_14_method_122_code
def yX12_mostCoins : MethodName := ⟨RX12, "mostCoins", "(III)I"⟩
abbrev cX12_isAhead : ByteArray := prog_14_method_123_code
def yX12_isAhead : MethodName := ⟨RX12, "isAhead", "(II)Z"⟩
abbrev cX12_lending : ByteArray := prog_14_method_124_code
def yX12_lending : MethodName := ⟨RX12, "lending", "(III)I"⟩
abbrev cX12_dear : ByteArray := prog_14_method_125_code
def yX12_dear : MethodName := ⟨RX12, "dear", "(III)I"⟩
abbrev cX12_room : ByteArray := prog_14_method_126_code
def yX12_room : MethodName := ⟨RX12, "room", "(II)I"⟩
abbrev cX12_meeting : ByteArray := prog_14_method_127_code
def yX12_meeting : MethodName := ⟨RX12, "meeting", "()I"⟩
abbrev cX12_aboard : ByteArray := prog_14_method_128_code
def yX12_aboard : MethodName := ⟨RX12, "aboard", "(IIII)I"⟩
abbrev cX12_isPlugRow : ByteArray := prog_14_method_129_code
def yX12_isPlugRow : MethodName := ⟨RX12, "isPlugRow", "(I)Z"⟩
abbrev cX12_plugWorth : ByteArray := prog_14_method_130_code
def yX12_plugWorth : MethodName := ⟨RX12, "plugWorth", "(I)I"⟩
abbrev cX12_nextPlugRow : ByteArray := prog_14_method_131_code
def yX12_nextPlugRow : MethodName := ⟨RX12, "nextPlugRow", "(I)Z"⟩
abbrev cX12_plugs : ByteArray := prog_14_method_132_code
def yX12_plugs : MethodName := ⟨RX12, "plugs", "(II)I"⟩
abbrev cX12_seed : ByteArray := prog_14_method_133_code
def yX12_seed : MethodName := ⟨RX12, "seed", "(I)I"⟩
abbrev cX12_keeps : ByteArray := prog_14_method_134_code
def yX12_keeps : MethodName := ⟨RX12, "keeps", "()V"⟩
abbrev cX12_putsBack : ByteArray := prog_14_method_135_code
def yX12_putsBack : MethodName := ⟨RX12, "putsBack", "()V"⟩
abbrev cX12_draw : ByteArray := prog_14_method_136_code
def yX12_draw : MethodName := ⟨RX12, "draw", "(I)I"⟩
abbrev cX12_weathers : ByteArray := prog_14_method_137_code
def yX12_weathers : MethodName := ⟨RX12, "weathers", "(II)V"⟩
abbrev cX12_voyages : ByteArray := prog_14_method_138_code
def yX12_voyages : MethodName := ⟨RX12, "voyages", "(IIIIII)I"⟩
abbrev cX12_count : ByteArray := prog_14_method_139_code
def yX12_count : MethodName := ⟨RX12, "count", "(I)I"⟩
abbrev cX12_isSort : ByteArray := prog_14_method_140_code
def yX12_isSort : MethodName := ⟨RX12, "isSort", "(II)Z"⟩
abbrev cX12_image : ByteArray := prog_14_method_141_code
def yX12_image : MethodName := ⟨RX12, "image", "(I)I"⟩
abbrev cX12_back : ByteArray := prog_14_method_142_code
def yX12_back : MethodName := ⟨RX12, "back", "(I)I"⟩
def RJx145de : String := "java/io/Serializable"
def TJx145de : u_T := fun k => match k with
  | _ => ("", "", "", false)
def tyJx145de : Nat → FieldType := fun k => match k with
  | _ => .int
abbrev wsJx145de0 : List Cond := u_ws RJx145de TJx145de 0
theorem nmJx145de : ∀ a, a < 0 → ∀ b, b < 0 → a ≠ b → (TJx145de a).2.1 ≠ (TJx145de b).2.1 := by decide +kernel
theorem tyJx145de_ok : ∀ k, k < 0 → parseFieldDescriptor (TJx145de k).2.2.1 = some (tyJx145de k) := by decide +kernel
def RJx9f9b0 : String := "java/lang/CharSequence"
def TJx9f9b0 : u_T := fun k => match k with
  | _ => ("", "", "", false)
def tyJx9f9b0 : Nat → FieldType := fun k => match k with
  | _ => .int
abbrev wsJx9f9b00 : List Cond := u_ws RJx9f9b0 TJx9f9b0 0
theorem nmJx9f9b0 : ∀ a, a < 0 → ∀ b, b < 0 → a ≠ b → (TJx9f9b0 a).2.1 ≠ (TJx9f9b0 b).2.1 := by decide +kernel
theorem tyJx9f9b0_ok : ∀ k, k < 0 → parseFieldDescriptor (TJx9f9b0 k).2.2.1 = some (tyJx9f9b0 k) := by decide +kernel
def RJx8e188 : String := "java/lang/Cloneable"
def TJx8e188 : u_T := fun k => match k with
  | _ => ("", "", "", false)
def tyJx8e188 : Nat → FieldType := fun k => match k with
  | _ => .int
abbrev wsJx8e1880 : List Cond := u_ws RJx8e188 TJx8e188 0
theorem nmJx8e188 : ∀ a, a < 0 → ∀ b, b < 0 → a ≠ b → (TJx8e188 a).2.1 ≠ (TJx8e188 b).2.1 := by decide +kernel
theorem tyJx8e188_ok : ∀ k, k < 0 → parseFieldDescriptor (TJx8e188 k).2.2.1 = some (tyJx8e188 k) := by decide +kernel
def RJxb160c : String := "java/lang/Comparable"
def TJxb160c : u_T := fun k => match k with
  | _ => ("", "", "", false)
def tyJxb160c : Nat → FieldType := fun k => match k with
  | _ => .int
abbrev wsJxb160c0 : List Cond := u_ws RJxb160c TJxb160c 0
theorem nmJxb160c : ∀ a, a < 0 → ∀ b, b < 0 → a ≠ b → (TJxb160c a).2.1 ≠ (TJxb160c b).2.1 := by decide +kernel
theorem tyJxb160c_ok : ∀ k, k < 0 → parseFieldDescriptor (TJxb160c k).2.2.1 = some (tyJxb160c k) := by decide +kernel
def RJ9 : String := "java/lang/Math"
def TJ9 : u_T := fun k => match k with
  | _ => ("", "", "", false)
def tyJ9 : Nat → FieldType := fun k => match k with
  | _ => .int
abbrev wsJ90 : List Cond := u_ws RJ9 TJ9 0
theorem nmJ9 : ∀ a, a < 0 → ∀ b, b < 0 → a ≠ b → (TJ9 a).2.1 ≠ (TJ9 b).2.1 := by decide +kernel
theorem tyJ9_ok : ∀ k, k < 0 → parseFieldDescriptor (TJ9 k).2.2.1 = some (tyJ9 k) := by decide +kernel
abbrev cJ9_abs_0f7a4 : ByteArray := prog_16_method_59_code
def yJ9_abs_0f7a4 : MethodName := ⟨RJ9, "abs", "(I)I"⟩
abbrev cJ9_max_7cf53 : ByteArray := prog_16_method_65_code
def yJ9_max_7cf53 : MethodName := ⟨RJ9, "max", "(II)I"⟩
abbrev cJ9_min_7cf53 : ByteArray := prog_16_method_69_code
def yJ9_min_7cf53 : MethodName := ⟨RJ9, "min", "(II)I"⟩
def RJ0 : String := "java/lang/String"
def TJ0 : u_T := fun k => match k with
  | _ => ("", "", "", false)
def tyJ0 : Nat → FieldType := fun k => match k with
  | _ => .int
abbrev wsJ00 : List Cond := u_ws RJ0 TJ0 0
theorem nmJ0 : ∀ a, a < 0 → ∀ b, b < 0 → a ≠ b → (TJ0 a).2.1 ≠ (TJ0 b).2.1 := by decide +kernel
theorem tyJ0_ok : ∀ k, k < 0 → parseFieldDescriptor (TJ0 k).2.2.1 = some (tyJ0 k) := by decide +kernel
abbrev cJ0_length_8abf5 : ByteArray := prog_17_method_54_code
def yJ0_length_8abf5 : MethodName := ⟨RJ0, "length", "()I"⟩
abbrev cJ0_charAt_5068e : ByteArray := prog_17_method_56_code
def yJ0_charAt_5068e : MethodName := ⟨RJ0, "charAt", "(I)C"⟩
abbrev cJ0_coder_7d493 : ByteArray := prog_17_method_152_code
def yJ0_coder_7d493 : MethodName := ⟨RJ0, "coder", "()B"⟩
abbrev cJ0_isLatin1_aae02 : ByteArray := prog_17_method_154_code
def yJ0_isLatin1_aae02 : MethodName := ⟨RJ0, "isLatin1", "()Z"⟩
abbrev cJ0_checkIndex_df160 : ByteArray := prog_17_method_155_code
def yJ0_checkIndex_df160 : MethodName := ⟨RJ0, "checkIndex", "(II)V"⟩
def RJ1 : String := "java/lang/StringLatin1"
def TJ1 : u_T := fun k => match k with
  | _ => ("", "", "", false)
def tyJ1 : Nat → FieldType := fun k => match k with
  | _ => .int
abbrev wsJ10 : List Cond := u_ws RJ1 TJ1 0
theorem nmJ1 : ∀ a, a < 0 → ∀ b, b < 0 → a ≠ b → (TJ1 a).2.1 ≠ (TJ1 b).2.1 := by decide +kernel
theorem tyJ1_ok : ∀ k, k < 0 → parseFieldDescriptor (TJ1 k).2.2.1 = some (tyJ1 k) := by decide +kernel
abbrev cJ1_charAt_3b067 : ByteArray := prog_18_method_2_code
def yJ1_charAt_3b067 : MethodName := ⟨RJ1, "charAt", "([BI)C"⟩
def RJ2 : String := "java/lang/StringUTF16"
def TJ2 : u_T := fun k => match k with
  | _ => ("", "", "", false)
def tyJ2 : Nat → FieldType := fun k => match k with
  | _ => .int
abbrev wsJ20 : List Cond := u_ws RJ2 TJ2 0
theorem nmJ2 : ∀ a, a < 0 → ∀ b, b < 0 → a ≠ b → (TJ2 a).2.1 ≠ (TJ2 b).2.1 := by decide +kernel
theorem tyJ2_ok : ∀ k, k < 0 → parseFieldDescriptor (TJ2 k).2.2.1 = some (tyJ2 k) := by decide +kernel
abbrev cJ2_getChar_3b067 : ByteArray := prog_19_method_5_code
def yJ2_getChar_3b067 : MethodName := ⟨RJ2, "getChar", "([BI)C"⟩
abbrev cJ2_length_9d52b : ByteArray := prog_19_method_6_code
def yJ2_length_9d52b : MethodName := ⟨RJ2, "length", "([B)I"⟩
abbrev cJ2_charAt_3b067 : ByteArray := prog_19_method_83_code
def yJ2_charAt_3b067 : MethodName := ⟨RJ2, "charAt", "([BI)C"⟩
abbrev cJ2_checkIndex_2214a : ByteArray := prog_19_method_91_code
def yJ2_checkIndex_2214a : MethodName := ⟨RJ2, "checkIndex", "(I[B)V"⟩
def RJ10 : String := "java/lang/System"
def TJ10 : u_T := fun k => match k with
  | _ => ("", "", "", false)
def tyJ10 : Nat → FieldType := fun k => match k with
  | _ => .int
abbrev wsJ100 : List Cond := u_ws RJ10 TJ10 0
theorem nmJ10 : ∀ a, a < 0 → ∀ b, b < 0 → a ≠ b → (TJ10 a).2.1 ≠ (TJ10 b).2.1 := by decide +kernel
theorem tyJ10_ok : ∀ k, k < 0 → parseFieldDescriptor (TJ10 k).2.2.1 = some (tyJ10 k) := by decide +kernel
def RJxfd54e : String := "java/lang/constant/Constable"
def TJxfd54e : u_T := fun k => match k with
  | _ => ("", "", "", false)
def tyJxfd54e : Nat → FieldType := fun k => match k with
  | _ => .int
abbrev wsJxfd54e0 : List Cond := u_ws RJxfd54e TJxfd54e 0
theorem nmJxfd54e : ∀ a, a < 0 → ∀ b, b < 0 → a ≠ b → (TJxfd54e a).2.1 ≠ (TJxfd54e b).2.1 := by decide +kernel
theorem tyJxfd54e_ok : ∀ k, k < 0 → parseFieldDescriptor (TJxfd54e k).2.2.1 = some (tyJxfd54e k) := by decide +kernel
def RJx3cf43 : String := "java/lang/constant/ConstantDesc"
def TJx3cf43 : u_T := fun k => match k with
  | _ => ("", "", "", false)
def tyJx3cf43 : Nat → FieldType := fun k => match k with
  | _ => .int
abbrev wsJx3cf430 : List Cond := u_ws RJx3cf43 TJx3cf43 0
theorem nmJx3cf43 : ∀ a, a < 0 → ∀ b, b < 0 → a ≠ b → (TJx3cf43 a).2.1 ≠ (TJx3cf43 b).2.1 := by decide +kernel
theorem tyJx3cf43_ok : ∀ k, k < 0 → parseFieldDescriptor (TJx3cf43 k).2.2.1 = some (tyJx3cf43 k) := by decide +kernel
def RJ7 : String := "java/util/Arrays"
def TJ7 : u_T := fun k => match k with
  | _ => ("", "", "", false)
def tyJ7 : Nat → FieldType := fun k => match k with
  | _ => .int
abbrev wsJ70 : List Cond := u_ws RJ7 TJ7 0
theorem nmJ7 : ∀ a, a < 0 → ∀ b, b < 0 → a ≠ b → (TJ7 a).2.1 ≠ (TJ7 b).2.1 := by decide +kernel
theorem tyJ7_ok : ∀ k, k < 0 → parseFieldDescriptor (TJ7 k).2.2.1 = some (tyJ7 k) := by decide +kernel
abbrev cJ7_rangeCheck_23922 : ByteArray := prog_21_method_30_code
def yJ7_rangeCheck_23922 : MethodName := ⟨RJ7, "rangeCheck", "(III)V"⟩
abbrev cJ7_fill_53178 : ByteArray := prog_21_method_103_code
def yJ7_fill_53178 : MethodName := ⟨RJ7, "fill", "([II)V"⟩
abbrev cJ7_fill_fda19 : ByteArray := prog_21_method_104_code
def yJ7_fill_fda19 : MethodName := ⟨RJ7, "fill", "([IIII)V"⟩
abbrev cJ7_copyOf_59c91 : ByteArray := prog_21_method_123_code
def yJ7_copyOf_59c91 : MethodName := ⟨RJ7, "copyOf", "([II)[I"⟩
def RJ3 : String := "jdk/internal/util/Preconditions"
def TJ3 : u_T := fun k => match k with
  | _ => ("", "", "", false)
def tyJ3 : Nat → FieldType := fun k => match k with
  | _ => .int
abbrev wsJ30 : List Cond := u_ws RJ3 TJ3 0
theorem nmJ3 : ∀ a, a < 0 → ∀ b, b < 0 → a ≠ b → (TJ3 a).2.1 ≠ (TJ3 b).2.1 := by decide +kernel
theorem tyJ3_ok : ∀ k, k < 0 → parseFieldDescriptor (TJ3 k).2.2.1 = some (tyJ3 k) := by decide +kernel
abbrev cJ3_checkIndex_8e157 : ByteArray := prog_22_method_11_code
def yJ3_checkIndex_8e157 : MethodName := ⟨RJ3, "checkIndex", "(IILjava/util/function/BiFunction;)I"⟩
def RL : String := "BookBargeLaw"
abbrev cL_law : ByteArray := code
def yL_law : MethodName := ⟨RL, "law", "([I)Z"⟩
abbrev vwCl : List vw_C := [(RX0, TX0, 11), (RX1, TX1, 10), (RX2, TX2, 9), (RX3, TX3, 17), (RX4, TX4, 11), (RX5, TX5, 6), (RX6, TX6, 7), (RX7, TX7, 3), (RX8, TX8, 10), (RX10, TX10, 1), (RX11, TX11, 17), (RX12, TX12, 39)]
end
section
/-! ===== AN INTERPRETER OF THE BYTECODE, PURE: references are numbers of cells (ids), a heap is a list of shapes and two tables of numbers ===== -/
/-- a cell's shape: its kind (0 to 11: the class's place in vwCl; 12 byte, 13 int, 14 long, 15 boolean, 16 Rule, 17 World arrays), its length, its references -/
abbrev zE : Type := Nat × Nat × (Nat → Option Nat)
abbrev zTI : Type := Nat → Nat → Int32
abbrev zTJ : Type := Nat → Nat → Int64
/-- shapes, ints (also bytes and booleans), longs -/
abbrev zH : Type := List zE × zTI × zTJ
abbrev zL : Type := List (Option Value)
abbrev zR : Type := Option Value × zH
/-- an instruction with what it means: pc, instruction, two numbers, kinds, an int, a long, a switch's rows -/
abbrev zI : Type := Nat × Instr × Nat × Nat × List Nat × Int32 × Int64 × List (Int32 × Nat)
/-- a method: its name, bytes, locals, return type; its instructions; its cuts (pc, which locals live); its height: base, way; whether shapes stay -/
abbrev zM : Type := MethodName × ByteArray × Nat × Option FieldType × List zI × List (Nat × List Bool) × Nat × Nat × Bool
/-- what is asked of another activation, or at a cut: height, method, pc, locals, stack, heap -/
abbrev zO : Type := Nat → Nat → Nat → zL → List Value → zH → Option zR
abbrev zKt : Type := Nat → zL → List Value → zH → Option zR
/-- an int table with one place changed -/
def zsI (I : zTI) (a k : Nat) (v : Int32) : zTI := fun i => bif Nat.beq i a then (fun j => bif Nat.beq j k then v else I i j) else I i
def zsJ (J : zTJ) (a k : Nat) (v : Int64) : zTJ := fun i => bif Nat.beq i a then (fun j => bif Nat.beq j k then v else J i j) else J i
/-- an int table with one row changed -/
def zrI (I : zTI) (a : Nat) (f : Nat → Int32) : zTI := fun i => bif Nat.beq i a then f else I i
def zrJ (J : zTJ) (a : Nat) (f : Nat → Int64) : zTJ := fun i => bif Nat.beq i a then f else J i
/-- references told as a list -/
def zls (l : List (Option Nat)) : Nat → Option Nat := fun k => (l[k]?).getD none
def zno : Nat → Option Nat := fun _ => none
def zup (f : Nat → Option Nat) (k : Nat) (v : Option Nat) : Nat → Option Nat := fun j => bif Nat.beq j k then v else f j
/-- a place within a row -/
def zin (i : Int32) (n : Nat) : Bool := decide (0 ≤ i.toInt) && decide (i.toInt < n)
/-- what must hold -/
def zif (c : Bool) (x : Option zR) : Option zR := match c with
  | true => x
  | false => none
def zbo (v : Int32) : Bool := decide (v = 0) || decide (v = 1)
def zhas1 : List Nat → Nat → Bool
  | [], _ => false
  | a :: l, k => bif Nat.beq a k then true else zhas1 l k
/-- an object of one of some kinds -/
def zob (h : zH) (a : Nat) (ks : List Nat) (f : (Nat → Option Nat) → Option zR) : Option zR := match h.1[a]? with
  | some e => match zhas1 ks e.1 with
    | true => f e.2.2
    | false => none
  | none => none
/-- an array of a kind -/
def zar (h : zH) (a : Nat) (kd : Nat) (f : Nat → (Nat → Option Nat) → Option zR) : Option zR := match h.1[a]? with
  | some e => match Nat.beq e.1 kd with
    | true => f e.2.1 e.2.2
    | false => none
  | none => none
/-- an array of either of two kinds -/
def zar2 (h : zH) (a : Nat) (k1 k2 : Nat) (f : Nat → Option zR) (g : Nat → Option zR) : Option zR := match h.1[a]? with
  | some e => match Nat.beq e.1 k1 with
    | true => f e.2.1
    | false => match Nat.beq e.1 k2 with
      | true => g e.2.1
      | false => none
  | none => none
/-- an array of any kind: its length -/
def zal (h : zH) (a : Nat) (f : Nat → Option zR) : Option zR := match h.1[a]? with
  | some e => match Nat.ble 12 e.1 with
    | true => f e.2.1
    | false => none
  | none => none
def zrf (r : Option Nat) (f : Value → Option zR) : Option zR := match r with
  | some a => f (.ref a)
  | none => f .null
/-- locals -/
def zlI (L : zL) (i : Nat) (f : Int32 → Option zR) : Option zR := match L[i]? with
  | some (some (.int x)) => f x
  | _ => none
def zlJ (L : zL) (i : Nat) (f : Int64 → Option zR) : Option zR := match L[i]? with
  | some (some (.long x)) => f x
  | _ => none
def zlA (L : zL) (i : Nat) (f : Value → Option zR) : Option zR := match L[i]? with
  | some (some (.ref x)) => f (.ref x)
  | some (some .null) => f .null
  | some (some (.retAddr x)) => f (.retAddr x)
  | _ => none
/-- a value of two slots ahead of one that is overwritten is lost -/
def zkill (L : zL) (i : Nat) : zL := match i with
  | 0 => L
  | j + 1 => match L[j]? with
    | some (some (.long _)) => L.set j none
    | some (some (.double _)) => L.set j none
    | _ => L
def zst1 (L : zL) (i : Nat) (v : Value) : zL := (zkill L i).set i (some v)
def zst2 (L : zL) (i : Nat) (v : Value) : zL := ((zkill L i).set i (some v)).set (i + 1) none
/-- the stack -/
def zI1 (st : List Value) (f : Int32 → List Value → Option zR) : Option zR := match st with
  | .int x :: r => f x r
  | _ => none
def zI2 (st : List Value) (f : Int32 → Int32 → List Value → Option zR) : Option zR := match st with
  | .int y :: .int x :: r => f x y r
  | _ => none
def zJ1 (st : List Value) (f : Int64 → List Value → Option zR) : Option zR := match st with
  | .long x :: r => f x r
  | _ => none
def zJ2 (st : List Value) (f : Int64 → Int64 → List Value → Option zR) : Option zR := match st with
  | .long y :: .long x :: r => f x y r
  | _ => none
def zJI (st : List Value) (f : Int64 → Int32 → List Value → Option zR) : Option zR := match st with
  | .int y :: .long x :: r => f x y r
  | _ => none
def zA1 (st : List Value) (f : Nat → List Value → Option zR) : Option zR := match st with
  | .ref x :: r => f x r
  | _ => none
/-- an index and an array -/
def zIA (st : List Value) (f : Nat → Int32 → List Value → Option zR) : Option zR := match st with
  | .int i :: .ref a :: r => f a i r
  | _ => none
def zV1 (st : List Value) (f : Value → List Value → Option zR) : Option zR := match st with
  | v :: r => match v with
    | .long _ => none
    | .double _ => none
    | v => f v r
  | [] => none
def zV2 (st : List Value) (f : Value → Value → List Value → Option zR) (g : Value → List Value → Option zR) : Option zR := match st with
  | .long x :: r => g (.long x) r
  | .int y :: .int x :: r => f (.int y) (.int x) r
  | .int y :: .ref x :: r => f (.int y) (.ref x) r
  | _ => none
def zN1 (st : List Value) (f : List Value → Option zR) (g : List Value → Option zR) : Option zR := match st with
  | .null :: r => f r
  | .ref _ :: r => g r
  | _ => none
/-- a value of a field's sort (0 int, 1 long, 2 reference, 3 boolean) and an object -/
def zPut (st : List Value) (t : Nat) (f : Nat → Value → List Value → Option zR) : Option zR := match st with
  | .int v :: .ref a :: r => match t with
    | 0 => f a (.int v) r
    | 3 => zif (zbo v) (f a (.int v) r)
    | _ => none
  | .long v :: .ref a :: r => match t with
    | 1 => f a (.long v) r
    | _ => none
  | .ref v :: .ref a :: r => match t with
    | 2 => f a (.ref v) r
    | _ => none
  | .null :: .ref a :: r => match t with
    | 2 => f a .null r
    | _ => none
  | _ => none
def zpop : Nat → List Value → List Value → (List Value → List Value → Option zR) → Option zR
  | 0, acc, st, f => f acc st
  | n + 1, acc, v :: st, f => zpop n (v :: acc) st f
  | _ + 1, _, [], _ => none
/-- the words of what stays below a call -/
def zwd : List Value → Nat
  | [] => 0
  | v :: r => v.category + zwd r
/-- the receiver of a call -/
def zrc (h : zH) (args : List Value) (ks : List Nat) (x : Option zR) : Option zR := match args with
  | .ref a :: _ => zob h a ks (fun _ => x)
  | _ => none
/-- what comes back: shapes as they were -/
noncomputable def zkI (o : Option zR) (sh : List zE) (k : Int32 → zTI → zTJ → Option zR) : Option zR := match o with
  | some (some (.int r), h) => @ite _ (h.1 = sh) (Classical.propDecidable _) (k r h.2.1 h.2.2) none
  | _ => none
noncomputable def zkJ (o : Option zR) (sh : List zE) (k : Int64 → zTI → zTJ → Option zR) : Option zR := match o with
  | some (some (.long r), h) => @ite _ (h.1 = sh) (Classical.propDecidable _) (k r h.2.1 h.2.2) none
  | _ => none
noncomputable def zkV (o : Option zR) (sh : List zE) (k : zTI → zTJ → Option zR) : Option zR := match o with
  | some (none, h) => @ite _ (h.1 = sh) (Classical.propDecidable _) (k h.2.1 h.2.2) none
  | _ => none
/-- what comes back: other shapes -/
def zcI (o : Option zR) (k : Int32 → zH → Option zR) : Option zR := match o with
  | some (some (.int r), h) => k r h
  | _ => none
def zcJ (o : Option zR) (k : Int64 → zH → Option zR) : Option zR := match o with
  | some (some (.long r), h) => k r h
  | _ => none
def zcV (o : Option zR) (k : zH → Option zR) : Option zR := match o with
  | some (none, h) => k h
  | _ => none
def zcA (o : Option zR) (k : Nat → zH → Option zR) : Option zR := match o with
  | some (some (.ref r), h) => k r h
  | _ => none
/-- the locals at a method's entry -/
def zar0 : List Value → zL
  | [] => []
  | v :: r => match v with
    | .long x => some (.long x) :: none :: zar0 r
    | .double x => some (.double x) :: none :: zar0 r
    | v => some v :: zar0 r
def zpad : Nat → zL → zL
  | 0, _ => []
  | n + 1, [] => none :: zpad n []
  | n + 1, v :: r => v :: zpad n r
def zmask : List Bool → zL → zL
  | b :: m, v :: r => (match b with | true => v | false => none) :: zmask m r
  | _, _ => []
def zfind : List zI → Nat → Option zI
  | [], _ => none
  | e :: r, pc => match Nat.beq e.1 pc with
    | true => some e
    | false => zfind r pc
def zcut : List (Nat × List Bool) → Nat → Option (List Bool)
  | [], _ => none
  | e :: r, pc => match Nat.beq e.1 pc with
    | true => some e.2
    | false => zcut r pc
def zswi (x : Int32) : List (Int32 × Nat) → Nat → (Nat → Option zR) → Option zR
  | [], d, k => k d
  | (c, t) :: r, d, k => if x = c then k t else zswi x r d k
/-- the argument at a place as a number -/
def zan (args : List Value) (i : Nat) : Int32 := match args[i]? with
  | some (.int x) => x
  | _ => 0
/-- how many calls may stand open above an activation -/
def zht (M : zM) (args : List Value) : Nat := match M.2.2.2.2.2.2.2.1 with
  | 0 => M.2.2.2.2.2.2.1
  | 1 => M.2.2.2.2.2.2.1 + (zan args 1 + 1).toNatClampNeg
  | n + 2 => M.2.2.2.2.2.2.1 + 2 * (n - (zan args 1).toNatClampNeg)
end
section
/-! ===== one instruction; runs between cuts; the least fixed point ===== -/
def zAs (st : List Value) (f : Value → List Value → Option zR) : Option zR := match st with
  | .ref x :: r => f (.ref x) r
  | .null :: r => f .null r
  | _ => none
/-- a value, an index, an array -/
def zVA (st : List Value) (f : Nat → Int32 → Int32 → List Value → Option zR) : Option zR := match st with
  | .int x :: .int i :: .ref a :: r => f a i x r
  | _ => none
def zWA (st : List Value) (f : Nat → Int32 → Int64 → List Value → Option zR) : Option zR := match st with
  | .long x :: .int i :: .ref a :: r => f a i x r
  | _ => none
def zQA (st : List Value) (f : Nat → Int32 → Nat → List Value → Option zR) : Option zR := match st with
  | .ref x :: .int i :: .ref a :: r => f a i x r
  | _ => none
/-- the operands of arraycopy -/
def zCp (st : List Value) (f : Nat → Int32 → Nat → Int32 → Int32 → List Value → Option zR) : Option zR := match st with
  | .int n :: .int dp :: .ref d :: .int sp :: .ref a :: r => f a sp d dp n r
  | _ => none
def zSt (st : List Value) (f : Nat → List Value → Option zR) : Option zR := match st with
  | .retAddr x :: r => f x r
  | _ => none
def zSc (st : List Value) (f : Nat → Int32 → List Value → Option zR) : Option zR := match st with
  | .int i :: .retAddr x :: r => f x i r
  | _ => none
def zrg (sp n : Int32) (m : Nat) : Bool := decide (0 ≤ sp.toInt) && decide (0 ≤ n.toInt) && decide (sp.toInt + n.toInt ≤ m)
def zsR (sh : List zE) (o k : Nat) (v : Option Nat) : List zE := match sh[o]? with
  | some e => sh.set o (e.1, e.2.1, zup e.2.2 k v)
  | none => sh
/-- a new cell -/
def znew (h : zH) (kd n : Nat) : zH := (h.1 ++ [(kd, n, zno)], zrI h.2.1 h.1.length (fun _ => 0), zrJ h.2.2 h.1.length (fun _ => 0))
def zcpy (h : zH) (a n : Nat) : zH := (h.1 ++ [(13, n, zno)], zrI h.2.1 h.1.length (h.2.1 a), zrJ h.2.2 h.1.length (fun _ => 0))
/-- the String constants -/
def zSb : List (List Int32) := [[98, 97, 114, 103, 101, 32, 98, 111, 111, 107, 32, 115, 116, 111, 112, 32, 114, 101, 97, 100, 101, 114, 32, 119, 105, 115, 104, 32, 104, 111, 108, 101],
  [108, 101, 110, 100, 32, 102, 101, 116, 99, 104, 32, 115, 104, 105, 102, 116],
  [98, 111, 111, 107, 32, 119, 101, 105, 103, 104, 116, 32, 115, 104, 101, 108, 102, 32, 119, 111, 114, 116, 104, 32, 100, 97, 109, 112, 32, 119, 105, 115, 104, 32, 115, 116, 111, 112, 32, 100, 101, 112, 116, 104, 32, 100, 114, 97, 117, 103, 104, 116, 32, 119, 97, 116, 101, 114, 32, 108, 111, 97, 110, 115, 32, 100, 97, 121],
  [105, 102], [110, 111, 116], [97, 110, 100], [111, 114]]
def zsl (x : Nat) : Nat := (zSb.getD x []).length
def zch (x k : Nat) : Int32 := (zSb.getD x []).getD k 0
/-- another activation -/
def zask (G : Nat → zM) (S : zO) (D j : Nat) (args : List Value) (h : zH) : Option zR := match Nat.blt (zht (G j) args) D && Nat.ble (zar0 args).length (G j).2.2.1 with
  | true => S (zht (G j) args) j 0 (zpad (G j).2.2.1 (zar0 args)) [] h
  | false => none
noncomputable def zback (G : Nat → zM) (j : Nat) (o : Option zR) (h : zH) (f : List Value → zH → Option zR) : Option zR := match (G j).2.2.2.2.2.2.2.2 with
  | true => match (G j).2.2.2.1 with
    | none => zkV o h.1 (fun I J => f [] (h.1, I, J))
    | some .int => zkI o h.1 (fun r I J => f [.int r] (h.1, I, J))
    | some .boolean => zkI o h.1 (fun r I J => f [.int r] (h.1, I, J))
    | some .long => zkJ o h.1 (fun r I J => f [.long r] (h.1, I, J))
    | _ => none
  | false => match (G j).2.2.2.1 with
    | none => zcV o (fun h' => f [] h')
    | some .int => zcI o (fun r h' => f [.int r] h')
    | some .boolean => zcI o (fun r h' => f [.int r] h')
    | some .long => zcJ o (fun r h' => f [.long r] h')
    | some (.object _) => zcA o (fun r h' => f [.ref r] h')
    | some (.array _) => zcA o (fun r h' => f [.ref r] h')
    | _ => none
/-- a static call -/
noncomputable def zinvS (G : Nat → zM) (S : zO) (D j n : Nat) (st : List Value) (h : zH) (f : List Value → zH → Option zR) : Option zR :=
  zpop n [] st fun args r => zif (Nat.ble (zwd r) 8) (zback G j (zask G S D j args h) h (fun v h' => f (v ++ r) h'))
/-- a call with a receiver -/
noncomputable def zinvV (G : Nat → zM) (S : zO) (D j n : Nat) (ks : List Nat) (st : List Value) (h : zH) (f : List Value → zH → Option zR) : Option zR :=
  zpop n [] st fun args r => zif (Nat.ble (zwd r) 8) (zrc h args ks (zback G j (zask G S D j args h) h (fun v h' => f (v ++ r) h')))
noncomputable def zstep (G : Nat → zM) (S : zO) (D : Nat) (e : zI) (k : zKt) (L : zL) (st : List Value) (h : zH) : Option zR :=
  match e with
  | (pc, ins, a, b, ks, z, zl, sw) =>
  match ins with
  | .aconst_null => k (pc + 1) L (.null :: st) h
  | .iconst _ => k (pc + 1) L (.int z :: st) h
  | .bipush _ => k (pc + 2) L (.int z :: st) h
  | .sipush _ => k (pc + 3) L (.int z :: st) h
  | .lconst _ => k (pc + 1) L (.long zl :: st) h
  | .ldc _ => match b with
    | 0 => k (pc + 2) L (.int z :: st) h
    | _ => zif (Nat.blt a 7) (k (pc + 2) L (.retAddr a :: st) h)
  | .ldc_w _ => k (pc + 3) L (.int z :: st) h
  | .ldc2_w _ => k (pc + 3) L (.long zl :: st) h
  | .iload i => zlI L i fun x => k (pc + 2) L (.int x :: st) h
  | .iload_n i => zlI L i.val fun x => k (pc + 1) L (.int x :: st) h
  | .lload i => zlJ L i fun x => k (pc + 2) L (.long x :: st) h
  | .lload_n i => zlJ L i.val fun x => k (pc + 1) L (.long x :: st) h
  | .aload i => zlA L i fun x => k (pc + 2) L (x :: st) h
  | .aload_n i => zlA L i.val fun x => k (pc + 1) L (x :: st) h
  | .istore i => zI1 st fun x r => k (pc + 2) (zst1 L i (.int x)) r h
  | .istore_n i => zI1 st fun x r => k (pc + 1) (zst1 L i.val (.int x)) r h
  | .lstore i => zJ1 st fun x r => k (pc + 2) (zst2 L i (.long x)) r h
  | .lstore_n i => zJ1 st fun x r => k (pc + 1) (zst2 L i.val (.long x)) r h
  | .astore i => zAs st fun x r => k (pc + 2) (zst1 L i x) r h
  | .astore_n i => zAs st fun x r => k (pc + 1) (zst1 L i.val x) r h
  | .iinc i _ => zlI L i fun x => k (pc + 3) (zst1 L i (.int (x + z))) st h
  | .iadd => zI2 st fun x y r => k (pc + 1) L (.int (x + y) :: r) h
  | .isub => zI2 st fun x y r => k (pc + 1) L (.int (x - y) :: r) h
  | .imul => zI2 st fun x y r => k (pc + 1) L (.int (x * y) :: r) h
  | .iand => zI2 st fun x y r => k (pc + 1) L (.int (x &&& y) :: r) h
  | .ior => zI2 st fun x y r => k (pc + 1) L (.int (x ||| y) :: r) h
  | .ixor => zI2 st fun x y r => k (pc + 1) L (.int (x ^^^ y) :: r) h
  | .idiv => zI2 st fun x y r => if y = 0 then none else k (pc + 1) L (.int (x / y) :: r) h
  | .irem => zI2 st fun x y r => if y = 0 then none else k (pc + 1) L (.int (x - x / y * y) :: r) h
  | .ineg => zI1 st fun x r => k (pc + 1) L (.int (-x) :: r) h
  | .ishl => zI2 st fun x y r => k (pc + 1) L (.int (x <<< (y &&& 31)) :: r) h
  | .ishr => zI2 st fun x y r => k (pc + 1) L (.int (x >>> (y &&& 31)) :: r) h
  | .ladd => zJ2 st fun x y r => k (pc + 1) L (.long (x + y) :: r) h
  | .lsub => zJ2 st fun x y r => k (pc + 1) L (.long (x - y) :: r) h
  | .lmul => zJ2 st fun x y r => k (pc + 1) L (.long (x * y) :: r) h
  | .land => zJ2 st fun x y r => k (pc + 1) L (.long (x &&& y) :: r) h
  | .lor => zJ2 st fun x y r => k (pc + 1) L (.long (x ||| y) :: r) h
  | .ldiv => zJ2 st fun x y r => if y = 0 then none else k (pc + 1) L (.long (x / y) :: r) h
  | .lrem => zJ2 st fun x y r => if y = 0 then none else k (pc + 1) L (.long (x - x / y * y) :: r) h
  | .lshl => zJI st fun x y r => k (pc + 1) L (.long (x <<< (y.toInt64 &&& 63)) :: r) h
  | .lcmp => zJ2 st fun x y r => k (pc + 1) L (.int (lg_cmp x y) :: r) h
  | .i2l => zI1 st fun x r => k (pc + 1) L (.long x.toInt64 :: r) h
  | .l2i => zJ1 st fun x r => k (pc + 1) L (.int x.toInt32 :: r) h
  | .i2b => zI1 st fun x r => k (pc + 1) L (.int x.toInt8.toInt32 :: r) h
  | .dup => zV1 st fun v r => k (pc + 1) L (v :: v :: r) h
  | .pop => zV1 st fun _ r => k (pc + 1) L r h
  | .dup2 => zV2 st (fun v w r => k (pc + 1) L (v :: w :: v :: w :: r) h) (fun v r => k (pc + 1) L (v :: v :: r) h)
  | .goto _ => k a L st h
  | .ifCond c _ => zI1 st fun x r => match c with
    | .eq => if x = 0 then k a L r h else k (pc + 3) L r h
    | .ne => if x = 0 then k (pc + 3) L r h else k a L r h
    | .lt => if x < 0 then k a L r h else k (pc + 3) L r h
    | .ge => if x < 0 then k (pc + 3) L r h else k a L r h
    | .gt => if 0 < x then k a L r h else k (pc + 3) L r h
    | .le => if 0 < x then k (pc + 3) L r h else k a L r h
  | .if_icmp c _ => zI2 st fun x y r => match c with
    | .eq => if x = y then k a L r h else k (pc + 3) L r h
    | .ne => if x = y then k (pc + 3) L r h else k a L r h
    | .lt => if x < y then k a L r h else k (pc + 3) L r h
    | .ge => if x < y then k (pc + 3) L r h else k a L r h
    | .gt => if y < x then k a L r h else k (pc + 3) L r h
    | .le => if y < x then k (pc + 3) L r h else k a L r h
  | .ifnull _ => zN1 st (fun r => k a L r h) (fun r => k (pc + 3) L r h)
  | .ifnonnull _ => zN1 st (fun r => k (pc + 3) L r h) (fun r => k a L r h)
  | .tableswitch _ _ _ _ => zI1 st fun x r => zswi x sw a (fun t => k t L r h)
  | .getfield _ => zA1 st fun o r => zob h o ks fun rf => match b with
    | 1 => k (pc + 3) L (.long (h.2.2 o a) :: r) h
    | 2 => zrf (rf a) fun v => k (pc + 3) L (v :: r) h
    | _ => k (pc + 3) L (.int (h.2.1 o a) :: r) h
  | .putfield _ => zPut st b fun o v r => zob h o ks fun _ => match v with
    | .int x => k (pc + 3) L r (h.1, zsI h.2.1 o a x, h.2.2)
    | .long x => k (pc + 3) L r (h.1, h.2.1, zsJ h.2.2 o a x)
    | .ref x => k (pc + 3) L r (zsR h.1 o a (some x), h.2.1, h.2.2)
    | .null => k (pc + 3) L r (zsR h.1 o a none, h.2.1, h.2.2)
    | _ => none
  | .iaload => zIA st fun q i r => zar h q 13 fun n _ => zif (zin i n) (k (pc + 1) L (.int (h.2.1 q i.toNatClampNeg) :: r) h)
  | .baload => zIA st fun q i r => zar2 h q 12 15 (fun n => zif (zin i n) (k (pc + 1) L (.int (h.2.1 q i.toNatClampNeg) :: r) h)) (fun n => zif (zin i n) (k (pc + 1) L (.int (h.2.1 q i.toNatClampNeg) :: r) h))
  | .laload => zIA st fun q i r => zar h q 14 fun n _ => zif (zin i n) (k (pc + 1) L (.long (h.2.2 q i.toNatClampNeg) :: r) h)
  | .aaload => zIA st fun q i r => zif (zhas1 [16, 17] a) (zar h q a fun n rf => zif (zin i n) (zrf (rf i.toNatClampNeg) fun v => k (pc + 1) L (v :: r) h))
  | .iastore => zVA st fun q i x r => zar h q 13 fun n _ => zif (zin i n) (k (pc + 1) L r (h.1, zsI h.2.1 q i.toNatClampNeg x, h.2.2))
  | .bastore => zVA st fun q i x r => zar2 h q 12 15 (fun n => zif (zin i n) (k (pc + 1) L r (h.1, zsI h.2.1 q i.toNatClampNeg x.toInt8.toInt32, h.2.2))) (fun n => zif (zin i n) (zif (zbo x) (k (pc + 1) L r (h.1, zsI h.2.1 q i.toNatClampNeg x, h.2.2))))
  | .lastore => zWA st fun q i x r => zar h q 14 fun n _ => zif (zin i n) (k (pc + 1) L r (h.1, h.2.1, zsJ h.2.2 q i.toNatClampNeg x))
  | .aastore => zQA st fun q i x r => zif (zhas1 [16, 17] a) (zar h q a fun n _ => zob h x [match a with | 16 => 7 | _ => 9] fun _ => zif (zin i n) (k (pc + 1) L r (zsR h.1 q i.toNatClampNeg (some x), h.2.1, h.2.2)))
  | .arraylength => zA1 st fun q r => zal h q fun n => k (pc + 1) L (.int (Int32.ofNat n) :: r) h
  | .new _ => zif (Nat.blt a 12) (k (pc + 3) L (.ref h.1.length :: st) (znew h a 0))
  | .newarray _ => zI1 st fun n r => zif (zhas1 [12, 13, 14, 15] a) (zif (zin n 100000) (k (pc + 2) L (.ref h.1.length :: r) (znew h a n.toNatClampNeg)))
  | .anewarray _ => zI1 st fun n r => zif (zhas1 [16, 17] a) (zif (zin n 100000) (k (pc + 3) L (.ref h.1.length :: r) (znew h a n.toNatClampNeg)))
  | .checkcast _ => zA1 st fun q r => zar h q 13 fun _ _ => k (pc + 3) L (.ref q :: r) h
  | .invokestatic _ => match Nat.blt a 1000 with
    | true => zinvS G S D a b st h (fun st' h' => k (pc + 3) L st' h')
    | false => zif (Nat.blt 0 D) (match Nat.sub a 1000 with
      | 0 => zI2 st fun x y r => zif (Nat.ble (zwd r) 8) (k (pc + 3) L (.int (if x < y then y else x) :: r) h)
      | 1 => zI2 st fun x y r => zif (Nat.ble (zwd r) 8) (k (pc + 3) L (.int (if y < x then y else x) :: r) h)
      | 2 => zI1 st fun x r => zif (Nat.ble (zwd r) 8) (k (pc + 3) L (.int (if 0 ≤ x then x else 0 - x) :: r) h)
      | 3 => zCp st fun q sp d dp n r => zif (Nat.ble (zwd r) 8) (zar h q 13 fun n0 _ => zar h d 13 fun n1 _ => zif (zrg sp n n0) (zif (zrg dp n n1) (k (pc + 3) L r (h.1, zrI h.2.1 d (va_cpy (h.2.1 q) (h.2.1 d) sp.toNatClampNeg dp.toNatClampNeg n.toNatClampNeg), h.2.2))))
      | _ => none)
  | .invokevirtual _ => match Nat.blt a 1000 with
    | true => zinvV G S D a b ks st h (fun st' h' => k (pc + 3) L st' h')
    | false => zif (Nat.blt 4 D) (match Nat.sub a 1000 with
      | 4 => zSt st fun x r => zif (Nat.blt x 7) (zif (Nat.ble (zwd r) 8) (k (pc + 3) L (.int (Int32.ofNat (zsl x)) :: r) h))
      | 5 => zSc st fun x i r => zif (Nat.blt x 7) (zif (Nat.ble (zwd r) 8) (zif (zin i (zsl x)) (k (pc + 3) L (.int (zch x i.toNatClampNeg) :: r) h)))
      | 7 => zA1 st fun q r => zif (Nat.ble (zwd r) 8) (zar h q 13 fun n _ => k (pc + 3) L (.ref h.1.length :: r) (zcpy h q n))
      | _ => none)
  | .invokespecial _ => match Nat.blt a 1000 with
    | true => zinvV G S D a b ks st h (fun st' h' => k (pc + 3) L st' h')
    | false => zif (Nat.blt 0 D) (zA1 st fun _ r => zif (Nat.ble (zwd r) 8) (k (pc + 3) L r h))
  | .ireturn => match st with
    | [.int v] => match b with
      | 3 => zif (zbo v) (some (some (.int v), h))
      | _ => some (some (.int v), h)
    | _ => none
  | .lreturn => match st with
    | [.long v] => some (some (.long v), h)
    | _ => none
  | .areturn => match st with
    | [.ref v] => some (some (.ref v), h)
    | _ => none
  | .return_ => match st with
    | [] => some (none, h)
    | _ => none
  | _ => none
noncomputable def zx (G : Nat → zM) (S : zO) (D j : Nat) (M : zM) : Nat → zKt
  | 0, _, _, _, _ => none
  | f + 1, pc, L, st, h => match zfind M.2.2.2.2.1 pc with
    | none => none
    | some e => zstep G S D e (fun pc' L' st' h' => match zcut M.2.2.2.2.2.1 pc' with
      | some bm => S D j pc' (zmask bm L') st' h'
      | none => zx G S D j M f pc' L' st' h') L st h
noncomputable def zF (G : Nat → zM) (S : zO) : zO := fun D j pc L st h => zx G S D j (G j) 400 pc L st h
end
section
/-! ===== more answers asked, more answers told ===== -/
def zle (x y : Option zR) : Prop := ∀ r, x = some r → y = some r
theorem zle_rf (x : Option zR) : zle x x := fun _ h => h
theorem zle_no (y : Option zR) : zle none y := fun _ h => by cases h
theorem zle_if {c : Prop} [Decidable c] {x y x' y' : Option zR} (h1 : zle x x') (h2 : zle y y') : zle (if c then x else y) (if c then x' else y') := by
  by_cases h : c
  · rw [if_pos h, if_pos h]; exact h1
  · rw [if_neg h, if_neg h]; exact h2
theorem zle_zif {c : Bool} {x x' : Option zR} (h1 : zle x x') : zle (zif c x) (zif c x') := by
  cases c
  · exact zle_no _
  · exact h1
theorem zle_zob {h : zH} {a : Nat} {ks : List Nat} {f f' : (Nat → Option Nat) → Option zR} (H : ∀ r, zle (f r) (f' r)) : zle (zob h a ks f) (zob h a ks f') := by
  unfold zob; split
  · split
    · exact H _
    · exact zle_no _
  · exact zle_no _
theorem zle_zar {h : zH} {a kd : Nat} {f f' : Nat → (Nat → Option Nat) → Option zR} (H : ∀ n r, zle (f n r) (f' n r)) : zle (zar h a kd f) (zar h a kd f') := by
  unfold zar; split
  · split
    · exact H _ _
    · exact zle_no _
  · exact zle_no _
theorem zle_zar2 {h : zH} {a k1 k2 : Nat} {f f' g g' : Nat → Option zR} (H : ∀ n, zle (f n) (f' n)) (H2 : ∀ n, zle (g n) (g' n)) : zle (zar2 h a k1 k2 f g) (zar2 h a k1 k2 f' g') := by
  unfold zar2; split
  · split
    · exact H _
    · split
      · exact H2 _
      · exact zle_no _
  · exact zle_no _
theorem zle_zal {h : zH} {a : Nat} {f f' : Nat → Option zR} (H : ∀ n, zle (f n) (f' n)) : zle (zal h a f) (zal h a f') := by
  unfold zal; split
  · split
    · exact H _
    · exact zle_no _
  · exact zle_no _
theorem zle_zrf {r : Option Nat} {f f' : Value → Option zR} (H : ∀ v, zle (f v) (f' v)) : zle (zrf r f) (zrf r f') := by
  cases r <;> exact H _
theorem zle_zlI {L : zL} {i : Nat} {f f' : Int32 → Option zR} (H : ∀ v, zle (f v) (f' v)) : zle (zlI L i f) (zlI L i f') := by
  unfold zlI; split
  · exact H _
  · exact zle_no _
theorem zle_zlJ {L : zL} {i : Nat} {f f' : Int64 → Option zR} (H : ∀ v, zle (f v) (f' v)) : zle (zlJ L i f) (zlJ L i f') := by
  unfold zlJ; split
  · exact H _
  · exact zle_no _
theorem zle_zlA {L : zL} {i : Nat} {f f' : Value → Option zR} (H : ∀ v, zle (f v) (f' v)) : zle (zlA L i f) (zlA L i f') := by
  unfold zlA; split <;> first | exact H _ | exact zle_no _
theorem zle_zI1 {st : List Value} {f f' : Int32 → List Value → Option zR} (H : ∀ x r, zle (f x r) (f' x r)) : zle (zI1 st f) (zI1 st f') := by
  unfold zI1; split <;> first | exact H _ _ | exact zle_no _
theorem zle_zI2 {st : List Value} {f f' : Int32 → Int32 → List Value → Option zR} (H : ∀ x y r, zle (f x y r) (f' x y r)) : zle (zI2 st f) (zI2 st f') := by
  unfold zI2; split <;> first | exact H _ _ _ | exact zle_no _
theorem zle_zJ1 {st : List Value} {f f' : Int64 → List Value → Option zR} (H : ∀ x r, zle (f x r) (f' x r)) : zle (zJ1 st f) (zJ1 st f') := by
  unfold zJ1; split <;> first | exact H _ _ | exact zle_no _
theorem zle_zJ2 {st : List Value} {f f' : Int64 → Int64 → List Value → Option zR} (H : ∀ x y r, zle (f x y r) (f' x y r)) : zle (zJ2 st f) (zJ2 st f') := by
  unfold zJ2; split <;> first | exact H _ _ _ | exact zle_no _
theorem zle_zJI {st : List Value} {f f' : Int64 → Int32 → List Value → Option zR} (H : ∀ x y r, zle (f x y r) (f' x y r)) : zle (zJI st f) (zJI st f') := by
  unfold zJI; split <;> first | exact H _ _ _ | exact zle_no _
theorem zle_zA1 {st : List Value} {f f' : Nat → List Value → Option zR} (H : ∀ x r, zle (f x r) (f' x r)) : zle (zA1 st f) (zA1 st f') := by
  unfold zA1; split <;> first | exact H _ _ | exact zle_no _
theorem zle_zIA {st : List Value} {f f' : Nat → Int32 → List Value → Option zR} (H : ∀ x y r, zle (f x y r) (f' x y r)) : zle (zIA st f) (zIA st f') := by
  unfold zIA; split <;> first | exact H _ _ _ | exact zle_no _
theorem zle_zV1 {st : List Value} {f f' : Value → List Value → Option zR} (H : ∀ x r, zle (f x r) (f' x r)) : zle (zV1 st f) (zV1 st f') := by
  unfold zV1; split
  · split <;> first | exact H _ _ | exact zle_no _
  · exact zle_no _
theorem zle_zV2 {st : List Value} {f f' : Value → Value → List Value → Option zR} {g g' : Value → List Value → Option zR} (H : ∀ x y r, zle (f x y r) (f' x y r)) (H2 : ∀ x r, zle (g x r) (g' x r)) : zle (zV2 st f g) (zV2 st f' g') := by
  unfold zV2; split <;> first | exact H _ _ _ | exact H2 _ _ | exact zle_no _
theorem zle_zN1 {st : List Value} {f f' g g' : List Value → Option zR} (H : ∀ r, zle (f r) (f' r)) (H2 : ∀ r, zle (g r) (g' r)) : zle (zN1 st f g) (zN1 st f' g') := by
  unfold zN1; split <;> first | exact H _ | exact H2 _ | exact zle_no _
theorem zle_zPut {st : List Value} {t : Nat} {f f' : Nat → Value → List Value → Option zR} (H : ∀ a v r, zle (f a v r) (f' a v r)) : zle (zPut st t f) (zPut st t f') := by
  unfold zPut; split <;> (try split) <;> first | exact H _ _ _ | exact zle_zif (H _ _ _) | exact zle_no _
theorem zle_zAs {st : List Value} {f f' : Value → List Value → Option zR} (H : ∀ x r, zle (f x r) (f' x r)) : zle (zAs st f) (zAs st f') := by
  unfold zAs; split <;> first | exact H _ _ | exact zle_no _
theorem zle_zVA {st : List Value} {f f' : Nat → Int32 → Int32 → List Value → Option zR} (H : ∀ x y z r, zle (f x y z r) (f' x y z r)) : zle (zVA st f) (zVA st f') := by
  unfold zVA; split <;> first | exact H _ _ _ _ | exact zle_no _
theorem zle_zWA {st : List Value} {f f' : Nat → Int32 → Int64 → List Value → Option zR} (H : ∀ x y z r, zle (f x y z r) (f' x y z r)) : zle (zWA st f) (zWA st f') := by
  unfold zWA; split <;> first | exact H _ _ _ _ | exact zle_no _
theorem zle_zQA {st : List Value} {f f' : Nat → Int32 → Nat → List Value → Option zR} (H : ∀ x y z r, zle (f x y z r) (f' x y z r)) : zle (zQA st f) (zQA st f') := by
  unfold zQA; split <;> first | exact H _ _ _ _ | exact zle_no _
theorem zle_zCp {st : List Value} {f f' : Nat → Int32 → Nat → Int32 → Int32 → List Value → Option zR} (H : ∀ a b c d e r, zle (f a b c d e r) (f' a b c d e r)) : zle (zCp st f) (zCp st f') := by
  unfold zCp; split <;> first | exact H _ _ _ _ _ _ | exact zle_no _
theorem zle_zSt {st : List Value} {f f' : Nat → List Value → Option zR} (H : ∀ x r, zle (f x r) (f' x r)) : zle (zSt st f) (zSt st f') := by
  unfold zSt; split <;> first | exact H _ _ | exact zle_no _
theorem zle_zSc {st : List Value} {f f' : Nat → Int32 → List Value → Option zR} (H : ∀ x i r, zle (f x i r) (f' x i r)) : zle (zSc st f) (zSc st f') := by
  unfold zSc; split <;> first | exact H _ _ _ | exact zle_no _
theorem zle_zpop {f f' : List Value → List Value → Option zR} (H : ∀ a r, zle (f a r) (f' a r)) : ∀ (n : Nat) (acc st : List Value), zle (zpop n acc st f) (zpop n acc st f')
  | 0, acc, st => H acc st
  | _ + 1, _, [] => zle_no _
  | n + 1, acc, v :: st => zle_zpop H n (v :: acc) st
theorem zle_zrc {h : zH} {args : List Value} {ks : List Nat} {x x' : Option zR} (H : zle x x') : zle (zrc h args ks x) (zrc h args ks x') := by
  unfold zrc; split
  · exact zle_zob fun _ => H
  · exact zle_no _
theorem zle_zswi {x : Int32} {d : Nat} {k k' : Nat → Option zR} (H : ∀ t, zle (k t) (k' t)) : ∀ l : List (Int32 × Nat), zle (zswi x l d k) (zswi x l d k')
  | [] => H d
  | (c, t) :: r => zle_if (H t) (zle_zswi H r)
theorem zle_zask {G : Nat → zM} {S S' : zO} {D j : Nat} {args : List Value} {h : zH} (HS : ∀ D j pc L st h, zle (S D j pc L st h) (S' D j pc L st h)) : zle (zask G S D j args h) (zask G S' D j args h) := by
  unfold zask; split
  · exact HS _ _ _ _ _ _
  · exact zle_no _
theorem zle_zkI {o o' : Option zR} {sh : List zE} {k k' : Int32 → zTI → zTJ → Option zR} (H : zle o o') (Hk : ∀ r I J, zle (k r I J) (k' r I J)) : zle (zkI o sh k) (zkI o' sh k') := by
  intro r hr
  unfold zkI at hr ⊢
  split at hr
  · rw [H _ rfl]
    dsimp only
    by_cases c : ‹zH›.1 = sh
    · rw [if_pos c] at hr ⊢; exact Hk _ _ _ _ hr
    · rw [if_neg c] at hr; cases hr
  · cases hr
theorem zle_zkJ {o o' : Option zR} {sh : List zE} {k k' : Int64 → zTI → zTJ → Option zR} (H : zle o o') (Hk : ∀ r I J, zle (k r I J) (k' r I J)) : zle (zkJ o sh k) (zkJ o' sh k') := by
  intro r hr
  unfold zkJ at hr ⊢
  split at hr
  · rw [H _ rfl]
    dsimp only
    by_cases c : ‹zH›.1 = sh
    · rw [if_pos c] at hr ⊢; exact Hk _ _ _ _ hr
    · rw [if_neg c] at hr; cases hr
  · cases hr
theorem zle_zkV {o o' : Option zR} {sh : List zE} {k k' : zTI → zTJ → Option zR} (H : zle o o') (Hk : ∀ I J, zle (k I J) (k' I J)) : zle (zkV o sh k) (zkV o' sh k') := by
  intro r hr
  unfold zkV at hr ⊢
  split at hr
  · rw [H _ rfl]
    dsimp only
    by_cases c : ‹zH›.1 = sh
    · rw [if_pos c] at hr ⊢; exact Hk _ _ _ hr
    · rw [if_neg c] at hr; cases hr
  · cases hr
theorem zle_zcI {o o' : Option zR} {k k' : Int32 → zH → Option zR} (H : zle o o') (Hk : ∀ r h, zle (k r h) (k' r h)) : zle (zcI o k) (zcI o' k') := by
  intro r hr
  unfold zcI at hr ⊢
  split at hr
  · rw [H _ rfl]; exact Hk _ _ _ hr
  · cases hr
theorem zle_zcJ {o o' : Option zR} {k k' : Int64 → zH → Option zR} (H : zle o o') (Hk : ∀ r h, zle (k r h) (k' r h)) : zle (zcJ o k) (zcJ o' k') := by
  intro r hr
  unfold zcJ at hr ⊢
  split at hr
  · rw [H _ rfl]; exact Hk _ _ _ hr
  · cases hr
theorem zle_zcA {o o' : Option zR} {k k' : Nat → zH → Option zR} (H : zle o o') (Hk : ∀ r h, zle (k r h) (k' r h)) : zle (zcA o k) (zcA o' k') := by
  intro r hr
  unfold zcA at hr ⊢
  split at hr
  · rw [H _ rfl]; exact Hk _ _ _ hr
  · cases hr
theorem zle_zcV {o o' : Option zR} {k k' : zH → Option zR} (H : zle o o') (Hk : ∀ h, zle (k h) (k' h)) : zle (zcV o k) (zcV o' k') := by
  intro r hr
  unfold zcV at hr ⊢
  split at hr
  · rw [H _ rfl]; exact Hk _ _ hr
  · cases hr
theorem zle_zback {G : Nat → zM} {j : Nat} {o o' : Option zR} {h : zH} {f f' : List Value → zH → Option zR} (H : zle o o') (Hk : ∀ v h, zle (f v h) (f' v h)) : zle (zback G j o h f) (zback G j o' h f') := by
  unfold zback; split
  · split
    · exact zle_zkV H fun _ _ => Hk _ _
    · exact zle_zkI H fun _ _ _ => Hk _ _
    · exact zle_zkI H fun _ _ _ => Hk _ _
    · exact zle_zkJ H fun _ _ _ => Hk _ _
    · exact zle_no _
  · split
    · exact zle_zcV H fun _ => Hk _ _
    · exact zle_zcI H fun _ _ => Hk _ _
    · exact zle_zcI H fun _ _ => Hk _ _
    · exact zle_zcJ H fun _ _ => Hk _ _
    · exact zle_zcA H fun _ _ => Hk _ _
    · exact zle_zcA H fun _ _ => Hk _ _
    · exact zle_no _
theorem zle_zinvS {G : Nat → zM} {S S' : zO} {D j n : Nat} {st : List Value} {h : zH} {f f' : List Value → zH → Option zR} (HS : ∀ D j pc L st h, zle (S D j pc L st h) (S' D j pc L st h)) (Hk : ∀ v h, zle (f v h) (f' v h)) : zle (zinvS G S D j n st h f) (zinvS G S' D j n st h f') :=
  zle_zpop (fun _ _ => zle_zif (zle_zback (zle_zask HS) fun _ _ => Hk _ _)) _ _ _
theorem zle_zinvV {G : Nat → zM} {S S' : zO} {D j n : Nat} {ks : List Nat} {st : List Value} {h : zH} {f f' : List Value → zH → Option zR} (HS : ∀ D j pc L st h, zle (S D j pc L st h) (S' D j pc L st h)) (Hk : ∀ v h, zle (f v h) (f' v h)) : zle (zinvV G S D j n ks st h f) (zinvV G S' D j n ks st h f') :=
  zle_zpop (fun _ _ => zle_zif (zle_zrc (zle_zback (zle_zask HS) fun _ _ => Hk _ _))) _ _ _
set_option maxHeartbeats 4000000 in
theorem zle_zstep {G : Nat → zM} {S S' : zO} {D : Nat} {e : zI} {k k' : zKt} {L : zL} {st : List Value} {h : zH} (HS : ∀ D j pc L st h, zle (S D j pc L st h) (S' D j pc L st h)) (Hk : ∀ pc L st h, zle (k pc L st h) (k' pc L st h)) : zle (zstep G S D e k L st h) (zstep G S' D e k' L st h) := by
  obtain ⟨pc, ins, a, b, ks, z, zl, sw⟩ := e
  cases ins <;> unfold zstep <;> dsimp only
  all_goals first
    | exact zle_no _
    | exact Hk _ _ _ _
    | exact zle_zlI fun _ => Hk _ _ _ _
    | exact zle_zlJ fun _ => Hk _ _ _ _
    | exact zle_zlA fun _ => Hk _ _ _ _
    | exact zle_zI1 fun _ _ => Hk _ _ _ _
    | exact zle_zI2 fun _ _ _ => Hk _ _ _ _
    | exact zle_zI2 fun _ _ _ => zle_if (zle_no _) (Hk _ _ _ _)
    | exact zle_zJ1 fun _ _ => Hk _ _ _ _
    | exact zle_zJ2 fun _ _ _ => Hk _ _ _ _
    | exact zle_zJ2 fun _ _ _ => zle_if (zle_no _) (Hk _ _ _ _)
    | exact zle_zJI fun _ _ _ => Hk _ _ _ _
    | exact zle_zV1 fun _ _ => Hk _ _ _ _
    | exact zle_zV2 (fun _ _ _ => Hk _ _ _ _) (fun _ _ => Hk _ _ _ _)
    | exact zle_zN1 (fun _ => Hk _ _ _ _) (fun _ => Hk _ _ _ _)
    | exact zle_zAs fun _ _ => Hk _ _ _ _
    | exact zle_zI1 fun _ _ => zle_zswi (fun _ => Hk _ _ _ _) _
    | exact zle_zIA fun _ _ _ => zle_zar fun _ _ => zle_zif (Hk _ _ _ _)
    | exact zle_zIA fun _ _ _ => zle_zar2 (fun _ => zle_zif (Hk _ _ _ _)) (fun _ => zle_zif (Hk _ _ _ _))
    | exact zle_zIA fun _ _ _ => zle_zif (zle_zar fun _ _ => zle_zif (zle_zrf fun _ => Hk _ _ _ _))
    | exact zle_zVA fun _ _ _ _ => zle_zar fun _ _ => zle_zif (Hk _ _ _ _)
    | exact zle_zVA fun _ _ _ _ => zle_zar2 (fun _ => zle_zif (Hk _ _ _ _)) (fun _ => zle_zif (zle_zif (Hk _ _ _ _)))
    | exact zle_zWA fun _ _ _ _ => zle_zar fun _ _ => zle_zif (Hk _ _ _ _)
    | exact zle_zQA fun _ _ _ _ => zle_zif (zle_zar fun _ _ => zle_zob fun _ => zle_zif (Hk _ _ _ _))
    | exact zle_zA1 fun _ _ => zle_zal fun _ => Hk _ _ _ _
    | exact zle_zif (Hk _ _ _ _)
    | exact zle_zI1 fun _ _ => zle_zif (zle_zif (Hk _ _ _ _))
    | exact zle_zA1 fun _ _ => zle_zar fun _ _ => Hk _ _ _ _
    | (refine zle_zI1 fun _ _ => ?_; split <;> exact zle_if (Hk _ _ _ _) (Hk _ _ _ _))
    | (refine zle_zI2 fun _ _ _ => ?_; split <;> exact zle_if (Hk _ _ _ _) (Hk _ _ _ _))
    | (split <;> first | exact Hk _ _ _ _ | exact zle_zif (Hk _ _ _ _))
    | (refine zle_zA1 fun _ _ => zle_zob fun _ => ?_; split <;> first | exact Hk _ _ _ _ | exact zle_zrf fun _ => Hk _ _ _ _)
    | (refine zle_zPut fun _ _ _ => zle_zob fun _ => ?_; split <;> first | exact Hk _ _ _ _ | exact zle_no _)
    | (split
       · exact zle_zinvS HS fun _ _ => Hk _ _ _ _
       · refine zle_zif ?_
         split <;> first
           | exact zle_zI2 fun _ _ _ => zle_zif (Hk _ _ _ _)
           | exact zle_zI1 fun _ _ => zle_zif (Hk _ _ _ _)
           | exact zle_zCp fun _ _ _ _ _ _ => zle_zif (zle_zar fun _ _ => zle_zar fun _ _ => zle_zif (zle_zif (Hk _ _ _ _)))
           | exact zle_no _)
    | (split
       · exact zle_zinvV HS fun _ _ => Hk _ _ _ _
       · refine zle_zif ?_
         split <;> first
           | exact zle_zSt fun _ _ => zle_zif (zle_zif (Hk _ _ _ _))
           | exact zle_zSc fun _ _ _ => zle_zif (zle_zif (zle_zif (Hk _ _ _ _)))
           | exact zle_zA1 fun _ _ => zle_zif (zle_zar fun _ _ => Hk _ _ _ _)
           | exact zle_no _)
    | (split
       · exact zle_zinvV HS fun _ _ => Hk _ _ _ _
       · exact zle_zif (zle_zA1 fun _ _ => zle_zif (Hk _ _ _ _)))
    | exact zle_rf _
theorem zle_zx {G : Nat → zM} {S S' : zO} {D j : Nat} {M : zM} (HS : ∀ D j pc L st h, zle (S D j pc L st h) (S' D j pc L st h)) : ∀ (f pc : Nat) (L : zL) (st : List Value) (h : zH), zle (zx G S D j M f pc L st h) (zx G S' D j M f pc L st h) := by
  intro f
  induction f with
  | zero => intro pc L st h; exact zle_no _
  | succ f ih =>
    intro pc L st h
    unfold zx
    split
    · exact zle_no _
    · refine zle_zstep HS fun pc' L' st' h' => ?_
      split
      · exact HS _ _ _ _ _ _
      · exact ih _ _ _ _
theorem zle_po {x y : Option zR} (h : zle x y) : Lean.Order.PartialOrder.rel x y := by
  cases x with
  | none => exact Lean.Order.FlatOrder.rel.bot
  | some r => rw [h r rfl]; exact Lean.Order.FlatOrder.rel.refl
theorem zle_of {x y : Option zR} (h : Lean.Order.PartialOrder.rel x y) : zle x y := by
  intro r hr
  subst hr
  cases h
  rfl
theorem zF_mono (G : Nat → zM) : Lean.Order.monotone (zF G) := by
  intro S S' h D j pc L st hp
  exact zle_po (zle_zx (fun D j pc L st hp => zle_of (h D j pc L st hp)) _ _ _ _ _)
/-- WHAT A METHOD ANSWERS, from any pc -/
noncomputable def zS (G : Nat → zM) : zO := Lean.Order.fix (zF G) (zF_mono G)
theorem zS_eq (G : Nat → zM) (D j pc : Nat) (L : zL) (st : List Value) (h : zH) : zS G D j pc L st h = zx G (zS G) D j (G j) 400 pc L st h := by
  have e := Lean.Order.fix_eq (zF_mono G)
  exact congrFun (congrFun (congrFun (congrFun (congrFun (congrFun e D) j) pc) L) st) h
theorem zS_ind (G : Nat → zM) (P : Nat → Nat → Nat → zL → List Value → zH → zR → Prop) (H : ∀ S : zO, (∀ D j pc L st h r, S D j pc L st h = some r → P D j pc L st h r) → ∀ D j pc L st h r, zx G S D j (G j) 400 pc L st h = some r → P D j pc L st h r) : ∀ D j pc L st h r, zS G D j pc L st h = some r → P D j pc L st h r := by
  refine Lean.Order.fix_induct (zF_mono G) (fun S => ∀ D j pc L st h r, S D j pc L st h = some r → P D j pc L st h r) ?_ (fun S hS => H S hS)
  refine Lean.Order.admissible_pi_apply (fun D (s : Nat → Nat → zL → List Value → zH → Option zR) => ∀ j pc L st h r, s j pc L st h = some r → P D j pc L st h r) fun D => ?_
  refine Lean.Order.admissible_pi_apply (fun j (s : Nat → zL → List Value → zH → Option zR) => ∀ pc L st h r, s pc L st h = some r → P D j pc L st h r) fun j => ?_
  refine Lean.Order.admissible_pi_apply (fun pc (s : zL → List Value → zH → Option zR) => ∀ L st h r, s L st h = some r → P D j pc L st h r) fun pc => ?_
  refine Lean.Order.admissible_pi_apply (fun L (s : List Value → zH → Option zR) => ∀ st h r, s st h = some r → P D j pc L st h r) fun L => ?_
  refine Lean.Order.admissible_pi_apply (fun st (s : zH → Option zR) => ∀ h r, s h = some r → P D j pc L st h r) fun st => ?_
  refine Lean.Order.admissible_pi_apply (fun h (s : Option zR) => ∀ r, s = some r → P D j pc L st h r) fun h => ?_
  exact Lean.Order.admissible_pi _ fun r => Lean.Order.Option.admissible_eq_some _ _
end
section
/-! ===== what a pure heap is in the machine's ===== -/
def zWE : MethodName := ⟨"BookBarge$Scanner", "wordEnd", "()I"⟩
/-- the tables' words, and two that follow from them: the abstract class's private method, on its heirs -/
def zlw : List Cond := lw_tbl ++ [Cond.selects RX6 zWE zWE, Cond.selects RX8 zWE zWE]
theorem z_selects_private {C : String} {y y2 : MethodName} {s : State} {args : Array Value} {n : Nat} (hy : y.cls ≠ "java/lang/invoke/MethodHandle" ∧ y.cls ≠ "java/lang/invoke/VarHandle") (hy2 : y2.cls = y.cls)
    (hins : (Cond.instantiable C n).before args s = true) (hpriv : (Cond.privateMethod y).before args s = true) (hinst : (Cond.instanceMethod y).before args s = true) (hsel2 : (Cond.selects C y2 y2).before args s = true) :
    (Cond.selects C y y).before args s = true := by
  obtain ⟨c, k, hc, hk, -, -, -, -⟩ := Cond.instantiable_spec hins
  obtain ⟨mk, methM, hnamed, hmethM, -, -⟩ := Cond.instanceMethod_spec hinst
  obtain ⟨c2, r2, m2, -, -, hn2, -, kP, hkP, hkPi⟩ := Cond.selects_spec hsel2
  have hfound : s.methodFound? y.cls y.name y.desc = some mk := State.methodFound?_of_named hnamed hy
  have hcls : mk.cls = m2.cls := Option.some.inj ((findClass_of_methodNamed hnamed).symm.trans (hy2 ▸ findClass_of_methodNamed hn2))
  have hsel : selectMethod {} s.vm c mk = .method mk := selectMethod_private hmethM (Cond.privateMethod_at hpriv mk methM hnamed hmethM)
  simp only [Cond.before, Cond.holds, Cond.value, hc, hfound, hnamed, hsel, hcls, hkP]
  simp; exact hkPi
theorem zlw_hts {s : State} {args : Array Value} (hts : ∀ w ∈ lw_tbl, w.before args s = true) : ∀ w ∈ zlw, w.before args s = true := by
  intro w hw
  rcases List.mem_append.mp hw with hw | hw
  · exact hts w hw
  · simp only [List.mem_cons, List.not_mem_nil, or_false] at hw
    rcases hw with rfl | rfl
    · exact z_selects_private (n := 7) (y2 := ⟨"BookBarge$Scanner", "skipBlanks", "()V"⟩) ⟨by decide +kernel, by decide +kernel⟩ rfl (hts _ (List.mem_of_getElem? (i := 189) (by decide +kernel))) (hts _ (List.mem_of_getElem? (i := 620) (by decide +kernel))) (hts _ (List.mem_of_getElem? (i := 621) (by decide +kernel))) (hts _ (List.mem_of_getElem? (i := 602) (by decide +kernel)))
    · exact z_selects_private (n := 10) (y2 := ⟨"BookBarge$Scanner", "skipBlanks", "()V"⟩) ⟨by decide +kernel, by decide +kernel⟩ rfl (hts _ (List.mem_of_getElem? (i := 235) (by decide +kernel))) (hts _ (List.mem_of_getElem? (i := 620) (by decide +kernel))) (hts _ (List.mem_of_getElem? (i := 621) (by decide +kernel))) (hts _ (List.mem_of_getElem? (i := 603) (by decide +kernel)))
def zGT : List Cond := zlw.filter goodWord
theorem zGT_mem {w : Cond} (i : Nat) (h : zlw[i]? = some w) (hg : goodWord w = true) : w ∈ zGT := List.mem_filter.mpr ⟨List.mem_of_getElem? h, hg⟩
theorem zGT_hts {s : State} {args : Array Value} (hts : ∀ w ∈ lw_tbl, w.before args s = true) : ∀ w ∈ zGT, w.before args s = true := fun w hw => zlw_hts hts w (List.mem_filter.mp hw).1
def zTy (c : Nat) : Nat → FieldType := match c with
  | 0 => tyX0 | 1 => tyX1 | 2 => tyX2 | 3 => tyX3 | 4 => tyX4 | 5 => tyX5 | 6 => tyX6 | 7 => tyX7 | 8 => tyX8 | 9 => tyX10 | 10 => tyX11 | _ => tyX12
def zNf (c : Nat) : Nat := match vwCl[c]? with
  | some r => r.2.2
  | none => 0
def ztr (ad adK : Nat → Nat) (v : Value) : Value := match v with
  | .ref q => .ref (ad q)
  | .retAddr i => .ref (adK i)
  | v => v
theorem ztr_cat (ad adK : Nat → Nat) (v : Value) : (ztr ad adK v).category = v.category := by cases v <;> rfl
def zfv (ad : Nat → Nat) (I : Nat → Int32) (J : Nat → Int64) (rf : Nat → Option Nat) (ty : FieldType) (k : Nat) : Value := match ty with
  | .long => .long (J k)
  | .object _ => va_rf ((rf k).map ad)
  | .array _ => va_rf ((rf k).map ad)
  | _ => .int (I k)
def zfs (ad : Nat → Nat) (I : Nat → Int32) (J : Nat → Int64) (c : Nat) (rf : Nat → Option Nat) : List Value := (List.range (zNf c)).map (fun k => zfv ad I J rf (zTy c k) k)
def zce (cy : Nat → ClassId) (ad : Nat → Nat) (I : Nat → Int32) (J : Nat → Int64) (e : zE) : va_E := match e.1 with
  | 12 => .inl (cy 0, e.2.1, .inl I)
  | 13 => .inl (cy 1, e.2.1, .inl I)
  | 14 => .inl (cy 2, e.2.1, .inr (.inl J))
  | 15 => .inl (cy 3, e.2.1, .inl I)
  | 16 => .inl (cy 4, e.2.1, .inr (.inr (.inr (.inr (fun j => (e.2.2 j).map ad)))))
  | 17 => .inl (cy 5, e.2.1, .inr (.inr (.inr (.inr (fun j => (e.2.2 j).map ad)))))
  | c => .inr (c, zfs ad I J c e.2.2)
def zat (cy : Nat → ClassId) (ad : Nat → Nat) (h : zH) (i : Nat) : va_E := match h.1[i]? with
  | some e => zce cy ad (h.2.1 i) (h.2.2 i) e
  | none => .inr (0, [])
def zws (cy : Nat → ClassId) (ad : Nat → Nat) (h : zH) : va_W := (List.range h.1.length).map fun i => (ad i, zat cy ad h i)
theorem zws_len (cy : Nat → ClassId) (ad : Nat → Nat) (h : zH) : (zws cy ad h).length = h.1.length := by simp [zws]
theorem zws_get0 {cy : Nat → ClassId} {ad : Nat → Nat} {h : zH} {i : Nat} (hi : i < h.1.length) : (zws cy ad h)[i]? = some (ad i, zat cy ad h i) := by
  simp [zws, List.getElem?_map, List.getElem?_range hi]
theorem zws_get {cy : Nat → ClassId} {ad : Nat → Nat} {h : zH} {i : Nat} {e : zE} (he : h.1[i]? = some e) : (zws cy ad h)[i]? = some (ad i, zce cy ad (h.2.1 i) (h.2.2 i) e) := by
  have hi : i < h.1.length := (List.getElem?_eq_some_iff.mp he).1
  rw [zws_get0 hi]; simp [zat, he]
theorem zws_set {cy : Nat → ClassId} {ad : Nat → Nat} {h h' : zH} {i : Nat} {x : va_E} (hl : h'.1.length = h.1.length) (hx : zat cy ad h' i = x) (ho : ∀ j, j ≠ i → h'.1[j]? = h.1[j]? ∧ h'.2.1 j = h.2.1 j ∧ h'.2.2 j = h.2.2 j) : (zws cy ad h).set i (ad i, x) = zws cy ad h' := by
  apply List.ext_getElem?
  intro j
  by_cases hj : j < h.1.length
  · rw [zws_get0 (hl ▸ hj)]
    by_cases e : j = i
    · subst e
      rw [List.getElem?_set_self (by rw [zws_len]; exact hj), hx]
    · rw [List.getElem?_set_ne (fun q => e q.symm), zws_get0 hj]
      obtain ⟨e1, e2, e3⟩ := ho j e
      simp [zat, e1, e2, e3]
  · rw [List.getElem?_eq_none (by rw [List.length_set, zws_len]; omega), List.getElem?_eq_none (by rw [zws_len]; omega)]
/-- every reference is a cell's -/
def zwf (h : zH) : Prop := ∀ (i : Nat) (e : zE), h.1[i]? = some e → ∀ (k q : Nat), e.2.2 k = some q → q < h.1.length
def zad (ad : Nat → Nat) (n q : Nat) : Nat → Nat := fun i => if i = n then q else ad i
theorem zad_lt {ad : Nat → Nat} {n q i : Nat} (h : i < n) : zad ad n q i = ad i := by unfold zad; rw [if_neg (by omega)]
theorem zad_n {ad : Nat → Nat} {n q : Nat} : zad ad n q n = q := by unfold zad; rw [if_pos rfl]
theorem zmap_ext {ad ad' : Nat → Nat} {n : Nat} {r : Option Nat} (he : ∀ i, i < n → ad' i = ad i) (hr : ∀ q, r = some q → q < n) : r.map ad' = r.map ad := by
  cases r with
  | none => rfl
  | some q => simp [he q (hr q rfl)]
theorem zce_ext {cy : Nat → ClassId} {ad ad' : Nat → Nat} {I : Nat → Int32} {J : Nat → Int64} {e : zE} {n : Nat} (he : ∀ i, i < n → ad' i = ad i) (hr : ∀ k q, e.2.2 k = some q → q < n) : zce cy ad' I J e = zce cy ad I J e := by
  have hm : ∀ k, (e.2.2 k).map ad' = (e.2.2 k).map ad := fun k => zmap_ext he (hr k)
  have hv : ∀ ty k, zfv ad' I J e.2.2 ty k = zfv ad I J e.2.2 ty k := fun ty k => by
    unfold zfv; split <;> first | rfl | rw [hm k]
  unfold zce
  split <;> first | rfl | (simp only [hm]) | (simp only [zfs, hv])
theorem zat_ext {cy : Nat → ClassId} {ad ad' : Nat → Nat} {h : zH} (hw : zwf h) (he : ∀ i, i < h.1.length → ad' i = ad i) (i : Nat) : zat cy ad' h i = zat cy ad h i := by
  unfold zat; split
  · rename_i e he1
    exact zce_ext he (fun k q hq => hw i e he1 k q hq)
  · rfl
theorem zws_push {cy : Nat → ClassId} {ad : Nat → Nat} {h h' : zH} {q : Nat} {e : zE} {x : va_E} (hw : zwf h) (h1 : h'.1 = h.1 ++ [e]) (ho : ∀ j, j < h.1.length → h'.2.1 j = h.2.1 j ∧ h'.2.2 j = h.2.2 j) (hx : zce cy (zad ad h.1.length q) (h'.2.1 h.1.length) (h'.2.2 h.1.length) e = x) : zws cy ad h ++ [(q, x)] = zws cy (zad ad h.1.length q) h' := by
  have hl : h'.1.length = h.1.length + 1 := by rw [h1]; simp
  apply List.ext_getElem?
  intro j
  by_cases hj : j < h.1.length
  · rw [List.getElem?_append_left (by rw [zws_len]; exact hj), zws_get0 hj, zws_get0 (by omega), zad_lt hj]
    obtain ⟨e2, e3⟩ := ho j hj
    have e1 : h'.1[j]? = h.1[j]? := by rw [h1, List.getElem?_append_left hj]
    have : zat cy (zad ad h.1.length q) h' j = zat cy (zad ad h.1.length q) h j := by simp [zat, e1, e2, e3]
    rw [this, zat_ext hw (fun i hi => zad_lt hi)]
  · by_cases hj2 : j = h.1.length
    · subst hj2
      rw [zws_get0 (by omega), zad_n, List.getElem?_append_right (by rw [zws_len]; exact Nat.le_refl _), zws_len, Nat.sub_self]
      have e1 : h'.1[h.1.length]? = some e := by rw [h1]; simp
      simp [zat, e1, hx]
    · rw [List.getElem?_eq_none (by rw [List.length_append, zws_len]; simp; omega), List.getElem?_eq_none (by rw [zws_len]; omega)]
/-- slots of a cell, of all cells -/
def zsc (e : zE) : Nat := if e.1 < 12 then zNf e.1 else e.2.1
def zsz (sh : List zE) : Nat := (sh.map zsc).sum
theorem zsz_push (sh : List zE) (e : zE) : zsz (sh ++ [e]) = zsz sh + zsc e := by simp [zsz]
theorem zsz_sR (sh : List zE) (o k : Nat) (v : Option Nat) : zsz (zsR sh o k v) = zsz sh := by
  unfold zsR
  split
  · rename_i e he
    obtain ⟨hl, he2⟩ := List.getElem?_eq_some_iff.mp he
    have : (sh.set o (e.1, e.2.1, zup e.2.2 k v)).map zsc = sh.map zsc := by
      apply List.ext_getElem?
      intro j
      rw [List.getElem?_map, List.getElem?_map]
      by_cases hj : j = o
      · subst hj
        rw [List.getElem?_set_self hl, he]
        rfl
      · rw [List.getElem?_set_ne (fun q => hj q.symm)]
    unfold zsz; rw [this]
  · rfl
theorem zsR_len (sh : List zE) (o k : Nat) (v : Option Nat) : (zsR sh o k v).length = sh.length := by
  unfold zsR; split
  · simp
  · rfl
theorem zsR_get {sh : List zE} {o k : Nat} {v : Option Nat} {e : zE} (he : sh[o]? = some e) : (zsR sh o k v)[o]? = some (e.1, e.2.1, zup e.2.2 k v) := by
  unfold zsR; rw [he]
  exact List.getElem?_set_self (List.getElem?_eq_some_iff.mp he).1
theorem zsR_ne {sh : List zE} {o k j : Nat} {v : Option Nat} (hj : j ≠ o) : (zsR sh o k v)[j]? = sh[j]? := by
  unfold zsR; split
  · exact List.getElem?_set_ne (fun q => hj q.symm)
  · rfl
/-- a value that is a reference is a cell's -/
def zvv (n : Nat) (v : Value) : Prop := ∀ q, v = .ref q → q < n
theorem zvv_i {n : Nat} {x : Int32} : zvv n (.int x) := fun _ h => by cases h
theorem zvv_l {n : Nat} {x : Int64} : zvv n (.long x) := fun _ h => by cases h
theorem zvv_n {n : Nat} : zvv n .null := fun _ h => by cases h
theorem zvv_s {n i : Nat} : zvv n (.retAddr i) := fun _ h => by cases h
theorem zvv_le {n m : Nat} {v : Value} (h : zvv n v) (hm : n ≤ m) : zvv m v := fun q e => Nat.lt_of_lt_of_le (h q e) hm
theorem zvv_r {n q : Nat} (h : q < n) : zvv n (.ref q) := fun q' e => by cases e; exact h
theorem ztr_ext {ad ad' adK : Nat → Nat} {n : Nat} {v : Value} (he : ∀ i, i < n → ad' i = ad i) (hv : zvv n v) : ztr ad' adK v = ztr ad adK v := by
  cases v <;> first | rfl | exact congrArg Value.ref (he _ (hv _ rfl))
theorem zmtr_ext {ad ad' adK : Nat → Nat} {n : Nat} {st : List Value} (he : ∀ i, i < n → ad' i = ad i) (hv : ∀ v ∈ st, zvv n v) : st.map (ztr ad' adK) = st.map (ztr ad adK) :=
  List.map_congr_left fun v h => ztr_ext he (hv v h)
/-- locals -/
def zhas (ls : Array Slot) (nL : Nat) (ad adK : Nat → Nat) (L : zL) : Prop := ls.size = nL ∧ lv_wf ls ∧ ∀ (i : Nat) (v : Value), L[i]? = some (some v) → ls[i]? = some (.val (ztr ad adK v))
def zpl (ad adK : Nat → Nat) : Nat → zL → List (Nat × Value)
  | _, [] => []
  | i, none :: r => zpl ad adK (i + 1) r
  | i, some v :: r => (i, ztr ad adK v) :: zpl ad adK (i + 1) r
theorem zpl_mem {ad adK : Nat → Nat} : ∀ (L : zL) (n : Nat) (q : Nat × Value), q ∈ zpl ad adK n L → ∃ i v, q = (n + i, ztr ad adK v) ∧ L[i]? = some (some v)
  | [], _, _, h => by cases h
  | none :: r, n, q, h => by
    obtain ⟨i, v, e1, e2⟩ := zpl_mem r (n + 1) q h
    exact ⟨i + 1, v, by rw [e1]; congr 1; omega, by simpa using e2⟩
  | some w :: r, n, q, h => by
    rcases List.mem_cons.mp h with rfl | h
    · exact ⟨0, w, rfl, rfl⟩
    · obtain ⟨i, v, e1, e2⟩ := zpl_mem r (n + 1) q h
      exact ⟨i + 1, v, by rw [e1]; congr 1; omega, by simpa using e2⟩
theorem zpl_in {ad adK : Nat → Nat} : ∀ (L : zL) (n i : Nat) (v : Value), L[i]? = some (some v) → (n + i, ztr ad adK v) ∈ zpl ad adK n L
  | [], _, i, _, h => by simp at h
  | none :: r, n, 0, _, h => by simp at h
  | none :: r, n, i + 1, v, h => by
    have := zpl_in (ad := ad) (adK := adK) r (n + 1) i v (by simpa using h)
    rw [show n + (i + 1) = n + 1 + i by omega]; exact this
  | some w :: r, n, 0, v, h => by
    have : w = v := by simpa using h
    subst this
    exact List.mem_cons_self
  | some w :: r, n, i + 1, v, h => by
    have := zpl_in (ad := ad) (adK := adK) r (n + 1) i v (by simpa using h)
    rw [show n + (i + 1) = n + 1 + i by omega]; exact List.mem_cons_of_mem _ this
theorem zhas_lv {ls : Array Slot} {nL : Nat} {ad adK : Nat → Nat} {L : zL} (h : zhas ls nL ad adK L) : lv_has ls nL (zpl ad adK 0 L) := by
  refine ⟨h.1, h.2.1, fun q hq => ?_⟩
  obtain ⟨i, v, e1, e2⟩ := zpl_mem L 0 q hq
  subst e1
  simpa using h.2.2 i v e2
theorem zkill_get {L : zL} {i j : Nat} {v : Value} (h : (zkill L i)[j]? = some (some v)) : L[j]? = some (some v) ∧ ¬ (j + 1 = i ∧ v.category = 2) := by
  cases i with
  | zero => exact ⟨h, fun q => by omega⟩
  | succ i =>
    unfold zkill at h
    dsimp only at h
    split at h
    · by_cases e : j = i
      · subst e
        by_cases hl : j < L.length
        · rw [List.getElem?_set_self hl] at h; cases h
        · rw [List.getElem?_eq_none (by simp; omega)] at h; cases h
      · rw [List.getElem?_set_ne (fun q => e q.symm)] at h
        exact ⟨h, fun q => e (by omega)⟩
    · by_cases e : j = i
      · subst e
        by_cases hl : j < L.length
        · rw [List.getElem?_set_self hl] at h; cases h
        · rw [List.getElem?_eq_none (by simp; omega)] at h; cases h
      · rw [List.getElem?_set_ne (fun q => e q.symm)] at h
        exact ⟨h, fun q => e (by omega)⟩
    · rename_i n1 n2
      refine ⟨h, fun q => ?_⟩
      have e : j = i := by omega
      subst e
      cases v <;> first | exact n1 _ h | exact n2 _ h | (exact absurd q.2 (by simp [Value.category]))
theorem zhas_st1 {ls' : Array Slot} {nL : Nat} {ad adK : Nat → Nat} {L : zL} {i : Nat} {v : Value} (h : lv_has ls' nL ((i, ztr ad adK v) :: (zpl ad adK 0 L).filter (fun q => !(q.1 == i) && !(q.1 + 1 == i && q.2.category == 2)))) : zhas ls' nL ad adK (zst1 L i v) := by
  refine ⟨h.1, h.2.1, fun j w hj => ?_⟩
  unfold zst1 at hj
  by_cases e : j = i
  · subst e
    by_cases hl : j < (zkill L j).length
    · rw [List.getElem?_set_self hl] at hj
      cases hj
      exact h.2.2 _ List.mem_cons_self
    · rw [List.getElem?_eq_none (by simp; omega)] at hj; cases hj
  · rw [List.getElem?_set_ne (fun q => e q.symm)] at hj
    obtain ⟨h1, h2⟩ := zkill_get hj
    have hm := zpl_in (ad := ad) (adK := adK) L 0 j w h1
    rw [Nat.zero_add] at hm
    refine h.2.2 (j, ztr ad adK w) (List.mem_cons_of_mem _ (List.mem_filter.mpr ⟨hm, ?_⟩))
    simp only [Bool.and_eq_true, Bool.not_eq_true', beq_eq_false_iff_ne, ne_eq, Bool.and_eq_false_iff, ztr_cat]
    refine ⟨e, ?_⟩
    by_cases c : j + 1 = i
    · exact Or.inr (fun q => h2 ⟨c, q⟩)
    · exact Or.inl c
theorem zhas_st2 {ls' : Array Slot} {nL : Nat} {ad adK : Nat → Nat} {L : zL} {i : Nat} {v : Value} (h : lv_has ls' nL ((i, ztr ad adK v) :: (zpl ad adK 0 L).filter (fun q => !(q.1 == i) && (!(q.1 == i + 1) && !(q.1 + 1 == i && q.2.category == 2))))) : zhas ls' nL ad adK (zst2 L i v) := by
  refine ⟨h.1, h.2.1, fun j w hj => ?_⟩
  unfold zst2 at hj
  by_cases e1 : j = i + 1
  · subst e1
    by_cases hl : i + 1 < ((zkill L i).set i (some v)).length
    · rw [List.getElem?_set_self hl] at hj; cases hj
    · rw [List.getElem?_eq_none (by simp at hl ⊢; omega)] at hj; cases hj
  · rw [List.getElem?_set_ne (fun q => e1 q.symm)] at hj
    by_cases e : j = i
    · subst e
      by_cases hl : j < (zkill L j).length
      · rw [List.getElem?_set_self hl] at hj
        cases hj
        exact h.2.2 _ List.mem_cons_self
      · rw [List.getElem?_eq_none (by simp; omega)] at hj; cases hj
    · rw [List.getElem?_set_ne (fun q => e q.symm)] at hj
      obtain ⟨h1, h2⟩ := zkill_get hj
      have hm := zpl_in (ad := ad) (adK := adK) L 0 j w h1
      rw [Nat.zero_add] at hm
      refine h.2.2 (j, ztr ad adK w) (List.mem_cons_of_mem _ (List.mem_filter.mpr ⟨hm, ?_⟩))
      simp only [Bool.and_eq_true, Bool.not_eq_true', beq_eq_false_iff_ne, ne_eq, Bool.and_eq_false_iff, ztr_cat]
      refine ⟨e, e1, ?_⟩
      by_cases c : j + 1 = i
      · exact Or.inr (fun q => h2 ⟨c, q⟩)
      · exact Or.inl c
theorem zmask_get : ∀ (m : List Bool) (L : zL) (j : Nat) (v : Value), (zmask m L)[j]? = some (some v) → L[j]? = some (some v)
  | [], L, j, v, h => by cases L <;> simp [zmask] at h
  | _ :: _, [], j, v, h => by simp [zmask] at h
  | b :: m, w :: L, 0, v, h => by
    cases b <;> simp [zmask] at h ⊢
    exact h
  | b :: m, w :: L, j + 1, v, h => by
    have : (zmask m L)[j]? = some (some v) := by simpa [zmask] using h
    simpa using zmask_get m L j v this
theorem zhas_mask {ls : Array Slot} {nL : Nat} {ad adK : Nat → Nat} {L : zL} (m : List Bool) (h : zhas ls nL ad adK L) : zhas ls nL ad adK (zmask m L) := ⟨h.1, h.2.1, fun i v hv => h.2.2 i v (zmask_get m L i v hv)⟩
theorem zhas_ext {ls : Array Slot} {nL : Nat} {ad ad' adK : Nat → Nat} {L : zL} {n : Nat} (h : zhas ls nL ad adK L) (he : ∀ i, i < n → ad' i = ad i) (hv : ∀ (i : Nat) (v : Value), L[i]? = some (some v) → zvv n v) : zhas ls nL ad' adK L := ⟨h.1, h.2.1, fun i v hi => by rw [ztr_ext he (hv i v hi)]; exact h.2.2 i v hi⟩
end
section
/-! ===== a pure run is the machine's: what is said of a pc, and the rows that leave the heap ===== -/
def ztys (cy : Nat → ClassId) : List (ClassId × FieldType) := [(cy 0, .byte), (cy 1, .int), (cy 2, .long), (cy 3, .boolean), (cy 4, .object RX7), (cy 5, .object RX10)]
def zStr : List (String × Nat × String) := [(RX6, 61, "barge book stop reader wish hole"), (RX8, 64, "lend fetch shift"), (RX8, 143, "book weight shelf worth damp wish stop depth draught water loans day"), (RX8, 82, "if"), (RX8, 105, "not"), (RX8, 100, "and"), (RX8, 103, "or")]
def zSl : List Nat := zSb.map List.length
/-- links that are no words of the tables' list -/
def zNN (U : State) : Prop := (∀ (a : String) (i : Nat) (y : MethodName) (hst : String), Cond.methodLinkNest a i y hst ∈ lw_tbl → va_Nw (.methodLinkNest a i y hst) U) ∧ va_Nw (.castable "[I" "java/lang/Cloneable") U ∧ va_AO RX7 U ∧ va_AO RX10 U
/-- what is known of the machine's tables and constants in every activation -/
def zKK (Gd : va_G) (cy : Nat → ClassId) (adK adV : Nat → Nat) (A : Nat → Prop) (U : State) : Prop := va_K Gd vwCl (ztys cy) U ∧ zNN U ∧ vk_S 7 zSl zSb adK adV A U U.heap ∧ (∀ (i : Nat) (t : String × Nat × String), zStr[i]? = some t → vk_R t.1 t.2.1 t.2.2 (adK i) U) ∧ va_Z "java/lang/String" "COMPACT_STRINGS" "Z" (.int 1) A U U.heap ∧ va_Zq "jdk/internal/util/Preconditions" "SIOOBE_FORMATTER" "Ljava/util/function/BiFunction;" A U U.heap
/-- how an activation ends -/
def zQ (Gd : va_G) (cy : Nat → ClassId) (adK : Nat → Nat) (n0 : Nat) (ad0 : Nat → Nat) (A : Nat → Prop) (r : Option Value) (h : zH) : Array Value → State → Outcome → State → Prop := fun _ st oc t =>
  (∃ ad : Nat → Nat, (∀ i, i < n0 → ad i = ad0 i) ∧ oc = .returned (r.map (ztr ad adK)) ∧ va_P Gd vwCl (zws cy ad h) t.heap ∧ va_D A (zws cy ad h) ∧ zwf h ∧ (∀ v, r = some v → zvv h.1.length v)) ∧ va_F A st t
def zC (M : zM) (D : Nat) (p : Program) (R : Room) (s : State) (m : MethodId) (args : Array Value) (meth : Method) (c : Code) (A : Nat → Prop) (Gd : va_G) (cy : Nat → ClassId) (adK adV : Nat → Nat) : Prop :=
  p.tables.exec = Jvm.exec ∧ c.code = M.2.1 ∧ meth.sig.returnType = M.2.2.2.1 ∧ c.maxLocals = M.2.2.1 ∧ s.vm.findClass M.1.cls = some m.cls ∧ (∀ w ∈ zGT, w.before args s = true) ∧ meth.locks = false ∧ meth.name = M.1.name ∧ zKK Gd cy adK adV A s ∧ (∀ q, s.heap.size ≤ q → A q) ∧ D ≤ R.frames ∧ 64 * D ≤ R.locals
def zAt (G : Nat → zM) (l : Launch) (D j pc : Nat) (L : zL) (st : List Value) (h : zH) (res : zR) : Prop :=
  (h.1.length ≤ res.2.1.length ∧ zsz h.1 ≤ zsz res.2.1) ∧
  ∀ (p : Program) (e : Env) (R : Room) (s : State) (m : MethodId) (args : Array Value) (below : List Frame) (meth : Method) (c : Code) (A : Nat → Prop) (Gd : va_G) (cy : Nat → ClassId) (adK adV ad0 : Nat → Nat) (n0 z0 : Nat),
    zC (G j) D p R s m args meth c A Gd cy adK adV → n0 ≤ h.1.length → z0 ≤ zsz h.1 → R.cells = res.2.1.length - n0 → R.slots = zsz res.2.1 - z0 →
    ∀ (ad : Nat → Nat) (H : Heap) (locs : List Loc) (ls : Array Slot), (∀ i, i < n0 → ad i = ad0 i) → va_P Gd vwCl (zws cy ad h) H → va_D A (zws cy ad h) → va_S A s.heap H locs → zhas ls (G j).2.2.1 ad adK L → zwf h → (∀ (i : Nat) (v : Value), L[i]? = some (some v) → zvv h.1.length v) → (∀ v ∈ st, zvv h.1.length v) →
    W p l e R s m args below meth c H locs (h.1.length - n0) (zsz h.1 - z0) (MQ below (zQ Gd cy adK n0 ad0 A res.1 res.2) args s (res.2.1.length - n0) (zsz res.2.1 - z0) A) (F0 m pc ls (st.map (ztr ad adK)))
section zrows
variable {G : Nat → zM} {l : Launch} {D j : Nat} {L : zL} {st : List Value} {h : zH} {res : zR} {pc : Nat}
/-- a row that leaves locals and heap -/
theorem zAt_row {pc' : Nat} {st' : List Value} (hk : zAt G l D j pc' L st' h res) (hv : ∀ n, (∀ (i : Nat) (v : Value), L[i]? = some (some v) → zvv n v) → (∀ v ∈ st, zvv n v) → ∀ v ∈ st', zvv n v)
    (hrow : ∀ (p : Program) (e : Env) (R : Room) (s : State) (m : MethodId) (args : Array Value) (below : List Frame) (meth : Method) (c : Code) (H : Heap) (locs : List Loc) (cells slots : Nat) (Q : State → Prop) (ls : Array Slot) (ad adK : Nat → Nat), p.tables.exec = Jvm.exec → c.code = (G j).2.1 → s.vm.findClass (G j).1.cls = some m.cls → (∀ w ∈ zGT, w.before args s = true) → (∀ (i : Nat) (t : String × Nat × String), zStr[i]? = some t → vk_R t.1 t.2.1 t.2.2 (adK i) s) → (∀ (i : Nat) (v : Value), L[i]? = some (some v) → ls[i]? = some (.val (ztr ad adK v))) →
      W p l e R s m args below meth c H locs cells slots Q (F0 m pc' ls (st'.map (ztr ad adK))) → W p l e R s m args below meth c H locs cells slots Q (F0 m pc ls (st.map (ztr ad adK)))) : zAt G l D j pc L st h res := by
  refine ⟨hk.1, ?_⟩
  intro p e R s m args below meth c A Gd cy adK adV ad0 n0 z0 C hn hz hc hs ad H locs ls ha hP hD hS hl hw hvL hvS
  refine hrow p e R s m args below meth c H locs _ _ _ ls ad adK C.1 C.2.1 C.2.2.2.2.1 C.2.2.2.2.2.1 C.2.2.2.2.2.2.2.2.1.2.2.2.1 hl.2.2 ?_
  exact hk.2 p e R s m args below meth c A Gd cy adK adV ad0 n0 z0 C hn hz hc hs ad H locs ls ha hP hD hS hl hw hvL (hv _ hvL hvS)
/-- a row that stores a local of one slot -/
theorem zAt_st1 {pc' i : Nat} {st' : List Value} {v : Value} (hk : zAt G l D j pc' (zst1 L i v) st' h res) (hi : i < (G j).2.2.1) (hv : ∀ n, (∀ (i : Nat) (v : Value), L[i]? = some (some v) → zvv n v) → (∀ v ∈ st, zvv n v) → zvv n v ∧ ∀ v ∈ st', zvv n v)
    (hrow : ∀ (p : Program) (e : Env) (R : Room) (s : State) (m : MethodId) (args : Array Value) (below : List Frame) (meth : Method) (c : Code) (H : Heap) (locs : List Loc) (cells slots : Nat) (Q : State → Prop) (ls : Array Slot) (ad adK : Nat → Nat), p.tables.exec = Jvm.exec → c.code = (G j).2.1 → zhas ls (G j).2.2.1 ad adK L → lv_has ls (G j).2.2.1 (zpl ad adK 0 L) → i < (G j).2.2.1 →
      (∀ ls' : Array Slot, lv_has ls' (G j).2.2.1 ((i, ztr ad adK v) :: (zpl ad adK 0 L).filter (fun q => !(q.1 == i) && !(q.1 + 1 == i && q.2.category == 2))) → W p l e R s m args below meth c H locs cells slots Q (F0 m pc' ls' (st'.map (ztr ad adK)))) → W p l e R s m args below meth c H locs cells slots Q (F0 m pc ls (st.map (ztr ad adK)))) : zAt G l D j pc L st h res := by
  refine ⟨hk.1, ?_⟩
  intro p e R s m args below meth c A Gd cy adK adV ad0 n0 z0 C hn hz hc hs ad H locs ls ha hP hD hS hl hw hvL hvS
  refine hrow p e R s m args below meth c H locs _ _ _ ls ad adK C.1 C.2.1 hl (zhas_lv hl) hi fun ls' h' => ?_
  obtain ⟨hv1, hv2⟩ := hv _ hvL hvS
  refine hk.2 p e R s m args below meth c A Gd cy adK adV ad0 n0 z0 C hn hz hc hs ad H locs ls' ha hP hD hS (zhas_st1 h') hw ?_ hv2
  intro k w hkw
  unfold zst1 at hkw
  by_cases e1 : k = i
  · subst e1
    by_cases hl : k < (zkill L k).length
    · rw [List.getElem?_set_self hl] at hkw; cases hkw; exact hv1
    · rw [List.getElem?_eq_none (by simp; omega)] at hkw; cases hkw
  · rw [List.getElem?_set_ne (fun q => e1 q.symm)] at hkw
    exact hvL k w (zkill_get hkw).1
theorem zAt_st2 {pc' i : Nat} {st' : List Value} {v : Value} (hk : zAt G l D j pc' (zst2 L i v) st' h res) (hi : i + 1 < (G j).2.2.1) (hv : ∀ n, (∀ v ∈ st, zvv n v) → zvv n v ∧ ∀ v ∈ st', zvv n v)
    (hrow : ∀ (p : Program) (e : Env) (R : Room) (s : State) (m : MethodId) (args : Array Value) (below : List Frame) (meth : Method) (c : Code) (H : Heap) (locs : List Loc) (cells slots : Nat) (Q : State → Prop) (ls : Array Slot) (ad adK : Nat → Nat), p.tables.exec = Jvm.exec → c.code = (G j).2.1 → lv_has ls (G j).2.2.1 (zpl ad adK 0 L) →
      (∀ ls' : Array Slot, lv_has ls' (G j).2.2.1 ((i, ztr ad adK v) :: (zpl ad adK 0 L).filter (fun q => !(q.1 == i) && (!(q.1 == i + 1) && !(q.1 + 1 == i && q.2.category == 2)))) → W p l e R s m args below meth c H locs cells slots Q (F0 m pc' ls' (st'.map (ztr ad adK)))) → W p l e R s m args below meth c H locs cells slots Q (F0 m pc ls (st.map (ztr ad adK)))) : zAt G l D j pc L st h res := by
  refine ⟨hk.1, ?_⟩
  intro p e R s m args below meth c A Gd cy adK adV ad0 n0 z0 C hn hz hc hs ad H locs ls ha hP hD hS hl hw hvL hvS
  refine hrow p e R s m args below meth c H locs _ _ _ ls ad adK C.1 C.2.1 (zhas_lv hl) fun ls' h' => ?_
  obtain ⟨hv1, hv2⟩ := hv _ hvS
  refine hk.2 p e R s m args below meth c A Gd cy adK adV ad0 n0 z0 C hn hz hc hs ad H locs ls' ha hP hD hS (zhas_st2 h') hw ?_ hv2
  intro k w hkw
  unfold zst2 at hkw
  by_cases e2 : k = i + 1
  · subst e2
    by_cases hl : i + 1 < ((zkill L i).set i (some v)).length
    · rw [List.getElem?_set_self hl] at hkw; cases hkw
    · rw [List.getElem?_eq_none (by simp at hl ⊢; omega)] at hkw; cases hkw
  · rw [List.getElem?_set_ne (fun q => e2 q.symm)] at hkw
    by_cases e1 : k = i
    · subst e1
      by_cases hl : k < (zkill L k).length
      · rw [List.getElem?_set_self hl] at hkw; cases hkw; exact hv1
      · rw [List.getElem?_eq_none (by simp; omega)] at hkw; cases hkw
    · rw [List.getElem?_set_ne (fun q => e1 q.symm)] at hkw
      exact hvL k w (zkill_get hkw).1
end zrows
/-! what a helper that answered has seen -/
theorem zi_zif {c : Bool} {x : Option zR} {r : zR} (h : zif c x = some r) : c = true ∧ x = some r := by
  cases c
  · cases h
  · exact ⟨rfl, h⟩
theorem zi_lI {L : zL} {i : Nat} {f : Int32 → Option zR} {r : zR} (h : zlI L i f = some r) : ∃ x, L[i]? = some (some (.int x)) ∧ f x = some r := by
  unfold zlI at h; split at h
  · rename_i x hx; exact ⟨x, hx, h⟩
  · cases h
theorem zi_lJ {L : zL} {i : Nat} {f : Int64 → Option zR} {r : zR} (h : zlJ L i f = some r) : ∃ x, L[i]? = some (some (.long x)) ∧ f x = some r := by
  unfold zlJ at h; split at h
  · rename_i x hx; exact ⟨x, hx, h⟩
  · cases h
theorem zi_lA {L : zL} {i : Nat} {f : Value → Option zR} {r : zR} (h : zlA L i f = some r) : ∃ x, L[i]? = some (some x) ∧ f x = some r ∧ ((∃ q, x = .ref q) ∨ x = .null ∨ ∃ q, x = .retAddr q) := by
  unfold zlA at h; split at h
  · rename_i x hx; exact ⟨_, hx, h, Or.inl ⟨_, rfl⟩⟩
  · rename_i hx; exact ⟨_, hx, h, Or.inr (Or.inl rfl)⟩
  · rename_i x hx; exact ⟨_, hx, h, Or.inr (Or.inr ⟨_, rfl⟩)⟩
  · cases h
theorem zi_I1 {st : List Value} {f : Int32 → List Value → Option zR} {r : zR} (h : zI1 st f = some r) : ∃ x t, st = .int x :: t ∧ f x t = some r := by
  unfold zI1 at h; split at h
  · exact ⟨_, _, rfl, h⟩
  · cases h
theorem zi_I2 {st : List Value} {f : Int32 → Int32 → List Value → Option zR} {r : zR} (h : zI2 st f = some r) : ∃ x y t, st = .int y :: .int x :: t ∧ f x y t = some r := by
  unfold zI2 at h; split at h
  · exact ⟨_, _, _, rfl, h⟩
  · cases h
theorem zi_J1 {st : List Value} {f : Int64 → List Value → Option zR} {r : zR} (h : zJ1 st f = some r) : ∃ x t, st = .long x :: t ∧ f x t = some r := by
  unfold zJ1 at h; split at h
  · exact ⟨_, _, rfl, h⟩
  · cases h
theorem zi_J2 {st : List Value} {f : Int64 → Int64 → List Value → Option zR} {r : zR} (h : zJ2 st f = some r) : ∃ x y t, st = .long y :: .long x :: t ∧ f x y t = some r := by
  unfold zJ2 at h; split at h
  · exact ⟨_, _, _, rfl, h⟩
  · cases h
theorem zi_JI {st : List Value} {f : Int64 → Int32 → List Value → Option zR} {r : zR} (h : zJI st f = some r) : ∃ x y t, st = .int y :: .long x :: t ∧ f x y t = some r := by
  unfold zJI at h; split at h
  · exact ⟨_, _, _, rfl, h⟩
  · cases h
theorem zi_A1 {st : List Value} {f : Nat → List Value → Option zR} {r : zR} (h : zA1 st f = some r) : ∃ x t, st = .ref x :: t ∧ f x t = some r := by
  unfold zA1 at h; split at h
  · exact ⟨_, _, rfl, h⟩
  · cases h
theorem zi_IA {st : List Value} {f : Nat → Int32 → List Value → Option zR} {r : zR} (h : zIA st f = some r) : ∃ a i t, st = .int i :: .ref a :: t ∧ f a i t = some r := by
  unfold zIA at h; split at h
  · exact ⟨_, _, _, rfl, h⟩
  · cases h
theorem zi_V1 {st : List Value} {f : Value → List Value → Option zR} {r : zR} (h : zV1 st f = some r) : ∃ v t, st = v :: t ∧ v.category = 1 ∧ f v t = some r := by
  cases st with
  | nil => cases h
  | cons v t => cases v <;> first | exact ⟨_, _, rfl, rfl, h⟩ | (cases h; done)
theorem zi_V2 {st : List Value} {f : Value → Value → List Value → Option zR} {g : Value → List Value → Option zR} {r : zR} (h : zV2 st f g = some r) : (∃ v w t, st = v :: w :: t ∧ v.category = 1 ∧ w.category = 1 ∧ f v w t = some r) ∨ ∃ v t, st = v :: t ∧ v.category = 2 ∧ g v t = some r := by
  unfold zV2 at h; split at h
  · exact Or.inr ⟨_, _, rfl, rfl, h⟩
  · exact Or.inl ⟨_, _, _, rfl, rfl, rfl, h⟩
  · exact Or.inl ⟨_, _, _, rfl, rfl, rfl, h⟩
  · cases h
theorem zi_N1 {st : List Value} {f g : List Value → Option zR} {r : zR} (h : zN1 st f g = some r) : (∃ t, st = .null :: t ∧ f t = some r) ∨ ∃ q t, st = .ref q :: t ∧ g t = some r := by
  unfold zN1 at h; split at h
  · exact Or.inl ⟨_, rfl, h⟩
  · exact Or.inr ⟨_, _, rfl, h⟩
  · cases h
theorem zi_As {st : List Value} {f : Value → List Value → Option zR} {r : zR} (h : zAs st f = some r) : ∃ v t, st = v :: t ∧ ((∃ q, v = .ref q) ∨ v = .null) ∧ f v t = some r := by
  unfold zAs at h; split at h
  · exact ⟨_, _, rfl, Or.inl ⟨_, rfl⟩, h⟩
  · exact ⟨_, _, rfl, Or.inr rfl, h⟩
  · cases h
theorem zi_VA {st : List Value} {f : Nat → Int32 → Int32 → List Value → Option zR} {r : zR} (h : zVA st f = some r) : ∃ a i x t, st = .int x :: .int i :: .ref a :: t ∧ f a i x t = some r := by
  unfold zVA at h; split at h
  · exact ⟨_, _, _, _, rfl, h⟩
  · cases h
theorem zi_WA {st : List Value} {f : Nat → Int32 → Int64 → List Value → Option zR} {r : zR} (h : zWA st f = some r) : ∃ a i x t, st = .long x :: .int i :: .ref a :: t ∧ f a i x t = some r := by
  unfold zWA at h; split at h
  · exact ⟨_, _, _, _, rfl, h⟩
  · cases h
theorem zi_QA {st : List Value} {f : Nat → Int32 → Nat → List Value → Option zR} {r : zR} (h : zQA st f = some r) : ∃ a i x t, st = .ref x :: .int i :: .ref a :: t ∧ f a i x t = some r := by
  unfold zQA at h; split at h
  · exact ⟨_, _, _, _, rfl, h⟩
  · cases h
theorem zi_Cp {st : List Value} {f : Nat → Int32 → Nat → Int32 → Int32 → List Value → Option zR} {r : zR} (h : zCp st f = some r) : ∃ a sp d dp n t, st = .int n :: .int dp :: .ref d :: .int sp :: .ref a :: t ∧ f a sp d dp n t = some r := by
  unfold zCp at h; split at h
  · exact ⟨_, _, _, _, _, _, rfl, h⟩
  · cases h
theorem zi_St {st : List Value} {f : Nat → List Value → Option zR} {r : zR} (h : zSt st f = some r) : ∃ x t, st = .retAddr x :: t ∧ f x t = some r := by
  unfold zSt at h; split at h
  · exact ⟨_, _, rfl, h⟩
  · cases h
theorem zi_Sc {st : List Value} {f : Nat → Int32 → List Value → Option zR} {r : zR} (h : zSc st f = some r) : ∃ x i t, st = .int i :: .retAddr x :: t ∧ f x i t = some r := by
  unfold zSc at h; split at h
  · exact ⟨_, _, _, rfl, h⟩
  · cases h
theorem zi_ob {h : zH} {a : Nat} {ks : List Nat} {f : (Nat → Option Nat) → Option zR} {r : zR} (hh : zob h a ks f = some r) : ∃ e, h.1[a]? = some e ∧ zhas1 ks e.1 = true ∧ f e.2.2 = some r := by
  unfold zob at hh; split at hh
  · rename_i e he
    split at hh
    · rename_i hc; exact ⟨e, he, hc, hh⟩
    · cases hh
  · cases hh
theorem zi_ar {h : zH} {a kd : Nat} {f : Nat → (Nat → Option Nat) → Option zR} {r : zR} (hh : zar h a kd f = some r) : ∃ n rf, h.1[a]? = some (kd, n, rf) ∧ f n rf = some r := by
  unfold zar at hh; split at hh
  · rename_i e he
    split at hh
    · rename_i hc
      have : e.1 = kd := Nat.eq_of_beq_eq_true hc
      exact ⟨e.2.1, e.2.2, by rw [he, ← this], hh⟩
    · cases hh
  · cases hh
theorem zi_ar2 {h : zH} {a k1 k2 : Nat} {f g : Nat → Option zR} {r : zR} (hh : zar2 h a k1 k2 f g = some r) : ∃ n rf, (h.1[a]? = some (k1, n, rf) ∧ f n = some r) ∨ (h.1[a]? = some (k2, n, rf) ∧ g n = some r) := by
  unfold zar2 at hh; split at hh
  · rename_i e he
    split at hh
    · rename_i hc
      have : e.1 = k1 := Nat.eq_of_beq_eq_true hc
      exact ⟨e.2.1, e.2.2, Or.inl ⟨by rw [he, ← this], hh⟩⟩
    · split at hh
      · rename_i hc
        have : e.1 = k2 := Nat.eq_of_beq_eq_true hc
        exact ⟨e.2.1, e.2.2, Or.inr ⟨by rw [he, ← this], hh⟩⟩
      · cases hh
  · cases hh
theorem zi_al {h : zH} {a : Nat} {f : Nat → Option zR} {r : zR} (hh : zal h a f = some r) : ∃ e, h.1[a]? = some e ∧ 12 ≤ e.1 ∧ f e.2.1 = some r := by
  unfold zal at hh; split at hh
  · rename_i e he
    split at hh
    · rename_i hc; exact ⟨e, he, Nat.le_of_ble_eq_true hc, hh⟩
    · cases hh
  · cases hh
theorem zi_rf {r0 : Option Nat} {f : Value → Option zR} {r : zR} (hh : zrf r0 f = some r) : (∃ q, r0 = some q ∧ f (.ref q) = some r) ∨ (r0 = none ∧ f .null = some r) := by
  cases r0 with
  | none => exact Or.inr ⟨rfl, hh⟩
  | some q => exact Or.inl ⟨q, rfl, hh⟩
theorem zin_vp {i : Int32} {n : Nat} (h : zin i n = true) : vp_in i n := by
  unfold zin at h
  simp only [Bool.and_eq_true, decide_eq_true_eq] at h
  exact vp_in_iff.mpr h
end
section
/-! ===== what an instruction's own numbers must be ===== -/
def zln (i : Instr) : Nat := match i with
  | .bipush _ => 2 | .sipush _ => 3 | .ldc _ => 2 | .ldc_w _ => 3 | .ldc2_w _ => 3
  | .iload _ => 2 | .lload _ => 2 | .aload _ => 2 | .istore _ => 2 | .lstore _ => 2 | .astore _ => 2 | .iinc _ _ => 3
  | .goto _ => 3 | .ifCond _ _ => 3 | .if_icmp _ _ => 3 | .ifnull _ => 3 | .ifnonnull _ => 3
  | .getfield _ => 3 | .putfield _ => 3 | .new _ => 3 | .newarray _ => 2 | .anewarray _ => 3 | .checkcast _ => 3
  | .invokestatic _ => 3 | .invokevirtual _ => 3 | .invokespecial _ => 3
  | _ => 1
/-- a callee as the tables have it -/
def zcal (M : zM) (n : Nat) : Prop := Cond.code M.1 M.2.1 M.2.2.1 M.2.2.2.1 ∈ zGT ∧ Cond.initialized M.1.cls ∈ zGT ∧ (M.1.cls ≠ "java/lang/invoke/MethodHandle" ∧ M.1.cls ≠ "java/lang/invoke/VarHandle" ∧ (parseMethodDescriptor M.1.desc).map (fun d => d.parameters.length) = some n)
/-- a field of kind c at place k, of sort t, under the link i -/
def zfl (own : String) (i k t c : Nat) : Prop := ∃ (C : String) (T : u_T) (N : Nat) (ref : String), vwCl[c]? = some (C, T, N) ∧ k < N ∧ Cond.fieldLink own i ref (T k).2.1 (T k).2.2.1 ∈ zGT ∧ (ref = (T k).1 ∨ Cond.sameField ref (T k).1 (T k).2.1 (T k).2.2.1 ∈ zGT) ∧
  (match t with
   | 1 => zTy c k = .long
   | 2 => (∃ n, zTy c k = .object n) ∨ ∃ n, zTy c k = .array n
   | 3 => zTy c k = .boolean
   | _ => zTy c k = .int)
def zfp (own : String) (nm : String) (k z c : Nat) : Prop := ∃ (C : String) (T : u_T) (N : Nat), vwCl[c]? = some (C, T, N) ∧ ((T k).2.2.2 = false ∨ ((T k).2.2.2 = true ∧ nm = "<init>" ∧ (T k).1 = own))
def zsk (pc : Nat) (d lo hi : Int) (offs : Array Int) (a : Nat) (sw : List (Int32 × Nat)) : Prop := (pc : Int) + d = (a : Int) ∧ hi = lo + (sw.length : Int) - 1 ∧ ∀ (i : Nat) (q : Int32 × Nat), sw[i]? = some q → q.1.toInt = lo + (i : Int) ∧ ∃ o, offs[i]? = some o ∧ (pc : Int) + o = (q.2 : Int)
/-- the links -/
def zlk (G : Nat → zM) (M : zM) (e : zI) : Prop := match e with
  | (pc, ins, a, b, ks, z, zl, sw) => match ins with
    | .iconst n => Int32.ofInt n = z
    | .bipush n => (Int8.ofInt n).toInt32 = z
    | .sipush n => (Int16.ofInt n).toInt32 = z
    | .lconst n => Int64.ofNat n.val = zl
    | .iinc i n => Int32.ofInt n = z ∧ i < M.2.2.1
    | .istore i => i < M.2.2.1
    | .istore_n i => i.val < M.2.2.1
    | .astore i => i < M.2.2.1
    | .astore_n i => i.val < M.2.2.1
    | .lstore i => i + 1 < M.2.2.1
    | .lstore_n i => i.val + 1 < M.2.2.1
    | .ldc i => match b with
      | 0 => Cond.constant M.1.cls i z ∈ zGT
      | _ => ∃ t, zStr[a]? = some (M.1.cls, i, t)
    | .ldc_w i => Cond.constant M.1.cls i z ∈ zGT
    | .ldc2_w i => Cond.constantLong M.1.cls i zl ∈ zGT
    | .goto o => (pc : Int) + o = (a : Int)
    | .ifCond _ o => (pc : Int) + o = (a : Int)
    | .if_icmp _ o => (pc : Int) + o = (a : Int)
    | .ifnull o => (pc : Int) + o = (a : Int)
    | .ifnonnull o => (pc : Int) + o = (a : Int)
    | .tableswitch d lo hi offs => (∃ n, decode M.2.1 pc = .ok (.tableswitch d lo hi offs, n)) ∧ zsk pc d lo hi offs a sw
    | .getfield i => ∀ c ∈ ks, zfl M.1.cls i a b c
    | .putfield i => (∀ c ∈ ks, zfl M.1.cls i a b c) ∧ ∀ c ∈ ks, zfp M.1.cls M.1.name a 0 c
    | .new i => ∃ C T N, vwCl[a]? = some (C, T, N) ∧ Cond.classLink M.1.cls i C ∈ zGT ∧ Cond.instantiable C N ∈ zGT ∧ Cond.initialized C ∈ zGT
    | .newarray t => (a = 12 ∧ t = .byte) ∨ (a = 13 ∧ t = .int) ∨ (a = 14 ∧ t = .long) ∨ (a = 15 ∧ t = .boolean)
    | .anewarray i => (a = 16 ∧ Cond.classLink M.1.cls i RX7 ∈ zGT) ∨ (a = 17 ∧ Cond.classLink M.1.cls i RX10 ∈ zGT)
    | .checkcast i => Cond.classLink M.1.cls i "[I" ∈ zGT
    | .invokestatic i => if a < 1000 then Cond.methodLink M.1.cls i (G a).1 ∈ zGT ∧ Cond.static (G a).1 ∈ zGT ∧ zcal (G a) b ∧ (G a).2.2.1 ≤ 45 ∧ plainName (G a).1.cls = true
      else (a = 1000 ∧ Cond.methodLink M.1.cls i Lib.Math.max.name ∈ zGT) ∨ (a = 1001 ∧ Cond.methodLink M.1.cls i Lib.Math.min.name ∈ zGT) ∨ (a = 1002 ∧ Cond.methodLink M.1.cls i Lib.Math.abs.name ∈ zGT) ∨ (a = 1003 ∧ Cond.methodLink M.1.cls i arraycopyName ∈ zGT)
    | .invokevirtual i => if a < 1000 then (∀ c ∈ ks, ∃ r x, vwCl[c]? = some r ∧ Cond.methodLink M.1.cls i x ∈ zGT ∧ Cond.instanceMethod (G a).1 ∈ zGT ∧ Cond.selects r.1 x (G a).1 ∈ zGT ∧ ((x = (G a).1 ∧ b ≥ 1) ∨ ((G a).1 = ⟨(G a).1.cls, x.name, x.desc⟩ ∧ Cond.sameMethod x.cls (G a).1.cls x.name x.desc ∈ zGT))) ∧ zcal (G a) (b - 1) ∧ 1 ≤ b ∧ (G a).2.2.1 ≤ 45 ∧ plainName (G a).1.cls = true
      else (a = 1004 ∧ Cond.methodLink M.1.cls i yJ0_length_8abf5 ∈ zGT) ∨ (a = 1005 ∧ Cond.methodLink M.1.cls i yJ0_charAt_5068e ∈ zGT) ∨ (a = 1007 ∧ Cond.methodLink M.1.cls i ⟨"[I", "clone", "()Ljava/lang/Object;"⟩ ∈ zGT)
    | .invokespecial i => if a < 1000 then (G a).1.name = "<init>" ∧ (G a).2.2.2.1 = none ∧ (Cond.methodLink M.1.cls i (G a).1 ∈ zGT ∨ ∃ host, Cond.methodLinkNest M.1.cls i (G a).1 host ∈ lw_tbl) ∧ Cond.instanceMethod (G a).1 ∈ zGT ∧ zcal (G a) (b - 1) ∧ 1 ≤ b ∧ (G a).2.2.1 ≤ 45 ∧ plainName (G a).1.cls = true
      else Cond.methodLink M.1.cls i objectInit ∈ zGT
    | .ireturn => match b with
      | 3 => M.2.2.2.1 = some .boolean
      | _ => M.2.2.2.1 = some .int
    | .lreturn => M.2.2.2.1 = some .long
    | .areturn => (∃ n, M.2.2.2.1 = some (.object n)) ∨ ∃ n, M.2.2.2.1 = some (.array n)
    | .return_ => M.2.2.2.1 = none
    | _ => True
def zsw? (i : Instr) : Bool := match i with
  | .tableswitch _ _ _ _ => true
  | _ => false
def zok (G : Nat → zM) (M : zM) (e : zI) : Prop := (zsw? e.2.1 = true ∨ decode M.2.1 e.1 = .ok (e.2.1, zln e.2.1)) ∧ zlk G M e
section zstepA
variable {G : Nat → zM} {l : Launch} {S : zO} {D j : Nat} {k : zKt} {L : zL} {st : List Value} {h : zH} {res : zR}
theorem zvS_cons {n : Nat} {v : Value} {st : List Value} (h1 : zvv n v) (h : ∀ v ∈ st, zvv n v) : ∀ w ∈ v :: st, zvv n w := fun w hw => by
  rcases List.mem_cons.mp hw with rfl | hw
  · exact h1
  · exact h w hw
theorem zvS_tl {n : Nat} {v : Value} {st : List Value} (h : ∀ w ∈ v :: st, zvv n w) : ∀ w ∈ st, zvv n w := fun w hw => h w (List.mem_cons_of_mem _ hw)
theorem zvS_hd {n : Nat} {v : Value} {st : List Value} (h : ∀ w ∈ v :: st, zvv n w) : zvv n v := h v List.mem_cons_self
set_option maxHeartbeats 4000000 in
/-- constants, locals, arithmetic, stack, branches -/
theorem zstep_row (IHk : ∀ pc L st h r, k pc L st h = some r → zAt G l D j pc L st h r) {e : zI} (he : zok G (G j) e)
    (hns : match e.2.1 with
      | .getfield _ => False | .putfield _ => False | .iaload => False | .baload => False | .laload => False | .aaload => False | .iastore => False | .bastore => False | .lastore => False | .aastore => False | .arraylength => False | .new _ => False | .newarray _ => False | .anewarray _ => False | .checkcast _ => False
      | .invokestatic _ => False | .invokevirtual _ => False | .invokespecial _ => False | .ireturn => False | .lreturn => False | .areturn => False | .return_ => False | .tableswitch _ _ _ _ => False | _ => True)
    (hs : zstep G S D e k L st h = some res) : zAt G l D j e.1 L st h res := by
  obtain ⟨pc, ins, a, b, ks, z, zl, sw⟩ := e
  obtain ⟨hd, hlk⟩ := he
  cases ins <;> first | (exact absurd hns id; done) | skip
  all_goals (unfold zstep at hs; dsimp only at hs)
  all_goals first | (cases hs; done) | skip
  all_goals (replace hd := hd.resolve_left (by intro q; cases q); dsimp only [zln] at hd; dsimp only [zlk] at hlk)
  case aconst_null => exact zAt_row (IHk _ _ _ _ _ hs) (fun n _ h => zvS_cons zvv_n h) (fun p e R s m args below meth c H locs cells slots Q ls ad adK hx hb hown hts _ hl kk => lv_null hx hb hd kk)
  case iconst => exact zAt_row (IHk _ _ _ _ _ hs) (fun n _ h => zvS_cons zvv_i h) (fun p e R s m args below meth c H locs cells slots Q ls ad adK hx hb hown hts _ hl kk => lv_iconst hx hb hd hlk kk)
  case bipush => exact zAt_row (IHk _ _ _ _ _ hs) (fun n _ h => zvS_cons zvv_i h) (fun p e R s m args below meth c H locs cells slots Q ls ad adK hx hb hown hts _ hl kk => lv_bipush hx hb hd hlk kk)
  case sipush => exact zAt_row (IHk _ _ _ _ _ hs) (fun n _ h => zvS_cons zvv_i h) (fun p e R s m args below meth c H locs cells slots Q ls ad adK hx hb hown hts _ hl kk => lv_sipush hx hb hd hlk kk)
  case lconst => exact zAt_row (IHk _ _ _ _ _ hs) (fun n _ h => zvS_cons zvv_l h) (fun p e R s m args below meth c H locs cells slots Q ls ad adK hx hb hown hts _ hl kk => lv_lconst hx hb hd hlk kk)
  case ldc =>
    split at hs
    · exact zAt_row (IHk _ _ _ _ _ hs) (fun n _ h => zvS_cons zvv_i h) (fun p e R s m args below meth c H locs cells slots Q ls ad adK hx hb hown hts _ hl kk => lv_ldc hx hb hown (hts _ hlk) hd kk)
    · rename_i hb0
      obtain ⟨-, hs⟩ := zi_zif hs
      split at hlk
      · exact absurd rfl (hb0 ·)
      · obtain ⟨t, ht⟩ := hlk
        exact zAt_row (IHk _ _ _ _ _ hs) (fun n _ h => zvS_cons zvv_s h) (fun p e R s m args below meth c H locs cells slots Q ls ad adK hx hb hown hts hR hl kk => va_ldcS hx hb hown (hR _ _ ht) hd kk)
  case ldc_w => exact zAt_row (IHk _ _ _ _ _ hs) (fun n _ h => zvS_cons zvv_i h) (fun p e R s m args below meth c H locs cells slots Q ls ad adK hx hb hown hts _ hl kk => lv_ldcw hx hb hown (hts _ hlk) hd kk)
  case ldc2_w => exact zAt_row (IHk _ _ _ _ _ hs) (fun n _ h => zvS_cons zvv_l h) (fun p e R s m args below meth c H locs cells slots Q ls ad adK hx hb hown hts _ hl kk => lv_ldc2 hx hb hown (hts _ hlk) hd kk)
  case iload => obtain ⟨x, hx0, hs⟩ := zi_lI hs; exact zAt_row (IHk _ _ _ _ _ hs) (fun n _ h => zvS_cons zvv_i h) (fun p e R s m args below meth c H locs cells slots Q ls ad adK hx hb hown hts _ hl kk => lv_iload hx hb hd (hl _ _ hx0) kk)
  case iload_n => obtain ⟨x, hx0, hs⟩ := zi_lI hs; exact zAt_row (IHk _ _ _ _ _ hs) (fun n _ h => zvS_cons zvv_i h) (fun p e R s m args below meth c H locs cells slots Q ls ad adK hx hb hown hts _ hl kk => lv_iload_n hx hb hd rfl (hl _ _ hx0) kk)
  case lload => obtain ⟨x, hx0, hs⟩ := zi_lJ hs; exact zAt_row (IHk _ _ _ _ _ hs) (fun n _ h => zvS_cons zvv_l h) (fun p e R s m args below meth c H locs cells slots Q ls ad adK hx hb hown hts _ hl kk => lv_lload hx hb hd (hl _ _ hx0) kk)
  case lload_n => obtain ⟨x, hx0, hs⟩ := zi_lJ hs; exact zAt_row (IHk _ _ _ _ _ hs) (fun n _ h => zvS_cons zvv_l h) (fun p e R s m args below meth c H locs cells slots Q ls ad adK hx hb hown hts _ hl kk => lv_lload_n hx hb hd rfl (hl _ _ hx0) kk)
  case aload =>
    obtain ⟨x, hx0, hs, hq⟩ := zi_lA hs
    rcases hq with ⟨q, rfl⟩ | rfl | ⟨q, rfl⟩
    · exact zAt_row (IHk _ _ _ _ _ hs) (fun n hL h => zvS_cons (hL _ _ hx0) h) (fun p e R s m args below meth c H locs cells slots Q ls ad adK hx hb hown hts _ hl kk => lv_aload hx hb hd (hl _ _ hx0) kk)
    · exact zAt_row (IHk _ _ _ _ _ hs) (fun n hL h => zvS_cons zvv_n h) (fun p e R s m args below meth c H locs cells slots Q ls ad adK hx hb hown hts _ hl kk => lv_aloadN hx hb hd (hl _ _ hx0) kk)
    · exact zAt_row (IHk _ _ _ _ _ hs) (fun n hL h => zvS_cons zvv_s h) (fun p e R s m args below meth c H locs cells slots Q ls ad adK hx hb hown hts _ hl kk => lv_aload hx hb hd (hl _ _ hx0) kk)
  case aload_n =>
    obtain ⟨x, hx0, hs, hq⟩ := zi_lA hs
    rcases hq with ⟨q, rfl⟩ | rfl | ⟨q, rfl⟩
    · exact zAt_row (IHk _ _ _ _ _ hs) (fun n hL h => zvS_cons (hL _ _ hx0) h) (fun p e R s m args below meth c H locs cells slots Q ls ad adK hx hb hown hts _ hl kk => lv_aload_n hx hb hd rfl (hl _ _ hx0) kk)
    · exact zAt_row (IHk _ _ _ _ _ hs) (fun n hL h => zvS_cons zvv_n h) (fun p e R s m args below meth c H locs cells slots Q ls ad adK hx hb hown hts _ hl kk => lv_aload_nN hx hb hd rfl (hl _ _ hx0) kk)
    · exact zAt_row (IHk _ _ _ _ _ hs) (fun n hL h => zvS_cons zvv_s h) (fun p e R s m args below meth c H locs cells slots Q ls ad adK hx hb hown hts _ hl kk => lv_aload_n hx hb hd rfl (hl _ _ hx0) kk)
  case istore => obtain ⟨x, t, rfl, hs⟩ := zi_I1 hs; exact zAt_st1 (IHk _ _ _ _ _ hs) hlk (fun n _ h => ⟨zvv_i, zvS_tl h⟩) (fun p e R s m args below meth c H locs cells slots Q ls ad adK hx hb hh hl hi kk => lv_istore hx hb hd hl hi rfl kk)
  case istore_n => obtain ⟨x, t, rfl, hs⟩ := zi_I1 hs; exact zAt_st1 (IHk _ _ _ _ _ hs) hlk (fun n _ h => ⟨zvv_i, zvS_tl h⟩) (fun p e R s m args below meth c H locs cells slots Q ls ad adK hx hb hh hl hi kk => lv_istore_n hx hb hd rfl hl hi rfl kk)
  case lstore => obtain ⟨x, t, rfl, hs⟩ := zi_J1 hs; exact zAt_st2 (IHk _ _ _ _ _ hs) hlk (fun n h => ⟨zvv_l, zvS_tl h⟩) (fun p e R s m args below meth c H locs cells slots Q ls ad adK hx hb hl kk => lv_lstore hx hb hd hl hlk rfl kk)
  case lstore_n => obtain ⟨x, t, rfl, hs⟩ := zi_J1 hs; exact zAt_st2 (IHk _ _ _ _ _ hs) hlk (fun n h => ⟨zvv_l, zvS_tl h⟩) (fun p e R s m args below meth c H locs cells slots Q ls ad adK hx hb hl kk => lv_lstore_n hx hb hd rfl hl hlk rfl kk)
  case astore =>
    obtain ⟨x, t, rfl, hq, hs⟩ := zi_As hs
    rcases hq with ⟨q, rfl⟩ | rfl
    · exact zAt_st1 (IHk _ _ _ _ _ hs) hlk (fun n _ h => ⟨zvS_hd h, zvS_tl h⟩) (fun p e R s m args below meth c H locs cells slots Q ls ad adK hx hb hh hl hi kk => lv_astore hx hb hd hl hi rfl kk)
    · exact zAt_st1 (IHk _ _ _ _ _ hs) hlk (fun n _ h => ⟨zvS_hd h, zvS_tl h⟩) (fun p e R s m args below meth c H locs cells slots Q ls ad adK hx hb hh hl hi kk => lv_astoreN hx hb hd hl hi rfl kk)
  case astore_n =>
    obtain ⟨x, t, rfl, hq, hs⟩ := zi_As hs
    rcases hq with ⟨q, rfl⟩ | rfl
    · exact zAt_st1 (IHk _ _ _ _ _ hs) hlk (fun n _ h => ⟨zvS_hd h, zvS_tl h⟩) (fun p e R s m args below meth c H locs cells slots Q ls ad adK hx hb hh hl hi kk => lv_astore_n hx hb hd rfl hl hi rfl kk)
    · exact zAt_st1 (IHk _ _ _ _ _ hs) hlk (fun n _ h => ⟨zvS_hd h, zvS_tl h⟩) (fun p e R s m args below meth c H locs cells slots Q ls ad adK hx hb hh hl hi kk => lv_astore_nN hx hb hd rfl hl hi rfl kk)
  case iinc =>
    rename_i i0 n0
    obtain ⟨x, hx0, hs⟩ := zi_lI hs
    refine zAt_st1 (IHk _ _ _ _ _ hs) hlk.2 (fun n _ h => ⟨zvv_i, h⟩) (fun p e R s m args below meth c H locs cells slots Q ls ad adK hx hb hh hl hi kk => ?_)
    have hm := zpl_in (ad := ad) (adK := adK) L 0 i0 _ hx0
    rw [Nat.zero_add] at hm
    obtain ⟨kq, hkq⟩ := List.getElem?_of_mem hm
    exact lv_iinc (v := x + z) hx hb hd hl (k := kq) hkq (by rw [hlk.1]) hi rfl kk
  case iadd => obtain ⟨x, y, t, rfl, hs⟩ := zi_I2 hs; exact zAt_row (IHk _ _ _ _ _ hs) (fun n _ h => zvS_cons zvv_i (zvS_tl (zvS_tl h))) (fun p e R s m args below meth c H locs cells slots Q ls ad adK hx hb hown hts _ hl kk => lv_iadd hx hb hd kk)
  case isub => obtain ⟨x, y, t, rfl, hs⟩ := zi_I2 hs; exact zAt_row (IHk _ _ _ _ _ hs) (fun n _ h => zvS_cons zvv_i (zvS_tl (zvS_tl h))) (fun p e R s m args below meth c H locs cells slots Q ls ad adK hx hb hown hts _ hl kk => lv_isub hx hb hd kk)
  case imul => obtain ⟨x, y, t, rfl, hs⟩ := zi_I2 hs; exact zAt_row (IHk _ _ _ _ _ hs) (fun n _ h => zvS_cons zvv_i (zvS_tl (zvS_tl h))) (fun p e R s m args below meth c H locs cells slots Q ls ad adK hx hb hown hts _ hl kk => lv_imul hx hb hd kk)
  case iand => obtain ⟨x, y, t, rfl, hs⟩ := zi_I2 hs; exact zAt_row (IHk _ _ _ _ _ hs) (fun n _ h => zvS_cons zvv_i (zvS_tl (zvS_tl h))) (fun p e R s m args below meth c H locs cells slots Q ls ad adK hx hb hown hts _ hl kk => lv_iand hx hb hd kk)
  case ior => obtain ⟨x, y, t, rfl, hs⟩ := zi_I2 hs; exact zAt_row (IHk _ _ _ _ _ hs) (fun n _ h => zvS_cons zvv_i (zvS_tl (zvS_tl h))) (fun p e R s m args below meth c H locs cells slots Q ls ad adK hx hb hown hts _ hl kk => lv_ior hx hb hd kk)
  case ixor => obtain ⟨x, y, t, rfl, hs⟩ := zi_I2 hs; exact zAt_row (IHk _ _ _ _ _ hs) (fun n _ h => zvS_cons zvv_i (zvS_tl (zvS_tl h))) (fun p e R s m args below meth c H locs cells slots Q ls ad adK hx hb hown hts _ hl kk => lv_ixor hx hb hd kk)
  case idiv =>
    obtain ⟨x, y, t, rfl, hs1⟩ := zi_I2 hs
    split at hs1
    · cases hs1
    · rename_i hne
      exact zAt_row (IHk _ _ _ _ _ hs1) (fun n _ h => zvS_cons zvv_i (zvS_tl (zvS_tl h))) (fun p e R s m args below meth c H locs cells slots Q ls ad adK hx hb hown hts _ hl kk => lv_idiv hx hb hd hne kk)
  case irem =>
    obtain ⟨x, y, t, rfl, hs1⟩ := zi_I2 hs
    split at hs1
    · cases hs1
    · rename_i hne
      exact zAt_row (IHk _ _ _ _ _ hs1) (fun n _ h => zvS_cons zvv_i (zvS_tl (zvS_tl h))) (fun p e R s m args below meth c H locs cells slots Q ls ad adK hx hb hown hts _ hl kk => lv_irem hx hb hd hne kk)
  case ineg => obtain ⟨x, t, rfl, hs⟩ := zi_I1 hs; exact zAt_row (IHk _ _ _ _ _ hs) (fun n _ h => zvS_cons zvv_i (zvS_tl h)) (fun p e R s m args below meth c H locs cells slots Q ls ad adK hx hb hown hts _ hl kk => lv_ineg hx hb hd kk)
  case ishl => obtain ⟨x, y, t, rfl, hs⟩ := zi_I2 hs; exact zAt_row (IHk _ _ _ _ _ hs) (fun n _ h => zvS_cons zvv_i (zvS_tl (zvS_tl h))) (fun p e R s m args below meth c H locs cells slots Q ls ad adK hx hb hown hts _ hl kk => lv_ishl hx hb hd kk)
  case ishr => obtain ⟨x, y, t, rfl, hs⟩ := zi_I2 hs; exact zAt_row (IHk _ _ _ _ _ hs) (fun n _ h => zvS_cons zvv_i (zvS_tl (zvS_tl h))) (fun p e R s m args below meth c H locs cells slots Q ls ad adK hx hb hown hts _ hl kk => lv_ishr hx hb hd kk)
  case ladd => obtain ⟨x, y, t, rfl, hs⟩ := zi_J2 hs; exact zAt_row (IHk _ _ _ _ _ hs) (fun n _ h => zvS_cons zvv_l (zvS_tl (zvS_tl h))) (fun p e R s m args below meth c H locs cells slots Q ls ad adK hx hb hown hts _ hl kk => lv_ladd hx hb hd kk)
  case lsub => obtain ⟨x, y, t, rfl, hs⟩ := zi_J2 hs; exact zAt_row (IHk _ _ _ _ _ hs) (fun n _ h => zvS_cons zvv_l (zvS_tl (zvS_tl h))) (fun p e R s m args below meth c H locs cells slots Q ls ad adK hx hb hown hts _ hl kk => lv_lsub hx hb hd kk)
  case lmul => obtain ⟨x, y, t, rfl, hs⟩ := zi_J2 hs; exact zAt_row (IHk _ _ _ _ _ hs) (fun n _ h => zvS_cons zvv_l (zvS_tl (zvS_tl h))) (fun p e R s m args below meth c H locs cells slots Q ls ad adK hx hb hown hts _ hl kk => lv_lmul hx hb hd kk)
  case land => obtain ⟨x, y, t, rfl, hs⟩ := zi_J2 hs; exact zAt_row (IHk _ _ _ _ _ hs) (fun n _ h => zvS_cons zvv_l (zvS_tl (zvS_tl h))) (fun p e R s m args below meth c H locs cells slots Q ls ad adK hx hb hown hts _ hl kk => lv_land hx hb hd kk)
  case lor => obtain ⟨x, y, t, rfl, hs⟩ := zi_J2 hs; exact zAt_row (IHk _ _ _ _ _ hs) (fun n _ h => zvS_cons zvv_l (zvS_tl (zvS_tl h))) (fun p e R s m args below meth c H locs cells slots Q ls ad adK hx hb hown hts _ hl kk => lv_lor hx hb hd kk)
  case ldiv =>
    obtain ⟨x, y, t, rfl, hs1⟩ := zi_J2 hs
    split at hs1
    · cases hs1
    · rename_i hne
      exact zAt_row (IHk _ _ _ _ _ hs1) (fun n _ h => zvS_cons zvv_l (zvS_tl (zvS_tl h))) (fun p e R s m args below meth c H locs cells slots Q ls ad adK hx hb hown hts _ hl kk => lv_ldiv hx hb hd hne kk)
  case lrem =>
    obtain ⟨x, y, t, rfl, hs1⟩ := zi_J2 hs
    split at hs1
    · cases hs1
    · rename_i hne
      exact zAt_row (IHk _ _ _ _ _ hs1) (fun n _ h => zvS_cons zvv_l (zvS_tl (zvS_tl h))) (fun p e R s m args below meth c H locs cells slots Q ls ad adK hx hb hown hts _ hl kk => lv_lrem hx hb hd hne kk)
  case lshl => obtain ⟨x, y, t, rfl, hs⟩ := zi_JI hs; exact zAt_row (IHk _ _ _ _ _ hs) (fun n _ h => zvS_cons zvv_l (zvS_tl (zvS_tl h))) (fun p e R s m args below meth c H locs cells slots Q ls ad adK hx hb hown hts _ hl kk => lv_lshl hx hb hd rfl kk)
  case lcmp => obtain ⟨x, y, t, rfl, hs⟩ := zi_J2 hs; exact zAt_row (IHk _ _ _ _ _ hs) (fun n _ h => zvS_cons zvv_i (zvS_tl (zvS_tl h))) (fun p e R s m args below meth c H locs cells slots Q ls ad adK hx hb hown hts _ hl kk => W.lcmp hx hb hd kk)
  case i2l => obtain ⟨x, t, rfl, hs⟩ := zi_I1 hs; exact zAt_row (IHk _ _ _ _ _ hs) (fun n _ h => zvS_cons zvv_l (zvS_tl h)) (fun p e R s m args below meth c H locs cells slots Q ls ad adK hx hb hown hts _ hl kk => lv_i2l hx hb hd rfl kk)
  case l2i => obtain ⟨x, t, rfl, hs⟩ := zi_J1 hs; exact zAt_row (IHk _ _ _ _ _ hs) (fun n _ h => zvS_cons zvv_i (zvS_tl h)) (fun p e R s m args below meth c H locs cells slots Q ls ad adK hx hb hown hts _ hl kk => lv_l2i hx hb hd rfl kk)
  case i2b => obtain ⟨x, t, rfl, hs⟩ := zi_I1 hs; exact zAt_row (IHk _ _ _ _ _ hs) (fun n _ h => zvS_cons zvv_i (zvS_tl h)) (fun p e R s m args below meth c H locs cells slots Q ls ad adK hx hb hown hts _ hl kk => lv_i2b hx hb hd rfl kk)
  case dup => obtain ⟨v, t, rfl, hc, hs⟩ := zi_V1 hs; exact zAt_row (IHk _ _ _ _ _ hs) (fun n _ h => zvS_cons (zvS_hd h) h) (fun p e R s m args below meth c H locs cells slots Q ls ad adK hx hb hown hts _ hl kk => lv_dup hx hb hd (by rw [ztr_cat]; exact hc) kk)
  case pop => obtain ⟨v, t, rfl, hc, hs⟩ := zi_V1 hs; exact zAt_row (IHk _ _ _ _ _ hs) (fun n _ h => zvS_tl h) (fun p e R s m args below meth c H locs cells slots Q ls ad adK hx hb hown hts _ hl kk => lv_pop hx hb hd (by rw [ztr_cat]; exact hc) kk)
  case dup2 =>
    rcases zi_V2 hs with ⟨v, w, t, rfl, h1, h2, hs⟩ | ⟨v, t, rfl, h1, hs⟩
    · exact zAt_row (IHk _ _ _ _ _ hs) (fun n _ h => zvS_cons (zvS_hd h) (zvS_cons (zvS_hd (zvS_tl h)) h)) (fun p e R s m args below meth c H locs cells slots Q ls ad adK hx hb hown hts _ hl kk => lv_dup2_11 hx hb hd (by rw [ztr_cat]; exact h1) (by rw [ztr_cat]; exact h2) kk)
    · exact zAt_row (IHk _ _ _ _ _ hs) (fun n _ h => zvS_cons (zvS_hd h) h) (fun p e R s m args below meth c H locs cells slots Q ls ad adK hx hb hown hts _ hl kk => lv_dup2_2 hx hb hd (by rw [ztr_cat]; exact h1) kk)
  case goto => exact zAt_row (IHk _ _ _ _ _ hs) (fun n _ h => h) (fun p e R s m args below meth c H locs cells slots Q ls ad adK hx hb hown hts _ hl kk => lv_goto hx hb hd hlk kk)
  case ifCond =>
    obtain ⟨x, t, rfl, hs1⟩ := zi_I1 hs
    clear hs; split at hs1 <;> split at hs1 <;> rename_i hc <;> refine zAt_row (IHk _ _ _ _ _ hs1) (fun n _ h => zvS_tl h) (fun p e R s m args below meth c H locs cells slots Q ls ad adK hx hb hown hts _ hl kk => ?_)
    · exact lv_if_eq hx hb hd hlk (fun _ => kk) (fun q => absurd hc q)
    · exact lv_if_eq hx hb hd hlk (fun q => absurd q hc) (fun _ => kk)
    · exact lv_if_ne hx hb hd hlk (fun q => absurd hc q) (fun _ => kk)
    · exact lv_if_ne hx hb hd hlk (fun _ => kk) (fun q => absurd q hc)
    · exact lv_if_lt hx hb hd hlk (fun _ => kk) (fun q => absurd hc q)
    · exact lv_if_lt hx hb hd hlk (fun q => absurd q hc) (fun _ => kk)
    · exact lv_if_ge hx hb hd hlk (fun q => absurd hc (Int32.not_lt.mpr q)) (fun _ => kk)
    · exact lv_if_ge hx hb hd hlk (fun _ => kk) (fun q => absurd (Int32.not_lt.mp hc) q)
    · exact lv_if_gt hx hb hd hlk (fun _ => kk) (fun q => absurd hc q)
    · exact lv_if_gt hx hb hd hlk (fun q => absurd q hc) (fun _ => kk)
    · exact lv_if_le hx hb hd hlk (fun q => absurd hc (Int32.not_lt.mpr q)) (fun _ => kk)
    · exact lv_if_le hx hb hd hlk (fun _ => kk) (fun q => absurd (Int32.not_lt.mp hc) q)
  case if_icmp =>
    obtain ⟨x, y, t, rfl, hs1⟩ := zi_I2 hs
    clear hs; split at hs1 <;> split at hs1 <;> rename_i hc <;> refine zAt_row (IHk _ _ _ _ _ hs1) (fun n _ h => zvS_tl (zvS_tl h)) (fun p e R s m args below meth c H locs cells slots Q ls ad adK hx hb hown hts _ hl kk => ?_)
    · exact lv_icmp_eq hx hb hd hlk (fun _ => kk) (fun q => absurd hc q)
    · exact lv_icmp_eq hx hb hd hlk (fun q => absurd q hc) (fun _ => kk)
    · exact lv_icmp_ne hx hb hd hlk (fun q => absurd hc q) (fun _ => kk)
    · exact lv_icmp_ne hx hb hd hlk (fun _ => kk) (fun q => absurd q hc)
    · exact lv_icmp_lt hx hb hd hlk (fun _ => kk) (fun q => absurd hc q)
    · exact lv_icmp_lt hx hb hd hlk (fun q => absurd q hc) (fun _ => kk)
    · exact lv_icmp_ge hx hb hd hlk (fun q => absurd hc (Int32.not_lt.mpr q)) (fun _ => kk)
    · exact lv_icmp_ge hx hb hd hlk (fun _ => kk) (fun q => absurd (Int32.not_lt.mp hc) q)
    · exact lv_icmp_gt hx hb hd hlk (fun _ => kk) (fun q => absurd hc q)
    · exact lv_icmp_gt hx hb hd hlk (fun q => absurd q hc) (fun _ => kk)
    · exact lv_icmp_le hx hb hd hlk (fun q => absurd hc (Int32.not_lt.mpr q)) (fun _ => kk)
    · exact lv_icmp_le hx hb hd hlk (fun _ => kk) (fun q => absurd (Int32.not_lt.mp hc) q)
  case ifnull =>
    rcases zi_N1 hs with ⟨t, rfl, hs⟩ | ⟨q, t, rfl, hs⟩
    · exact zAt_row (IHk _ _ _ _ _ hs) (fun n _ h => zvS_tl h) (fun p e R s m args below meth c H locs cells slots Q ls ad adK hx hb hown hts _ hl kk => lv_ifnullN hx hb hd hlk kk)
    · exact zAt_row (IHk _ _ _ _ _ hs) (fun n _ h => zvS_tl h) (fun p e R s m args below meth c H locs cells slots Q ls ad adK hx hb hown hts _ hl kk => lv_ifnull hx hb hd kk)
  case ifnonnull =>
    rcases zi_N1 hs with ⟨t, rfl, hs⟩ | ⟨q, t, rfl, hs⟩
    · exact zAt_row (IHk _ _ _ _ _ hs) (fun n _ h => zvS_tl h) (fun p e R s m args below meth c H locs cells slots Q ls ad adK hx hb hown hts _ hl kk => lv_ifnonnullN hx hb hd kk)
    · exact zAt_row (IHk _ _ _ _ _ hs) (fun n _ h => zvS_tl h) (fun p e R s m args below meth c H locs cells slots Q ls ad adK hx hb hown hts _ hl kk => lv_ifnonnull hx hb hd hlk kk)
end zstepA
end
section
/-! ===== rows that read or write the heap ===== -/
def zclOK : Prop := ∀ (c : Nat) (r : vw_C), vwCl[c]? = some r → c < 12 ∧ (∀ w ∈ u_ws r.1 r.2.1 r.2.2, w ∈ zGT) ∧ (∀ k, k < r.2.2 → parseFieldDescriptor (r.2.1 k).2.2.1 = some (zTy c k)) ∧ (∀ a, a < r.2.2 → ∀ b, b < r.2.2 → a ≠ b → (r.2.1 a).2.1 ≠ (r.2.1 b).2.1)
theorem zNf_eq {c : Nat} {r : vw_C} (h : vwCl[c]? = some r) : zNf c = r.2.2 := by unfold zNf; rw [h]
theorem zce_ob {cy : Nat → ClassId} {ad : Nat → Nat} {I : Nat → Int32} {J : Nat → Int64} {e : zE} (h : e.1 < 12) : zce cy ad I J e = .inr (e.1, zfs ad I J e.1 e.2.2) := by
  unfold zce; split <;> first | omega | rfl
theorem zhas1_mem : ∀ {l : List Nat} {k : Nat}, zhas1 l k = true → k ∈ l
  | [], _, h => by cases h
  | a :: l, k, h => by
    unfold zhas1 at h
    by_cases e : a = k
    · subst e; exact List.mem_cons_self
    · have hb : Nat.beq a k = false := by
        cases hq : Nat.beq a k
        · rfl
        · exact absurd (Nat.eq_of_beq_eq_true hq) e
      rw [hb] at h
      exact List.mem_cons_of_mem _ (zhas1_mem h)
theorem zbeq_ne {a b : Nat} (h : a ≠ b) : Nat.beq a b = false := by
  cases hq : Nat.beq a b
  · rfl
  · exact absurd (Nat.eq_of_beq_eq_true hq) h
theorem zbeq_rf (a : Nat) : Nat.beq a a = true := Nat.beq_refl a
theorem zsI_row (I : zTI) (a k : Nat) (v : Int32) : zsI I a k v a = upd (I a) k v := by
  funext j
  unfold zsI; rw [zbeq_rf]; simp only [cond_true]
  by_cases e : j = k
  · subst e; rw [zbeq_rf]; simp [upd]
  · rw [zbeq_ne e]; simp [upd, e]
theorem zsI_ne (I : zTI) {a b : Nat} (k : Nat) (v : Int32) (h : b ≠ a) : zsI I a k v b = I b := by
  unfold zsI; rw [zbeq_ne h]; rfl
theorem zsJ_row (J : zTJ) (a k : Nat) (v : Int64) : zsJ J a k v a = vp_updL (J a) k v := by
  funext j
  unfold zsJ; rw [zbeq_rf]; simp only [cond_true]
  by_cases e : j = k
  · subst e; rw [zbeq_rf]; simp [vp_updL]
  · rw [zbeq_ne e]; simp [vp_updL, e]
theorem zsJ_ne (J : zTJ) {a b : Nat} (k : Nat) (v : Int64) (h : b ≠ a) : zsJ J a k v b = J b := by
  unfold zsJ; rw [zbeq_ne h]; rfl
theorem zup_ne {f : Nat → Option Nat} {k j : Nat} {v : Option Nat} (h : j ≠ k) : zup f k v j = f j := by unfold zup; rw [zbeq_ne h]; rfl
theorem zrI_row (I : zTI) (a : Nat) (f : Nat → Int32) : zrI I a f a = f := by unfold zrI; rw [zbeq_rf]; rfl
theorem zrI_ne (I : zTI) {a b : Nat} (f : Nat → Int32) (h : b ≠ a) : zrI I a f b = I b := by unfold zrI; rw [zbeq_ne h]; rfl
theorem zrJ_row (J : zTJ) (a : Nat) (f : Nat → Int64) : zrJ J a f a = f := by unfold zrJ; rw [zbeq_rf]; rfl
theorem zrJ_ne (J : zTJ) {a b : Nat} (f : Nat → Int64) (h : b ≠ a) : zrJ J a f b = J b := by unfold zrJ; rw [zbeq_ne h]; rfl
theorem zmap_set {N a : Nat} {f f' : Nat → Value} {v : Value} (ha : a < N) (h1 : f' a = v) (h2 : ∀ k, k ≠ a → f' k = f k) : ((List.range N).map f).set a v = (List.range N).map f' := by
  apply List.ext_getElem?
  intro j
  by_cases hj : j < N
  · by_cases e : j = a
    · subst e
      rw [List.getElem?_set_self (by simpa using hj)]
      simp [List.getElem?_map, List.getElem?_range hj, h1]
    · rw [List.getElem?_set_ne (fun q => e q.symm)]
      simp [List.getElem?_map, List.getElem?_range hj, h2 j e]
  · rw [List.getElem?_eq_none (by simp; omega), List.getElem?_eq_none (by simp; omega)]
theorem zfs_get {ad : Nat → Nat} {I : Nat → Int32} {J : Nat → Int64} {c k : Nat} {rf : Nat → Option Nat} (h : k < zNf c) : (zfs ad I J c rf)[k]? = some (zfv ad I J rf (zTy c k) k) := by
  simp [zfs, List.getElem?_map, List.getElem?_range h]
theorem zfs_len (ad : Nat → Nat) (I : Nat → Int32) (J : Nat → Int64) (c : Nat) (rf : Nat → Option Nat) : (zfs ad I J c rf).length = zNf c := by simp [zfs]
theorem zfv_ne {ad : Nat → Nat} {I I' : Nat → Int32} {J J' : Nat → Int64} {rf rf' : Nat → Option Nat} {ty : FieldType} {k : Nat} (h1 : I' k = I k) (h2 : J' k = J k) (h3 : rf' k = rf k) : zfv ad I' J' rf' ty k = zfv ad I J rf ty k := by
  unfold zfv; split <;> simp [h1, h2, h3]
theorem zwf_I {h : zH} {I : zTI} {J : zTJ} (hw : zwf h) : zwf (h.1, I, J) := hw
theorem zwf_sR {h : zH} {o k : Nat} {v : Option Nat} (hw : zwf h) (hv : ∀ q, v = some q → q < h.1.length) : zwf (zsR h.1 o k v, h.2.1, h.2.2) := by
  intro i e he a q hq
  dsimp only at he ⊢
  rw [zsR_len]
  by_cases hi : i = o
  · subst hi
    cases ho : h.1[i]? with
    | none =>
      have : zsR h.1 i k v = h.1 := by unfold zsR; rw [ho]
      rw [this, ho] at he; cases he
    | some e0 =>
      rw [zsR_get ho] at he
      cases he
      dsimp only at hq
      unfold zup at hq
      by_cases ha : a = k
      · subst ha; rw [zbeq_rf] at hq; exact hv q hq
      · rw [zbeq_ne ha] at hq; exact hw i e0 ho a q hq
  · rw [zsR_ne hi] at he
    exact hw i e he a q hq
theorem zwf_new {h : zH} {kd n : Nat} (hw : zwf h) : zwf (znew h kd n) := by
  intro i e he a q hq
  have hl : (znew h kd n).1.length = h.1.length + 1 := by simp [znew]
  rw [hl]
  by_cases hi : i < h.1.length
  · have : (znew h kd n).1[i]? = h.1[i]? := by unfold znew; exact List.getElem?_append_left hi
    rw [this] at he
    exact Nat.lt_succ_of_lt (hw i e he a q hq)
  · have he2 : (h.1 ++ [(kd, n, zno)])[i]? = some e := he
    rw [List.getElem?_append_right (by omega)] at he2
    have hz : i - h.1.length < 1 := (List.getElem?_eq_some_iff.mp he2).1
    rw [show i - h.1.length = 0 by omega] at he2
    cases he2
    cases hq
theorem zwf_cpy {h : zH} {a n : Nat} (hw : zwf h) : zwf (zcpy h a n) := fun i e he k q hq => zwf_new (kd := 13) (n := n) hw i e he k q hq
section zheap
variable {G : Nat → zM} {l : Launch} {S : zO} {D j : Nat} {k : zKt} {L : zL} {st : List Value} {h : zH} {res : zR}
theorem zvr {n q : Nat} {st : List Value} (h : ∀ w ∈ Value.ref q :: st, zvv n w) : q < n := zvS_hd h q rfl
/-- a field is read -/
theorem zstep_get (hcl : zclOK) (IHk : ∀ pc L st h r, k pc L st h = some r → zAt G l D j pc L st h r) {pc i a b : Nat} {ks : List Nat} {z : Int32} {zl : Int64} {sw : List (Int32 × Nat)} (he : zok G (G j) (pc, .getfield i, a, b, ks, z, zl, sw)) (hs : zstep G S D (pc, .getfield i, a, b, ks, z, zl, sw) k L st h = some res) : zAt G l D j pc L st h res := by
  obtain ⟨hd, hlk⟩ := he
  replace hd := hd.resolve_left (by intro q; cases q)
  dsimp only [zln] at hd
  dsimp only [zlk] at hlk
  unfold zstep at hs
  dsimp only at hs
  obtain ⟨o, t, rfl, hs1⟩ := zi_A1 hs
  obtain ⟨e, he, hk, hs2⟩ := zi_ob hs1
  clear hs hs1
  obtain ⟨C, T, N, ref, hc, ha, hfl, hsm, hty⟩ := hlk e.1 (zhas1_mem hk)
  obtain ⟨h12, hin, htys, hnm⟩ := hcl e.1 _ hc
  have hN := zNf_eq hc
  have key : ∀ (v : Value) (r2 : zR), zAt G l D j (pc + 3) L (v :: t) h r2 → (∀ ad adK, zfv ad (h.2.1 o) (h.2.2 o) e.2.2 (zTy e.1 a) a = ztr ad adK v) → (zwf h → zvv h.1.length v) → zAt G l D j pc L (.ref o :: t) h r2 := by
    intro v r2 hk hv hvv
    refine ⟨hk.1, ?_⟩
    intro p e' R s m args below meth c A Gd cy adK adV ad0 n0 z0 Cx hn hz hcc hss ad H locs ls ha0 hP hD hS hl hw hvL hvS
    have hws := zws_get (cy := cy) (ad := ad) he
    rw [zce_ob h12] at hws
    have hts := Cx.2.2.2.2.2.1
    refine va_get (D := Gd) (ci := e.1) (v := ztr ad adK v) (C := C) (T := T) (N := N) (ref := ref) Cx.1 Cx.2.1 hts hin Cx.2.2.2.2.1 Cx.2.2.2.2.2.2.2.2.1.1 hP o hws hc a ha (hts _ hfl) ?_ (by rw [zfs_get (by rw [hN]; exact ha), hv ad adK]) hd ?_
    · rcases hsm with rfl | hsm
      · exact fun _ q => q
      · exact u_same (hts _ hsm)
    · exact hk.2 p e' R s m args below meth c A Gd cy adK adV ad0 n0 z0 Cx hn hz hcc hss ad H locs ls ha0 hP hD hS hl hw hvL (zvS_cons (hvv hw) (zvS_tl hvS))
  split at hs2
  · exact key _ _ (IHk _ _ _ _ _ hs2) (fun ad adK => by rw [show zTy e.1 a = .long from hty]; rfl) (fun _ => zvv_l)
  · rcases zi_rf hs2 with ⟨q, hq, hs3⟩ | ⟨hq, hs3⟩
    · refine key _ _ (IHk _ _ _ _ _ hs3) (fun ad adK => ?_) (fun hw => zvv_r (hw o e he a q hq))
      rcases hty with ⟨n, hn⟩ | ⟨n, hn⟩ <;> (rw [hn]; simp [zfv, hq, va_rf, ztr])
    · refine key _ _ (IHk _ _ _ _ _ hs3) (fun ad adK => ?_) (fun _ => zvv_n)
      rcases hty with ⟨n, hn⟩ | ⟨n, hn⟩ <;> (rw [hn]; simp [zfv, hq, va_rf, ztr])
  · rename_i n1 n2
    refine key _ _ (IHk _ _ _ _ _ hs2) (fun ad adK => ?_) (fun _ => zvv_i)
    split at hty
    · exact absurd rfl n1
    · exact absurd rfl n2
    · rw [hty]; rfl
    · rw [hty]; rfl
/-- a row that writes one cell -/
theorem zAt_set {pc pc' : Nat} {st' : List Value} {o : Nat} {h' : zH} (hk : zAt G l D j pc' L st' h' res) (hlen : h'.1.length = h.1.length) (hsz : zsz h'.1 = zsz h.1) (hv : ∀ n, (∀ v ∈ st, zvv n v) → ∀ v ∈ st', zvv n v) (hwf : zwf h → (∀ v ∈ st, zvv h.1.length v) → zwf h')
    (ho : ∀ j, j ≠ o → h'.1[j]? = h.1[j]? ∧ h'.2.1 j = h.2.1 j ∧ h'.2.2 j = h.2.2 j)
    (hrow : ∀ (p : Program) (e : Env) (R : Room) (s : State) (m : MethodId) (args : Array Value) (below : List Frame) (meth : Method) (c : Code) (H : Heap) (locs : List Loc) (cells slots : Nat) (Q : State → Prop) (ls : Array Slot) (A : Nat → Prop) (Gd : va_G) (cy : Nat → ClassId) (ad adK adV : Nat → Nat), zC (G j) D p R s m args meth c A Gd cy adK adV → va_P Gd vwCl (zws cy ad h) H → va_D A (zws cy ad h) → va_S A s.heap H locs →
      (∀ (H1 : Heap) (locs1 : List Loc), va_P Gd vwCl ((zws cy ad h).set o (ad o, zat cy ad h' o)) H1 → va_D A ((zws cy ad h).set o (ad o, zat cy ad h' o)) → va_S A s.heap H1 locs1 → W p l e R s m args below meth c H1 locs1 cells slots Q (F0 m pc' ls (st'.map (ztr ad adK)))) → W p l e R s m args below meth c H locs cells slots Q (F0 m pc ls (st.map (ztr ad adK)))) : zAt G l D j pc L st h res := by
  refine ⟨by rw [← hlen, ← hsz]; exact hk.1, ?_⟩
  intro p e R s m args below meth c A Gd cy adK adV ad0 n0 z0 Cx hn hz hcc hss ad H locs ls ha0 hP hD hS hl hw hvL hvS
  refine hrow p e R s m args below meth c H locs _ _ _ ls A Gd cy ad adK adV Cx hP hD hS fun H1 locs1 hP1 hD1 hS1 => ?_
  rw [zws_set hlen rfl ho] at hP1 hD1
  have := hk.2 p e R s m args below meth c A Gd cy adK adV ad0 n0 z0 Cx (by rw [hlen]; exact hn) (by rw [hsz]; exact hz) hcc hss ad H1 locs1 ls ha0 hP1 hD1 hS1 hl (hwf hw hvS) (fun i v q => by rw [hlen]; exact hvL i v q) (fun v q => by rw [hlen]; exact hv _ hvS v q)
  rw [hlen, hsz] at this
  exact this
theorem zbo_fits {v : Int32} (h : zbo v = true) : narrow .boolean (.int v) = .int v ∧ fits .boolean (.int v) = true := by
  unfold zbo at h
  simp only [Bool.or_eq_true, decide_eq_true_eq] at h
  rcases h with rfl | rfl <;> exact ⟨by decide +kernel, by decide +kernel⟩
/-- a field is written -/
theorem zstep_put (hcl : zclOK) (IHk : ∀ pc L st h r, k pc L st h = some r → zAt G l D j pc L st h r) {pc i a b : Nat} {ks : List Nat} {z : Int32} {zl : Int64} {sw : List (Int32 × Nat)} (he : zok G (G j) (pc, .putfield i, a, b, ks, z, zl, sw)) (hs : zstep G S D (pc, .putfield i, a, b, ks, z, zl, sw) k L st h = some res) : zAt G l D j pc L st h res := by
  obtain ⟨hd, hlk⟩ := he
  replace hd := hd.resolve_left (by intro q; cases q)
  dsimp only [zln] at hd
  dsimp only [zlk] at hlk
  obtain ⟨hlk, hlp⟩ := hlk
  unfold zstep at hs
  dsimp only at hs
  have key : ∀ (o : Nat) (v : Value) (t : List Value) (e : zE) (h' : zH), h.1[o]? = some e → zhas1 ks e.1 = true → zAt G l D j (pc + 3) L t h' res → h'.1.length = h.1.length → zsz h'.1 = zsz h.1 → (zwf h → zvv h.1.length v → zwf h') → (∀ j, j ≠ o → h'.1[j]? = h.1[j]? ∧ h'.2.1 j = h.2.1 j ∧ h'.2.2 j = h.2.2 j) →
      (∀ (C : String) (T : u_T) (N : Nat), vwCl[e.1]? = some (C, T, N) → zfl (G j).1.cls i a b e.1 → (∀ ad adK, narrow (zTy e.1 a) (ztr ad adK v) = ztr ad adK v ∧ fits (zTy e.1 a) (ztr ad adK v) = true) ∧ ∀ cy ad adK, zat cy ad h' o = .inr (e.1, (zfs ad (h.2.1 o) (h.2.2 o) e.1 e.2.2).set a (ztr ad adK v))) → zAt G l D j pc L (v :: .ref o :: t) h res := by
    intro o v t e h' he hks hk hlen hsz hwf ho hf
    have hz := hlk e.1 (zhas1_mem hks)
    obtain ⟨C, T, N, ref, hc, ha, hfl, hsm, hty⟩ := id hz
    obtain ⟨C2, T2, N2, hc2, hfin⟩ := hlp e.1 (zhas1_mem hks)
    cases hc.symm.trans hc2
    obtain ⟨h12, hin, htys, hnm⟩ := hcl e.1 _ hc
    have hN := zNf_eq hc
    obtain ⟨hf1, hf2⟩ := hf C T N hc hz
    refine zAt_set hk hlen hsz (fun n h => zvS_tl (zvS_tl h)) (fun hw hv => hwf hw (zvS_hd hv)) ho ?_
    intro p e' R s m args below meth c H locs cells slots Q ls A Gd cy ad adK adV Cx hP hD hS kk
    have hws := zws_get (cy := cy) (ad := ad) he
    rw [zce_ob h12] at hws
    have hts := Cx.2.2.2.2.2.1
    have hsame : ∀ x, s.fieldFound? (T a).1 (T a).2.1 (T a).2.2.1 = some x → s.fieldFound? ref (T a).2.1 (T a).2.2.1 = some x := by
      rcases hsm with rfl | hsm
      · exact fun _ q => q
      · exact u_same (hts _ hsm)
    have kk2 : ∀ (H1 : Heap) (locs1 : List Loc), va_P Gd vwCl ((zws cy ad h).set o (ad o, .inr (e.1, (zfs ad (h.2.1 o) (h.2.2 o) e.1 e.2.2).set a (ztr ad adK v)))) H1 → va_D A ((zws cy ad h).set o (ad o, .inr (e.1, (zfs ad (h.2.1 o) (h.2.2 o) e.1 e.2.2).set a (ztr ad adK v)))) → va_S A s.heap H1 locs1 → W p l e' R s m args below meth c H1 locs1 cells slots Q (F0 m (pc + 3) ls (t.map (ztr ad adK))) := by
      intro H1 locs1 h1 h2 h3
      rw [← hf2 cy ad adK] at h1 h2
      exact kk H1 locs1 h1 h2 h3
    rcases hfin with hfin | ⟨hfin, hnmi, hdecl⟩
    · exact va_put (D := Gd) (ci := e.1) (v := ztr ad adK v) (ty := zTy e.1 a) (C := C) (T := T) (N := N) (ref := ref) Cx.1 Cx.2.1 hts hin (zTy e.1) htys hnm Cx.2.2.2.2.1 Cx.2.2.2.2.2.2.2.2.1.1 hP hD hS o hws hc a ha (hts _ hfl) hsame hfin (htys a ha) (hf1 ad adK).1 (hf1 ad adK).2 (by rw [zfs_len, hN]; exact ha) hd kk2
    · exact va_putF (D := Gd) (ci := e.1) (v := ztr ad adK v) (ty := zTy e.1 a) (C := C) (T := T) (N := N) (ref := ref) Cx.1 Cx.2.1 hts hin (zTy e.1) htys hnm Cx.2.2.2.2.1 Cx.2.2.2.2.2.2.2.2.1.1 hP hD hS o hws hc a ha (hts _ hfl) hsame hfin (Cx.2.2.2.2.2.2.2.1.trans hnmi) hdecl (htys a ha) (hf1 ad adK).1 (hf1 ad adK).2 (by rw [zfs_len, hN]; exact ha) hd kk2
  have keyI : ∀ (o : Nat) (x : Int32) (t : List Value), (b = 0 ∨ (b = 3 ∧ zbo x = true)) → zob h o ks (fun _ => k (pc + 3) L t (h.1, zsI h.2.1 o a x, h.2.2)) = some res → zAt G l D j pc L (.int x :: .ref o :: t) h res := by
    intro o x t hb hs2
    obtain ⟨e, he, hks, hs3⟩ := zi_ob hs2
    refine key o (.int x) t e _ he hks (IHk _ _ _ _ _ hs3) rfl rfl (fun hw _ => hw) (fun j hj => ⟨rfl, zsI_ne _ _ _ hj, rfl⟩) ?_
    intro C T N hc hz
    obtain ⟨C', T', N', ref', hc', ha, -, -, hty⟩ := hz
    obtain ⟨h12, -⟩ := hcl e.1 _ hc
    have hN := zNf_eq hc'
    have hi : (zTy e.1 a = .int ∨ (zTy e.1 a = .boolean)) ∧ (narrow (zTy e.1 a) (.int x) = .int x ∧ fits (zTy e.1 a) (.int x) = true) := by
      rcases hb with rfl | ⟨rfl, hb⟩
      · rw [show zTy e.1 a = .int from hty]; exact ⟨Or.inl rfl, rfl, rfl⟩
      · rw [show zTy e.1 a = .boolean from hty]; exact ⟨Or.inr rfl, zbo_fits hb⟩
    refine ⟨fun ad adK => hi.2, fun cy ad adK => ?_⟩
    have : (h.1, zsI h.2.1 o a x, h.2.2).1[o]? = some e := he
    unfold zat
    rw [this]
    dsimp only
    rw [zce_ob h12]
    congr 2
    refine (zmap_set (by rw [hN]; exact ha) ?_ ?_).symm
    · rw [zsI_row]; rcases hi.1 with h1 | h1 <;> (rw [h1]; simp [zfv, upd, ztr])
    · intro q hq; exact zfv_ne (by rw [zsI_row]; simp [upd, hq]) rfl rfl
  unfold zPut at hs
  split at hs
  · split at hs
    · exact keyI _ _ _ (Or.inl rfl) hs
    · obtain ⟨hb, hs⟩ := zi_zif hs
      exact keyI _ _ _ (Or.inr ⟨rfl, hb⟩) hs
    · cases hs
  · rename_i x o t
    split at hs
    · dsimp only at hs
      obtain ⟨e, he, hks, hs3⟩ := zi_ob hs
      refine key o (.long x) t e _ he hks (IHk _ _ _ _ _ hs3) rfl rfl (fun hw _ => hw) (fun j hj => ⟨rfl, rfl, zsJ_ne _ _ _ hj⟩) ?_
      intro C T N hc hz
      obtain ⟨C', T', N', ref', hc', ha, -, -, hty⟩ := hz
      replace hty : zTy e.1 a = .long := hty
      obtain ⟨h12, -⟩ := hcl e.1 _ hc
      have hN := zNf_eq hc'
      refine ⟨fun ad adK => by rw [hty]; exact ⟨rfl, rfl⟩, fun cy ad adK => ?_⟩
      have : (h.1, h.2.1, zsJ h.2.2 o a x).1[o]? = some e := he
      unfold zat
      rw [this]
      dsimp only
      rw [zce_ob h12]
      congr 2
      refine (zmap_set (by rw [hN]; exact ha) ?_ ?_).symm
      · rw [zsJ_row, hty]; simp [zfv, vp_updL, ztr]
      · intro q hq; exact zfv_ne rfl (by rw [zsJ_row]; simp [vp_updL, hq]) rfl
    · cases hs
  · rename_i x o t
    split at hs
    · dsimp only at hs
      obtain ⟨e, he, hks, hs3⟩ := zi_ob hs
      refine key o (.ref x) t e _ he hks (IHk _ _ _ _ _ hs3) (zsR_len _ _ _ _) (zsz_sR _ _ _ _) (fun hw hv => zwf_sR hw (fun q hq => by cases hq; exact hv _ rfl)) (fun j hj => ⟨zsR_ne hj, rfl, rfl⟩) ?_
      intro C T N hc hz
      obtain ⟨C', T', N', ref', hc', ha, -, -, hty⟩ := hz
      replace hty : (∃ n, zTy e.1 a = .object n) ∨ ∃ n, zTy e.1 a = .array n := hty
      obtain ⟨h12, -⟩ := hcl e.1 _ hc
      have hN := zNf_eq hc'
      refine ⟨fun ad adK => by rcases hty with ⟨n, hn⟩ | ⟨n, hn⟩ <;> (rw [hn]; exact ⟨rfl, rfl⟩), fun cy ad adK => ?_⟩
      have : (zsR h.1 o a (some x), h.2.1, h.2.2).1[o]? = some (e.1, e.2.1, zup e.2.2 a (some x)) := zsR_get he
      unfold zat
      rw [this]
      dsimp only
      rw [zce_ob (e := (e.1, e.2.1, zup e.2.2 a (some x))) h12]
      congr 2
      refine (zmap_set (by rw [hN]; exact ha) ?_ ?_).symm
      · rcases hty with ⟨n, hn⟩ | ⟨n, hn⟩ <;> (rw [hn]; simp [zfv, zup, va_rf, ztr])
      · intro q hq; exact zfv_ne rfl rfl (zup_ne hq)
    · cases hs
  · rename_i o t
    split at hs
    · dsimp only at hs
      obtain ⟨e, he, hks, hs3⟩ := zi_ob hs
      refine key o .null t e _ he hks (IHk _ _ _ _ _ hs3) (zsR_len _ _ _ _) (zsz_sR _ _ _ _) (fun hw hv => zwf_sR hw (fun q hq => by cases hq)) (fun j hj => ⟨zsR_ne hj, rfl, rfl⟩) ?_
      intro C T N hc hz
      obtain ⟨C', T', N', ref', hc', ha, -, -, hty⟩ := hz
      replace hty : (∃ n, zTy e.1 a = .object n) ∨ ∃ n, zTy e.1 a = .array n := hty
      obtain ⟨h12, -⟩ := hcl e.1 _ hc
      have hN := zNf_eq hc'
      refine ⟨fun ad adK => by rcases hty with ⟨n, hn⟩ | ⟨n, hn⟩ <;> (rw [hn]; exact ⟨rfl, rfl⟩), fun cy ad adK => ?_⟩
      have : (zsR h.1 o a none, h.2.1, h.2.2).1[o]? = some (e.1, e.2.1, zup e.2.2 a none) := zsR_get he
      unfold zat
      rw [this]
      dsimp only
      rw [zce_ob (e := (e.1, e.2.1, zup e.2.2 a none)) h12]
      congr 2
      refine (zmap_set (by rw [hN]; exact ha) ?_ ?_).symm
      · rcases hty with ⟨n, hn⟩ | ⟨n, hn⟩ <;> (rw [hn]; simp [zfv, zup, va_rf, ztr])
      · intro q hq; exact zfv_ne rfl rfl (zup_ne hq)
    · cases hs
  · cases hs
end zheap
end
section
/-! ===== arrays and new cells ===== -/
section zarr
variable {G : Nat → zM} {l : Launch} {S : zO} {D j : Nat} {k : zKt} {L : zL} {st : List Value} {h : zH} {res : zR}
/-- a row that reads one array -/
theorem zAt_ald {pc pc' q n kd : Nat} {rf : Nat → Option Nat} {i : Int32} {t : List Value} {v : Value} (he : h.1[q]? = some (kd, n, rf)) (hi : vp_in i n) (hk : zAt G l D j pc' L (v :: t) h res) (hvv : zwf h → zvv h.1.length v)
    (hrow : ∀ (p : Program) (e : Env) (R : Room) (s : State) (m : MethodId) (args : Array Value) (below : List Frame) (meth : Method) (c : Code) (H : Heap) (locs : List Loc) (cells slots : Nat) (Q : State → Prop) (ls : Array Slot) (Gd : va_G) (cy : Nat → ClassId) (ad adK : Nat → Nat), p.tables.exec = Jvm.exec → c.code = (G j).2.1 → va_K Gd vwCl (ztys cy) s → va_P Gd vwCl (zws cy ad h) H → (zws cy ad h)[q]? = some (ad q, zce cy ad (h.2.1 q) (h.2.2 q) (kd, n, rf)) →
      W p l e R s m args below meth c H locs cells slots Q (F0 m pc' ls (ztr ad adK v :: t.map (ztr ad adK))) → W p l e R s m args below meth c H locs cells slots Q (F0 m pc ls (.int i :: .ref (ad q) :: t.map (ztr ad adK)))) : zAt G l D j pc L (.int i :: .ref q :: t) h res := by
  refine ⟨hk.1, ?_⟩
  intro p e R s m args below meth c A Gd cy adK adV ad0 n0 z0 Cx hn hz hcc hss ad H locs ls ha0 hP hD hS hl hw hvL hvS
  refine hrow p e R s m args below meth c H locs _ _ _ ls Gd cy ad adK Cx.1 Cx.2.1 Cx.2.2.2.2.2.2.2.2.1.1 hP (zws_get he) ?_
  exact hk.2 p e R s m args below meth c A Gd cy adK adV ad0 n0 z0 Cx hn hz hcc hss ad H locs ls ha0 hP hD hS hl hw hvL (zvS_cons (hvv hw) (zvS_tl (zvS_tl hvS)))
theorem zrf_map {ad adK : Nat → Nat} {r : Option Nat} {v : Value} (h : (∃ q, r = some q ∧ v = .ref q) ∨ (r = none ∧ v = .null)) : va_rf (r.map ad) = ztr ad adK v := by
  rcases h with ⟨q, rfl, rfl⟩ | ⟨rfl, rfl⟩ <;> rfl
theorem zat_I {cy : Nat → ClassId} {ad : Nat → Nat} {h : zH} {q n kd : Nat} {rf : Nat → Option Nat} {I : zTI} (he : h.1[q]? = some (kd, n, rf)) : zat cy ad (h.1, I, h.2.2) q = zce cy ad (I q) (h.2.2 q) (kd, n, rf) := by
  unfold zat; dsimp only; rw [he]
theorem zat_J {cy : Nat → ClassId} {ad : Nat → Nat} {h : zH} {q n kd : Nat} {rf : Nat → Option Nat} {J : zTJ} (he : h.1[q]? = some (kd, n, rf)) : zat cy ad (h.1, h.2.1, J) q = zce cy ad (h.2.1 q) (J q) (kd, n, rf) := by
  unfold zat; dsimp only; rw [he]
theorem vp_nar_z {x : Int32} (h : zbo x = true) : vp_nar .boolean x = x := by
  unfold vp_nar; rw [(zbo_fits h).1]
set_option maxHeartbeats 4000000 in
theorem zstep_arr (IHk : ∀ pc L st h r, k pc L st h = some r → zAt G l D j pc L st h r) {e : zI} (he : zok G (G j) e)
    (hns : match e.2.1 with
      | .iaload => True | .baload => True | .laload => True | .aaload => True | .iastore => True | .bastore => True | .lastore => True | .aastore => True | .arraylength => True | .checkcast _ => True | _ => False)
    (hs : zstep G S D e k L st h = some res) : zAt G l D j e.1 L st h res := by
  obtain ⟨pc, ins, a, b, ks, z, zl, sw⟩ := e
  obtain ⟨hd, hlk⟩ := he
  cases ins <;> first | (exact absurd hns id; done) | skip
  all_goals (unfold zstep at hs; dsimp only at hs)
  all_goals (replace hd := hd.resolve_left (by intro q; cases q); dsimp only [zln] at hd; dsimp only [zlk] at hlk)
  case iaload =>
    obtain ⟨q, i, t, rfl, hs1⟩ := zi_IA hs
    obtain ⟨n, rf, he, hs2⟩ := zi_ar hs1
    obtain ⟨hi, hs3⟩ := zi_zif hs2
    exact zAt_ald he (zin_vp hi) (IHk _ _ _ _ _ hs3) (fun _ => zvv_i) (fun p e R s m args below meth c H locs cells slots Q ls Gd cy ad adK hx hb hK hP hw kk => va_iald hx hb hK hP q 1 hw rfl (zin_vp hi) hd kk)
  case baload =>
    obtain ⟨q, i, t, rfl, hs1⟩ := zi_IA hs
    obtain ⟨n, rf, ⟨he, hs2⟩ | ⟨he, hs2⟩⟩ := zi_ar2 hs1
    · obtain ⟨hi, hs3⟩ := zi_zif hs2
      exact zAt_ald he (zin_vp hi) (IHk _ _ _ _ _ hs3) (fun _ => zvv_i) (fun p e R s m args below meth c H locs cells slots Q ls Gd cy ad adK hx hb hK hP hw kk => va_bald hx hb hK hP q 0 hw rfl (zin_vp hi) hd kk)
    · obtain ⟨hi, hs3⟩ := zi_zif hs2
      exact zAt_ald he (zin_vp hi) (IHk _ _ _ _ _ hs3) (fun _ => zvv_i) (fun p e R s m args below meth c H locs cells slots Q ls Gd cy ad adK hx hb hK hP hw kk => va_zald hx hb hK hP q 3 hw rfl (zin_vp hi) hd kk)
  case laload =>
    obtain ⟨q, i, t, rfl, hs1⟩ := zi_IA hs
    obtain ⟨n, rf, he, hs2⟩ := zi_ar hs1
    obtain ⟨hi, hs3⟩ := zi_zif hs2
    exact zAt_ald he (zin_vp hi) (IHk _ _ _ _ _ hs3) (fun _ => zvv_l) (fun p e R s m args below meth c H locs cells slots Q ls Gd cy ad adK hx hb hK hP hw kk => va_lald hx hb hK hP q 2 hw rfl (zin_vp hi) hd kk)
  case aaload =>
    obtain ⟨q, i, t, rfl, hs1⟩ := zi_IA hs
    obtain ⟨hk6, hs1⟩ := zi_zif hs1
    obtain ⟨n, rf, he, hs2⟩ := zi_ar hs1
    obtain ⟨hi, hs3⟩ := zi_zif hs2
    have hv : ∃ v, k (pc + 1) L (v :: t) h = some res ∧ ((∃ q, rf i.toNatClampNeg = some q ∧ v = .ref q) ∨ (rf i.toNatClampNeg = none ∧ v = .null)) := by
      rcases zi_rf hs3 with ⟨w, h1, h2⟩ | ⟨h1, h2⟩
      · exact ⟨_, h2, Or.inl ⟨w, h1, rfl⟩⟩
      · exact ⟨_, h2, Or.inr ⟨h1, rfl⟩⟩
    obtain ⟨v, hs4, hv⟩ := hv
    have hvv : zwf h → zvv h.1.length v := by
      intro hw
      rcases hv with ⟨w, h1, rfl⟩ | ⟨-, rfl⟩
      · exact zvv_r (hw q _ he _ w h1)
      · exact zvv_n
    have hm := zhas1_mem hk6
    simp only [List.mem_cons, List.not_mem_nil, or_false] at hm
    rcases hm with rfl | rfl
    · exact zAt_ald he (zin_vp hi) (IHk _ _ _ _ _ hs4) hvv (fun p e R s m args below meth c H locs cells slots Q ls Gd cy ad adK hx hb hK hP hw kk => va_aldq hx hb hK hP q 4 hw rfl (zin_vp hi) hd (by rw [zrf_map (adK := adK) hv]; exact kk))
    · exact zAt_ald he (zin_vp hi) (IHk _ _ _ _ _ hs4) hvv (fun p e R s m args below meth c H locs cells slots Q ls Gd cy ad adK hx hb hK hP hw kk => va_aldq hx hb hK hP q 5 hw rfl (zin_vp hi) hd (by rw [zrf_map (adK := adK) hv]; exact kk))
  case iastore =>
    obtain ⟨q, i, x, t, rfl, hs1⟩ := zi_VA hs
    obtain ⟨n, rf, he, hs2⟩ := zi_ar hs1
    obtain ⟨hi, hs3⟩ := zi_zif hs2
    refine zAt_set (o := q) (IHk _ _ _ _ _ hs3) rfl rfl (fun n h => zvS_tl (zvS_tl (zvS_tl h))) (fun hw _ => hw) (fun j hj => ⟨rfl, zsI_ne _ _ _ hj, rfl⟩) ?_
    intro p e R s m args below meth c H locs cells slots Q ls A Gd cy ad adK adV Cx hP hD hS kk
    refine va_iast Cx.1 Cx.2.1 Cx.2.2.2.2.2.2.2.2.1.1 hP hD hS q 1 (zws_get he) rfl (zin_vp hi) hd fun H1 locs1 h1 h2 h3 => kk H1 locs1 ?_ ?_ h3
    · rw [zat_I he, zsI_row]; exact h1
    · rw [zat_I he, zsI_row]; exact h2
  case bastore =>
    obtain ⟨q, i, x, t, rfl, hs1⟩ := zi_VA hs
    obtain ⟨n, rf, ⟨he, hs2⟩ | ⟨he, hs2⟩⟩ := zi_ar2 hs1
    · obtain ⟨hi, hs3⟩ := zi_zif hs2
      refine zAt_set (o := q) (IHk _ _ _ _ _ hs3) rfl rfl (fun n h => zvS_tl (zvS_tl (zvS_tl h))) (fun hw _ => hw) (fun j hj => ⟨rfl, zsI_ne _ _ _ hj, rfl⟩) ?_
      intro p e R s m args below meth c H locs cells slots Q ls A Gd cy ad adK adV Cx hP hD hS kk
      refine va_bast Cx.1 Cx.2.1 Cx.2.2.2.2.2.2.2.2.1.1 hP hD hS q 0 (zws_get he) rfl (zin_vp hi) hd fun H1 locs1 h1 h2 h3 => kk H1 locs1 ?_ ?_ h3
      · rw [zat_I he, zsI_row, ← vp_nar_byte]; exact h1
      · rw [zat_I he, zsI_row, ← vp_nar_byte]; exact h2
    · obtain ⟨hi, hs3⟩ := zi_zif hs2
      obtain ⟨hz, hs3⟩ := zi_zif hs3
      refine zAt_set (o := q) (IHk _ _ _ _ _ hs3) rfl rfl (fun n h => zvS_tl (zvS_tl (zvS_tl h))) (fun hw _ => hw) (fun j hj => ⟨rfl, zsI_ne _ _ _ hj, rfl⟩) ?_
      intro p e R s m args below meth c H locs cells slots Q ls A Gd cy ad adK adV Cx hP hD hS kk
      refine va_zast Cx.1 Cx.2.1 Cx.2.2.2.2.2.2.2.2.1.1 hP hD hS q 3 (zws_get he) rfl (zin_vp hi) hd fun H1 locs1 h1 h2 h3 => kk H1 locs1 ?_ ?_ h3
      · rw [zat_I he, zsI_row]; rw [vp_nar_z hz] at h1; exact h1
      · rw [zat_I he, zsI_row]; rw [vp_nar_z hz] at h2; exact h2
  case lastore =>
    obtain ⟨q, i, x, t, rfl, hs1⟩ := zi_WA hs
    obtain ⟨n, rf, he, hs2⟩ := zi_ar hs1
    obtain ⟨hi, hs3⟩ := zi_zif hs2
    refine zAt_set (o := q) (IHk _ _ _ _ _ hs3) rfl rfl (fun n h => zvS_tl (zvS_tl (zvS_tl h))) (fun hw _ => hw) (fun j hj => ⟨rfl, rfl, zsJ_ne _ _ _ hj⟩) ?_
    intro p e R s m args below meth c H locs cells slots Q ls A Gd cy ad adK adV Cx hP hD hS kk
    refine va_last Cx.1 Cx.2.1 Cx.2.2.2.2.2.2.2.2.1.1 hP hD hS q 2 (zws_get he) rfl (zin_vp hi) hd fun H1 locs1 h1 h2 h3 => kk H1 locs1 ?_ ?_ h3
    · rw [zat_J he, zsJ_row]; exact h1
    · rw [zat_J he, zsJ_row]; exact h2
  case aastore =>
    obtain ⟨q, i, x, t, rfl, hs1⟩ := zi_QA hs
    obtain ⟨hk6, hs1⟩ := zi_zif hs1
    obtain ⟨n, rf, he, hs2⟩ := zi_ar hs1
    obtain ⟨ex, hex, hkx, hs2⟩ := zi_ob hs2
    obtain ⟨hi, hs3⟩ := zi_zif hs2
    have hup : ∀ ad : Nat → Nat, (fun j => (zup rf i.toNatClampNeg (some x) j).map ad) = va_up (fun j => (rf j).map ad) i.toNatClampNeg (some (ad x)) := by
      intro ad; funext j
      by_cases ej : j = i.toNatClampNeg
      · subst ej; unfold zup; rw [zbeq_rf]; simp [va_up]
      · rw [zup_ne ej]; simp [va_up, ej]
    have hsr : (zsR h.1 q i.toNatClampNeg (some x))[q]? = some (a, n, zup rf i.toNatClampNeg (some x)) := zsR_get he
    have hm := zhas1_mem hk6
    simp only [List.mem_cons, List.not_mem_nil, or_false] at hm
    refine zAt_set (o := q) (IHk _ _ _ _ _ hs3) (zsR_len _ _ _ _) (zsz_sR _ _ _ _) (fun n h => zvS_tl (zvS_tl (zvS_tl h))) (fun hw hv => zwf_sR hw (fun w hw => by cases hw; exact zvr hv)) (fun j hj => ⟨zsR_ne hj, rfl, rfl⟩) ?_
    intro p e R s m args below meth c H locs cells slots Q ls A Gd cy ad adK adV Cx hP hD hS kk
    have hz : zat cy ad (zsR h.1 q i.toNatClampNeg (some x), h.2.1, h.2.2) q = zce cy ad (h.2.1 q) (h.2.2 q) (a, n, zup rf i.toNatClampNeg (some x)) := by unfold zat; dsimp only; rw [hsr]
    rcases hm with rfl | rfl
    · have hx7 : ex.1 = 7 := by simpa using zhas1_mem hkx
      have hwx := zws_get (cy := cy) (ad := ad) hex
      rw [zce_ob (by omega), hx7] at hwx
      refine va_astq (r := (RX7, TX7, 3)) Cx.1 Cx.2.1 Cx.2.2.2.2.2.2.2.2.1.1 hP hD hS q 4 x 7 (zws_get he) rfl hwx rfl (zin_vp hi) hd fun H1 locs1 h1 h2 h3 => kk H1 locs1 ?_ ?_ h3
      · rw [hz]; show va_P _ _ (List.set _ _ (_, Sum.inl (cy 4, n, .inr (.inr (.inr (.inr (fun j => (zup rf i.toNatClampNeg (some x) j).map ad))))))) _; rw [hup]; exact h1
      · rw [hz]; show va_D _ (List.set _ _ (_, Sum.inl (cy 4, n, .inr (.inr (.inr (.inr (fun j => (zup rf i.toNatClampNeg (some x) j).map ad))))))); rw [hup]; exact h2
    · have hx9 : ex.1 = 9 := by simpa using zhas1_mem hkx
      have hwx := zws_get (cy := cy) (ad := ad) hex
      rw [zce_ob (by omega), hx9] at hwx
      refine va_astq (r := (RX10, TX10, 1)) Cx.1 Cx.2.1 Cx.2.2.2.2.2.2.2.2.1.1 hP hD hS q 5 x 9 (zws_get he) rfl hwx rfl (zin_vp hi) hd fun H1 locs1 h1 h2 h3 => kk H1 locs1 ?_ ?_ h3
      · rw [hz]; show va_P _ _ (List.set _ _ (_, Sum.inl (cy 5, n, .inr (.inr (.inr (.inr (fun j => (zup rf i.toNatClampNeg (some x) j).map ad))))))) _; rw [hup]; exact h1
      · rw [hz]; show va_D _ (List.set _ _ (_, Sum.inl (cy 5, n, .inr (.inr (.inr (.inr (fun j => (zup rf i.toNatClampNeg (some x) j).map ad))))))); rw [hup]; exact h2
  case arraylength =>
    obtain ⟨q, t, rfl, hs1⟩ := zi_A1 hs
    obtain ⟨e, he, h12, hs2⟩ := zi_al hs1
    have hk := IHk _ _ _ _ _ hs2
    refine ⟨hk.1, ?_⟩
    intro p e' R s m args below meth c A Gd cy adK adV ad0 n0 z0 Cx hn hz hcc hss ad H locs ls ha0 hP hD hS hl hw hvL hvS
    have hw0 := zws_get (cy := cy) (ad := ad) he
    have kk := hk.2 p e' R s m args below meth c A Gd cy adK adV ad0 n0 z0 Cx hn hz hcc hss ad H locs ls ha0 hP hD hS hl hw hvL (zvS_cons zvv_i (zvS_tl hvS))
    have hK := Cx.2.2.2.2.2.2.2.2.1.1
    unfold zce at hw0
    split at hw0
    · exact va_alen Cx.1 Cx.2.1 hK hP q 0 hw0 rfl rfl hd kk
    · exact va_alen Cx.1 Cx.2.1 hK hP q 1 hw0 rfl rfl hd kk
    · exact va_alen Cx.1 Cx.2.1 hK hP q 2 hw0 rfl rfl hd kk
    · exact va_alen Cx.1 Cx.2.1 hK hP q 3 hw0 rfl rfl hd kk
    · exact va_alen Cx.1 Cx.2.1 hK hP q 4 hw0 rfl rfl hd kk
    · exact va_alen Cx.1 Cx.2.1 hK hP q 5 hw0 rfl rfl hd kk
    · exfalso
      obtain ⟨r, hr, -⟩ := hP q _ hw0
      have : e.1 < vwCl.length := (List.getElem?_eq_some_iff.mp hr).1
      exact absurd this (by show ¬ e.1 < 12; omega)
  case checkcast =>
    obtain ⟨q, t, rfl, hs1⟩ := zi_A1 hs
    obtain ⟨n, rf, he, hs2⟩ := zi_ar hs1
    have hk := IHk _ _ _ _ _ hs2
    refine ⟨hk.1, ?_⟩
    intro p e' R s m args below meth c A Gd cy adK adV ad0 n0 z0 Cx hn hz hcc hss ad H locs ls ha0 hP hD hS hl hw hvL hvS
    have hw0 := zws_get (cy := cy) (ad := ad) he
    have hfc : s.vm.findClass "[I" = some (cy 1) := ((Cx.2.2.2.2.2.2.2.2.1.1).2 1 _ rfl).2
    exact va_castA Cx.1 Cx.2.1 Cx.2.2.2.2.1 (Cx.2.2.2.2.2.1 _ hlk) hP q hw0 hfc hd (hk.2 p e' R s m args below meth c A Gd cy adK adV ad0 n0 z0 Cx hn hz hcc hss ad H locs ls ha0 hP hD hS hl hw hvL hvS)
end zarr
end
section
/-! ===== new cells; ends ===== -/
def zclDF : Prop := ∀ (c : Nat) (r : vw_C), vwCl[c]? = some r → ∀ k, k < r.2.2 → defaultValue (zTy c k) = zfv id (fun _ => 0) (fun _ => 0) zno (zTy c k) k
theorem zfv_no {ad ad' : Nat → Nat} {I : Nat → Int32} {J : Nat → Int64} {ty : FieldType} {k : Nat} : zfv ad I J zno ty k = zfv ad' I J zno ty k := by
  unfold zfv; split <;> rfl
section znew
variable {G : Nat → zM} {l : Launch} {S : zO} {D j : Nat} {k : zKt} {L : zL} {st : List Value} {h : zH} {res : zR}
theorem zAt_new {pc pc' : Nat} {t : List Value} {e0 : zE} {h' : zH} (hk : zAt G l D j pc' L (.ref h.1.length :: t) h' res) (h1 : h'.1 = h.1 ++ [e0]) (ho : ∀ j, j < h.1.length → h'.2.1 j = h.2.1 j ∧ h'.2.2 j = h.2.2 j) (hwf : zwf h → zwf h') (hv : ∀ n, (∀ v ∈ st, zvv n v) → ∀ v ∈ t, zvv n v)
    (hrow : ∀ (p : Program) (e : Env) (R : Room) (s : State) (m : MethodId) (args : Array Value) (below : List Frame) (meth : Method) (c : Code) (H : Heap) (locs : List Loc) (cells slots : Nat) (Q : State → Prop) (ls : Array Slot) (A : Nat → Prop) (Gd : va_G) (cy : Nat → ClassId) (ad adK adV : Nat → Nat), zC (G j) D p R s m args meth c A Gd cy adK adV → va_P Gd vwCl (zws cy ad h) H → va_D A (zws cy ad h) → va_S A s.heap H locs → ls.size = (G j).2.2.1 → cells + 1 ≤ R.cells → slots + zsc e0 ≤ R.slots →
      (∀ (q : Nat) (H1 : Heap), va_P Gd vwCl (zws cy ad h ++ [(q, zce cy (zad ad h.1.length q) (h'.2.1 h.1.length) (h'.2.2 h.1.length) e0)]) H1 → va_D A (zws cy ad h ++ [(q, zce cy (zad ad h.1.length q) (h'.2.1 h.1.length) (h'.2.2 h.1.length) e0)]) → va_S A s.heap H1 locs → W p l e R s m args below meth c H1 locs (cells + 1) (slots + zsc e0) Q (F0 m pc' ls (.ref q :: t.map (ztr ad adK)))) → W p l e R s m args below meth c H locs cells slots Q (F0 m pc ls (st.map (ztr ad adK)))) : zAt G l D j pc L st h res := by
  have hlen : h'.1.length = h.1.length + 1 := by rw [h1]; simp
  have hsz : zsz h'.1 = zsz h.1 + zsc e0 := by rw [h1]; exact zsz_push _ _
  obtain ⟨hm1, hm2⟩ := hk.1
  refine ⟨⟨by omega, by omega⟩, ?_⟩
  intro p e R s m args below meth c A Gd cy adK adV ad0 n0 z0 Cx hn hz hcc hss ad H locs ls ha0 hP hD hS hl hw hvL hvS
  refine hrow p e R s m args below meth c H locs _ _ _ ls A Gd cy ad adK adV Cx hP hD hS hl.1 (by rw [hcc]; omega) (by rw [hss]; omega) fun q H1 hP1 hD1 hS1 => ?_
  rw [zws_push hw h1 ho rfl] at hP1 hD1
  have hext : ∀ i, i < h.1.length → zad ad h.1.length q i = ad i := fun i hi => zad_lt hi
  have := hk.2 p e R s m args below meth c A Gd cy adK adV ad0 n0 z0 Cx (by omega) (by omega) hcc hss (zad ad h.1.length q) H1 locs ls (fun i hi => by rw [hext i (by omega)]; exact ha0 i hi) hP1 hD1 hS1 (zhas_ext hl hext hvL) (hwf hw) (fun i v q => zvv_le (hvL i v q) (by omega)) (zvS_cons (zvv_r (by omega)) (fun v q => zvv_le (hv _ hvS v q) (by omega)))
  rw [show h'.1.length - n0 = h.1.length - n0 + 1 by omega, show zsz h'.1 - z0 = zsz h.1 - z0 + zsc e0 by omega] at this
  have hst : (Value.ref h.1.length :: t).map (ztr (zad ad h.1.length q) adK) = .ref q :: t.map (ztr ad adK) := by
    rw [List.map_cons, zmtr_ext hext (hv _ hvS)]
    show Value.ref (zad ad h.1.length q h.1.length) :: _ = _
    rw [zad_n]
  rw [hst] at this
  exact this
theorem znew_ho (h : zH) (kd n : Nat) : ∀ j, j < h.1.length → (znew h kd n).2.1 j = h.2.1 j ∧ (znew h kd n).2.2 j = h.2.2 j := fun j hj => ⟨zrI_ne _ _ (by omega), zrJ_ne _ _ (by omega)⟩
theorem zin_100k {n : Int32} (h : zin n 100000 = true) : ¬ n < 0 ∧ n.toNatClampNeg < 100000 := by
  obtain ⟨h1, h2⟩ := vp_in_iff.mp (zin_vp h)
  refine ⟨fun q => ?_, ?_⟩
  · have := Int32.lt_iff_toInt_lt.mp q
    simp at this
    omega
  · show n.toInt.toNat < 100000
    omega
set_option maxHeartbeats 4000000 in
theorem zstep_new (hcl : zclOK) (hdf : zclDF) (IHk : ∀ pc L st h r, k pc L st h = some r → zAt G l D j pc L st h r) (harr : ∀ ty ∈ [FieldType.byte, .int, .long, .boolean], Cond.arrayClass ty ∈ zGT) {e : zI} (he : zok G (G j) e)
    (hns : match e.2.1 with
      | .new _ => True | .newarray _ => True | .anewarray _ => True | _ => False)
    (hs : zstep G S D e k L st h = some res) : zAt G l D j e.1 L st h res := by
  obtain ⟨pc, ins, a, b, ks, z, zl, sw⟩ := e
  obtain ⟨hd, hlk⟩ := he
  cases ins <;> first | (exact absurd hns id; done) | skip
  all_goals (unfold zstep at hs; dsimp only at hs)
  all_goals (replace hd := hd.resolve_left (by intro q; cases q); dsimp only [zln] at hd; dsimp only [zlk] at hlk)
  case new =>
    obtain ⟨ha, hs1⟩ := zi_zif hs
    obtain ⟨C, T, N, hc, h1, h2, h3⟩ := hlk
    obtain ⟨h12, hin, htys, hnm⟩ := hcl a _ hc
    have hN := zNf_eq hc
    refine zAt_new (IHk _ _ _ _ _ hs1) rfl (znew_ho h a 0) zwf_new (fun n h => h) ?_
    intro p e R s m args below meth c H locs cells slots Q ls A Gd cy ad adK adV Cx hP hD hS hsz0 hcells hslots kk
    have hts := Cx.2.2.2.2.2.1
    have hsc : zsc (a, 0, zno) = N := by unfold zsc; rw [if_pos h12]; exact hN
    rw [hsc] at hslots kk
    refine va_new (ci := a) (fs := zfs ad (fun _ => 0) (fun _ => 0) a zno) (C := C) (T := T) (N := N) Cx.1 Cx.2.1 hts hin (zTy a) htys Cx.2.2.2.2.1 (hts _ h1) (hts _ h2) (hts _ h3) Cx.2.2.2.2.2.2.2.2.1.1 hP hD hS Cx.2.2.2.2.2.2.2.2.2.1 hc ?_ hcells hslots hd fun q H1 hP1 hD1 hS1 => kk q H1 ?_ ?_ hS1
    · intro i hi
      rw [hdf a _ hc i hi]
      unfold vp_V
      rw [List.getD_eq_getElem?_getD, zfs_get (by rw [hN]; exact hi)]
      exact zfv_no
    · rw [zce_ob (e := (a, 0, zno)) h12]
      have e1 : (znew h a 0).2.1 h.1.length = fun _ => 0 := zrI_row _ _ _
      have e2 : (znew h a 0).2.2 h.1.length = fun _ => 0 := zrJ_row _ _ _
      rw [e1, e2]
      have e3 : zfs (zad ad h.1.length q) (fun _ => 0) (fun _ => 0) a zno = zfs ad (fun _ => 0) (fun _ => 0) a zno := List.map_congr_left fun i _ => zfv_no
      dsimp only
      rw [e3]
      exact hP1
    · rw [zce_ob (e := (a, 0, zno)) h12]
      have e1 : (znew h a 0).2.1 h.1.length = fun _ => 0 := zrI_row _ _ _
      have e2 : (znew h a 0).2.2 h.1.length = fun _ => 0 := zrJ_row _ _ _
      rw [e1, e2]
      have e3 : zfs (zad ad h.1.length q) (fun _ => 0) (fun _ => 0) a zno = zfs ad (fun _ => 0) (fun _ => 0) a zno := List.map_congr_left fun i _ => zfv_no
      dsimp only
      rw [e3]
      exact hD1
  case newarray =>
    obtain ⟨n, t, rfl, hs1⟩ := zi_I1 hs
    obtain ⟨hk4, hs1⟩ := zi_zif hs1
    obtain ⟨hn, hs1⟩ := zi_zif hs1
    obtain ⟨hn0, hn1⟩ := zin_100k hn
    refine zAt_new (IHk _ _ _ _ _ hs1) rfl (znew_ho h a _) zwf_new (fun n h => zvS_tl h) ?_
    intro p e R s m args below meth c H locs cells slots Q ls A Gd cy ad adK adV Cx hP hD hS hsz0 hcells hslots kk
    have hts := Cx.2.2.2.2.2.1
    have hK := Cx.2.2.2.2.2.2.2.2.1.1
    have e1 : (znew h a n.toNatClampNeg).2.1 h.1.length = fun _ => 0 := zrI_row _ _ _
    have e2 : (znew h a n.toNatClampNeg).2.2 h.1.length = fun _ => 0 := zrJ_row _ _ _
    rw [e1, e2] at kk
    rcases hlk with ⟨rfl, rfl⟩ | ⟨rfl, rfl⟩ | ⟨rfl, rfl⟩ | ⟨rfl, rfl⟩
    · refine va_newa (atype := .byte) (ty := .byte) (a0 := (n.toNatClampNeg, .inl (fun _ => 0))) Cx.1 Cx.2.1 (hts _ (harr .byte (by simp))) rfl hK hP hD hS Cx.2.2.2.2.2.2.2.2.2.1 (fun _ => rfl) hn0 rfl (by show _ * 1 ≤ _; omega) hcells hslots hd fun q cA H1 hK1 hP1 hD1 hS1 => ?_
      have : cA = cy 0 := Option.some.inj (((hK1.2 6 _ rfl).2 : s.vm.findClass ("[" ++ FieldType.byte.toString) = some cA).symm.trans (hK.2 0 _ rfl).2)
      subst this
      exact kk q H1 hP1 hD1 hS1
    · refine va_newa (atype := .int) (ty := .int) (a0 := (n.toNatClampNeg, .inl (fun _ => 0))) Cx.1 Cx.2.1 (hts _ (harr .int (by simp))) rfl hK hP hD hS Cx.2.2.2.2.2.2.2.2.2.1 (fun _ => rfl) hn0 rfl (by show _ * 4 ≤ _; omega) hcells hslots hd fun q cA H1 hK1 hP1 hD1 hS1 => ?_
      have : cA = cy 1 := Option.some.inj (((hK1.2 6 _ rfl).2 : s.vm.findClass ("[" ++ FieldType.int.toString) = some cA).symm.trans (hK.2 1 _ rfl).2)
      subst this
      exact kk q H1 hP1 hD1 hS1
    · refine va_newa (atype := .long) (ty := .long) (a0 := (n.toNatClampNeg, .inr (.inl (fun _ => 0)))) Cx.1 Cx.2.1 (hts _ (harr .long (by simp))) rfl hK hP hD hS Cx.2.2.2.2.2.2.2.2.2.1 (fun _ => rfl) hn0 rfl (by show _ * 8 ≤ _; omega) hcells hslots hd fun q cA H1 hK1 hP1 hD1 hS1 => ?_
      have : cA = cy 2 := Option.some.inj (((hK1.2 6 _ rfl).2 : s.vm.findClass ("[" ++ FieldType.long.toString) = some cA).symm.trans (hK.2 2 _ rfl).2)
      subst this
      exact kk q H1 hP1 hD1 hS1
    · refine va_newa (atype := .boolean) (ty := .boolean) (a0 := (n.toNatClampNeg, .inl (fun _ => 0))) Cx.1 Cx.2.1 (hts _ (harr .boolean (by simp))) rfl hK hP hD hS Cx.2.2.2.2.2.2.2.2.2.1 (fun _ => rfl) hn0 rfl (by show _ * 1 ≤ _; omega) hcells hslots hd fun q cA H1 hK1 hP1 hD1 hS1 => ?_
      have : cA = cy 3 := Option.some.inj (((hK1.2 6 _ rfl).2 : s.vm.findClass ("[" ++ FieldType.boolean.toString) = some cA).symm.trans (hK.2 3 _ rfl).2)
      subst this
      exact kk q H1 hP1 hD1 hS1
  case anewarray =>
    obtain ⟨n, t, rfl, hs1⟩ := zi_I1 hs
    obtain ⟨hk4, hs1⟩ := zi_zif hs1
    obtain ⟨hn, hs1⟩ := zi_zif hs1
    obtain ⟨hn0, hn1⟩ := zin_100k hn
    refine zAt_new (IHk _ _ _ _ _ hs1) rfl (znew_ho h a _) zwf_new (fun n h => zvS_tl h) ?_
    intro p e R s m args below meth c H locs cells slots Q ls A Gd cy ad adK adV Cx hP hD hS hsz0 hcells hslots kk
    have hts := Cx.2.2.2.2.2.1
    have hK := Cx.2.2.2.2.2.2.2.2.1.1
    have hNN := Cx.2.2.2.2.2.2.2.2.1.2.1
    rcases hlk with ⟨rfl, hl⟩ | ⟨rfl, hl⟩
    · refine va_newq (C := RX7) Cx.1 Cx.2.1 Cx.2.2.2.2.1 (hts _ hl) hNN.2.2.1 hK hP hD hS Cx.2.2.2.2.2.2.2.2.2.1 hn0 rfl (by omega) hcells hslots hd fun q cA H1 hK1 hP1 hD1 hS1 => ?_
      have : cA = cy 4 := by
        obtain ⟨_, _, _, _, _, f1⟩ := (hK1.2 6 _ rfl).2
        obtain ⟨_, _, _, _, _, f2⟩ := (hK.2 4 _ rfl).2
        exact Option.some.inj (f1.symm.trans f2)
      subst this
      exact kk q H1 hP1 hD1 hS1
    · refine va_newq (C := RX10) Cx.1 Cx.2.1 Cx.2.2.2.2.1 (hts _ hl) hNN.2.2.2 hK hP hD hS Cx.2.2.2.2.2.2.2.2.2.1 hn0 rfl (by omega) hcells hslots hd fun q cA H1 hK1 hP1 hD1 hS1 => ?_
      have : cA = cy 5 := by
        obtain ⟨_, _, _, _, _, f1⟩ := (hK1.2 6 _ rfl).2
        obtain ⟨_, _, _, _, _, f2⟩ := (hK.2 5 _ rfl).2
        exact Option.some.inj (f1.symm.trans f2)
      subst this
      exact kk q H1 hP1 hD1 hS1
set_option maxHeartbeats 4000000 in
/-- ends and switches -/
theorem zstep_ret (IHk : ∀ pc L st h r, k pc L st h = some r → zAt G l D j pc L st h r) {e : zI} (he : zok G (G j) e)
    (hns : match e.2.1 with
      | .ireturn => True | .lreturn => True | .areturn => True | .return_ => True | .tableswitch _ _ _ _ => True | _ => False)
    (hs : zstep G S D e k L st h = some res) : zAt G l D j e.1 L st h res := by
  obtain ⟨pc, ins, a, b, ks, z, zl, sw⟩ := e
  obtain ⟨hd, hlk⟩ := he
  cases ins <;> first | (exact absurd hns id; done) | skip
  all_goals (unfold zstep at hs; dsimp only at hs)
  case tableswitch d lo hi offs =>
    dsimp only [zlk] at hlk
    obtain ⟨⟨n, hd⟩, ht, hhi, hsw⟩ := hlk
    obtain ⟨x, t, rfl, hs1⟩ := zi_I1 hs
    have key : ∀ (sw : List (Int32 × Nat)) (base : Nat), hi = lo + (base : Int) + (sw.length : Int) - 1 → (∀ (i : Nat) (q : Int32 × Nat), sw[i]? = some q → q.1.toInt = lo + (base : Int) + (i : Int) ∧ ∃ o, offs[base + i]? = some o ∧ (pc : Int) + o = (q.2 : Int)) → (∀ i : Nat, i < base → ¬ x.toInt = lo + (i : Int)) →
        zswi x sw a (fun t' => k t' L t h) = some res → ∃ tgt : Nat, k tgt L t h = some res ∧ ((x.toInt < lo ∨ hi < x.toInt) ∧ (pc : Int) + d = (tgt : Int) ∨ (¬ x.toInt < lo ∧ ¬ hi < x.toInt ∧ ∃ o, offs[(x.toInt - lo).toNat]? = some o ∧ (pc : Int) + o = (tgt : Int))) := by
      intro sw
      induction sw with
      | nil =>
        intro base hh _ hne hz
        refine ⟨a, hz, Or.inl ⟨?_, ht⟩⟩
        by_cases q : x.toInt < lo
        · exact Or.inl q
        · refine Or.inr ?_
          simp only [List.length_nil] at hh
          by_cases q2 : hi < x.toInt
          · exact q2
          · exact absurd (show x.toInt = lo + (((x.toInt - lo).toNat : Nat) : Int) by omega) (hne _ (by omega))
      | cons c r ih =>
        intro base hh hq hne hz
        obtain ⟨c, tg⟩ := c
        obtain ⟨g1, o, g2, g3⟩ := hq 0 _ rfl
        unfold zswi at hz
        dsimp only at g1 g3
        simp only [List.length_cons] at hh
        split at hz
        · rename_i hx
          subst hx
          refine ⟨tg, hz, Or.inr ⟨by omega, by omega, o, ?_, g3⟩⟩
          rw [show (x.toInt - lo).toNat = base + 0 by omega]; exact g2
        · rename_i hx
          refine ih (base + 1) (by omega) (fun i q hi2 => ?_) (fun i hi2 => ?_) hz
          · obtain ⟨f1, o2, f2, f3⟩ := hq (i + 1) q (by simpa using hi2)
            exact ⟨by rw [f1]; omega, o2, by rw [show base + 1 + i = base + (i + 1) by omega]; exact f2, f3⟩
          · by_cases hb : i < base
            · exact hne i hb
            · intro q
              exact hx (Int32.toInt_inj.mp (by rw [g1, q]; omega))
    obtain ⟨tgt, hs2, hcase⟩ := key sw 0 (by omega) (fun i q hq => by obtain ⟨f1, o, f2, f3⟩ := hsw i q hq; exact ⟨by rw [f1]; omega, o, by rw [Nat.zero_add]; exact f2, f3⟩) (fun i hi2 => by omega) hs1
    refine zAt_row (IHk _ _ _ _ _ hs2) (fun n _ h => zvS_tl h) (fun p e R s m args below meth c H locs cells slots Q ls ad adK hx hb hown hts _ hl kk => ?_)
    rcases hcase with ⟨c1, c2⟩ | ⟨c1, c2, o, c3, c4⟩
    · exact lv_tableOut hx hb hd c1 c2 kk
    · exact lv_tableIn hx hb hd c1 c2 c3 c4 kk
  all_goals (replace hd := hd.resolve_left (by intro q; cases q); dsimp only [zln] at hd; dsimp only [zlk] at hlk)
  case ireturn =>
    split at hs
    · rename_i v
      have hr : res = (some (.int v), h) ∧ ((G j).2.2.2.1 = some .int ∨ ((G j).2.2.2.1 = some .boolean ∧ zbo v = true)) := by
        split at hs
        · obtain ⟨hz, hs⟩ := zi_zif hs
          exact ⟨(Option.some.inj hs).symm, Or.inr ⟨hlk, hz⟩⟩
        · rename_i hb3
          refine ⟨(Option.some.inj hs).symm, Or.inl ?_⟩
          split at hlk
          · exact absurd rfl hb3
          · exact hlk
      obtain ⟨rfl, hr⟩ := hr
      refine ⟨⟨Nat.le_refl _, Nat.le_refl _⟩, ?_⟩
      intro p e R s m args below meth c A Gd cy adK adV ad0 n0 z0 Cx hn hz hcc hss ad H locs ls ha0 hP hD hS hl hw hvL hvS
      have hq : ∀ t : State, t.heap = H → s.WarmedH t.vm → zQ Gd cy adK n0 ad0 A (some (.int v)) h args s (.returned (some (.int v))) t := fun t ht hW => ⟨⟨ad, ha0, rfl, by rw [ht]; exact hP, hD, hw, fun w hw => by cases hw; exact zvv_i⟩, hS.F ht⟩
      rcases hr with hr | ⟨hr, hz2⟩
      · exact W.iret Cx.1 Cx.2.1 (Cx.2.2.1.trans hr) hq hS.2.2 hd Cx.2.2.2.2.2.2.1
      · exact W.zret (ty := .boolean) Cx.1 Cx.2.1 (Cx.2.2.1.trans hr) (zbo_fits hz2).1 hq hS.2.2 hd Cx.2.2.2.2.2.2.1
    · cases hs
  case lreturn =>
    split at hs
    · rename_i v
      have hr := (Option.some.inj hs).symm
      subst hr
      refine ⟨⟨Nat.le_refl _, Nat.le_refl _⟩, ?_⟩
      intro p e R s m args below meth c A Gd cy adK adV ad0 n0 z0 Cx hn hz hcc hss ad H locs ls ha0 hP hD hS hl hw hvL hvS
      exact W.lret Cx.1 Cx.2.1 (Cx.2.2.1.trans hlk) (fun t ht hW => ⟨⟨ad, ha0, rfl, by rw [ht]; exact hP, hD, hw, fun w hw => by cases hw; exact zvv_l⟩, hS.F ht⟩) hS.2.2 hd Cx.2.2.2.2.2.2.1
    · cases hs
  case areturn =>
    split at hs
    · rename_i v
      have hr := (Option.some.inj hs).symm
      subst hr
      refine ⟨⟨Nat.le_refl _, Nat.le_refl _⟩, ?_⟩
      intro p e R s m args below meth c A Gd cy adK adV ad0 n0 z0 Cx hn hz hcc hss ad H locs ls ha0 hP hD hS hl hw hvL hvS
      have hq : ∀ t : State, t.heap = H → s.WarmedH t.vm → zQ Gd cy adK n0 ad0 A (some (.ref v)) h args s (.returned (some (.ref (ad v)))) t := fun t ht hW => ⟨⟨ad, ha0, rfl, by rw [ht]; exact hP, hD, hw, fun w hw => by cases hw; exact zvS_hd hvS⟩, hS.F ht⟩
      rcases hlk with ⟨n, hn⟩ | ⟨n, hn⟩
      · exact W.aret Cx.1 Cx.2.1 (Cx.2.2.1.trans hn) (Or.inl ⟨_, rfl⟩) (Or.inr ⟨_, rfl⟩) hq hS.2.2 hd Cx.2.2.2.2.2.2.1
      · exact W.aret Cx.1 Cx.2.1 (Cx.2.2.1.trans hn) (Or.inr ⟨_, rfl⟩) (Or.inr ⟨_, rfl⟩) hq hS.2.2 hd Cx.2.2.2.2.2.2.1
    · cases hs
  case return_ =>
    split at hs
    · have hr := (Option.some.inj hs).symm
      subst hr
      refine ⟨⟨Nat.le_refl _, Nat.le_refl _⟩, ?_⟩
      intro p e R s m args below meth c A Gd cy adK adV ad0 n0 z0 Cx hn hz hcc hss ad H locs ls ha0 hP hD hS hl hw hvL hvS
      exact W.vret Cx.1 Cx.2.1 (Cx.2.2.1.trans hlk) (fun t ht hW => ⟨⟨ad, ha0, rfl, by rw [ht]; exact hP, hD, hw, fun w hw => by cases hw⟩, hS.F ht⟩) hS.2.2 hd Cx.2.2.2.2.2.2.1
    · cases hs
end znew
end
section
/-! ===== calls ===== -/
theorem zKK_calling {Gd : va_G} {cy : Nat → ClassId} {adK adV : Nat → Nat} {A : Nat → Prop} {U : State} (g : JFrame) (mk : MethodId) (a : Array Value) (h : zKK Gd cy adK adV A U) : zKK Gd cy adK adV A (U.calling g mk a) := by
  obtain ⟨h1, ⟨h2, h3, h4, h5⟩, h6, h7, h8, h9⟩ := h
  have hal : U.vm.Alike (U.calling g mk a).vm := Vm.Alike.refl U.vm
  refine ⟨va_K.moved (u := U) hal h1, ⟨fun x i y hst hm => va_Nw.same rfl (rfl : U.vm = (U.calling g mk a).vm) (h2 x i y hst hm), va_Nw.same rfl (rfl : U.vm = (U.calling g mk a).vm) h3, va_AO.moved hal h4, va_AO.moved hal h5⟩, ?_, fun i t ht => vk_R.same (rfl : (U.calling g mk a).vm = U.vm) (h7 i t ht), ?_, ?_⟩
  · exact vk_S.moved (U := U.calling g mk a) hal h6
  · exact va_Z.moved (U := U.calling g mk a) hal h8
  · exact va_Zq.moved (U := U.calling g mk a) hal h9
theorem zKK_warm {Gd : va_G} {cy : Nat → ClassId} {adK adV : Nat → Nat} {A A1 : Nat → Prop} {s U : State} {H : Heap} {locs : List Loc} (h : zKK Gd cy adK adV A s) (hS : va_S A s.heap H locs) (hU : U.heap = H) (hW : s.WarmedH U.vm) (hA : ∀ q, A1 q → A q) : zKK Gd cy adK adV A1 U := by
  obtain ⟨h1, ⟨h2, h3, h4, h5⟩, h6, h7, h8, h9⟩ := h
  have hal := hW.alike
  refine ⟨va_K.moved hal h1, ⟨fun x i y hst hm => va_Nw.warmM hW (h2 x i y hst hm), va_Nw.warmC hW h3, va_AO.moved hal h4, va_AO.moved hal h5⟩, ?_, fun i t ht => vk_R.warm hW (h7 i t ht), ?_, ?_⟩
  · rw [hU]; exact ((h6.kept hS.2.1).moved hal).narrow hA
  · rw [hU]; exact ((h8.kept hS.2.1).moved hal).narrow hA
  · rw [hU]; exact ((h9.kept hS.2.1).moved hal).narrow hA
/-- the start of an activation -/
def zPc (Gd : va_G) (cy : Nat → ClassId) (adK adV ad : Nat → Nat) (sz : Nat) (args : List Value) (h : zH) : Array Value → State → Prop := va_Pc (args.map (ztr ad adK)) (fun U => U.heap.size = sz ∧ va_P Gd vwCl (zws cy ad h) U.heap ∧ zKK Gd cy adK adV (va_A (zws cy ad h) sz) U ∧ va_D (fun _ => True) (zws cy ad h))
theorem zPc_blind {Gd : va_G} {cy : Nat → ClassId} {adK adV ad : Nat → Nat} {sz : Nat} {args : List Value} {h : zH} : FrameBlind (zPc Gd cy adK adV ad sz args h) := fun a U g mk q => ⟨q.1, q.2.1, q.2.2.1, zKK_calling g mk a q.2.2.2.1, q.2.2.2.2⟩
def zrm (D : Nat) (h h' : zH) : Room := { frames := D, cells := h'.1.length - h.1.length, slots := zsz h'.1 - zsz h.1, locals := 64 * D }
theorem zlg_len {ad adK : Nat → Nat} : ∀ args : List Value, (lg_sl (args.map (ztr ad adK))).length = (zar0 args).length
  | [] => rfl
  | v :: r => by
    have ih := zlg_len (ad := ad) (adK := adK) r
    unfold lg_sl at ih ⊢
    cases v <;> simp [zar0, ztr, Value.category] at ih ⊢ <;> omega
theorem zar_in {ad adK : Nat → Nat} : ∀ (args : List Value) (n i : Nat) (v : Value), (zar0 args)[i]? = some (some v) → (n + i, ztr ad adK v) ∈ lv_args n (args.map (ztr ad adK))
  | [], _, i, _, h => by simp [zar0] at h
  | w :: r, n, i, v, h => by
    have two : ∀ x : Value, x.category = 2 → zar0 (x :: r) = some x :: none :: zar0 r → (ztr ad adK x).category = 2 → ((zar0 (x :: r))[i]? = some (some v)) → (n + i, ztr ad adK v) ∈ lv_args n ((x :: r).map (ztr ad adK)) := by
      intro x hx e hc hh
      rw [e] at hh
      rw [List.map_cons, lv_args, if_pos hc]
      match i, hh with
      | 0, hh => simp at hh; subst hh; exact List.mem_cons_self
      | 1, hh => simp at hh
      | i + 2, hh =>
        have := zar_in (ad := ad) (adK := adK) r (n + 2) i v (by simpa using hh)
        rw [show n + (i + 2) = n + 2 + i by omega]
        exact List.mem_cons_of_mem _ this
    have one : ∀ x : Value, zar0 (x :: r) = some x :: zar0 r → ¬ (ztr ad adK x).category = 2 → ((zar0 (x :: r))[i]? = some (some v)) → (n + i, ztr ad adK v) ∈ lv_args n ((x :: r).map (ztr ad adK)) := by
      intro x e hc hh
      rw [e] at hh
      rw [List.map_cons, lv_args, if_neg hc]
      match i, hh with
      | 0, hh => simp at hh; subst hh; exact List.mem_cons_self
      | i + 1, hh =>
        have := zar_in (ad := ad) (adK := adK) r (n + 1) i v (by simpa using hh)
        rw [show n + (i + 1) = n + 1 + i by omega]
        exact List.mem_cons_of_mem _ this
    cases w <;> first | exact two _ rfl rfl rfl h | exact one _ rfl (by simp [ztr, Value.category]) h
theorem zpad_get : ∀ (n : Nat) (L : zL) (i : Nat) (v : Value), (zpad n L)[i]? = some (some v) → L[i]? = some (some v)
  | 0, L, i, v, h => by simp [zpad] at h
  | n + 1, [], 0, v, h => by simp [zpad] at h
  | n + 1, [], i + 1, v, h => by
    have := zpad_get n [] i v (by simpa [zpad] using h)
    simp at this
  | n + 1, w :: r, 0, v, h => by simpa [zpad] using h
  | n + 1, w :: r, i + 1, v, h => by
    have := zpad_get n r i v (by simpa [zpad] using h)
    simpa using this
theorem zar0_mem : ∀ (args : List Value) (i : Nat) (v : Value), (zar0 args)[i]? = some (some v) → v ∈ args
  | [], i, v, h => by simp [zar0] at h
  | w :: r, i, v, h => by
    have two : ∀ x : Value, zar0 (x :: r) = some x :: none :: zar0 r → ((zar0 (x :: r))[i]? = some (some v)) → v ∈ x :: r := by
      intro x e hh
      rw [e] at hh
      match i, hh with
      | 0, hh => simp at hh; subst hh; exact List.mem_cons_self
      | 1, hh => simp at hh
      | i + 2, hh => exact List.mem_cons_of_mem _ (zar0_mem r i v (by simpa using hh))
    have one : ∀ x : Value, zar0 (x :: r) = some x :: zar0 r → ((zar0 (x :: r))[i]? = some (some v)) → v ∈ x :: r := by
      intro x e hh
      rw [e] at hh
      match i, hh with
      | 0, hh => simp at hh; subst hh; exact List.mem_cons_self
      | i + 1, hh => exact List.mem_cons_of_mem _ (zar0_mem r i v (by simpa using hh))
    cases w <;> first | exact two _ rfl h | exact one _ rfl h
/-- A METHOD'S CONTRACT out of a pure run from its entry -/
theorem zMet {G : Nat → zM} {l : Launch} {D j : Nat} {args : List Value} {h : zH} {res : zR} (hAt : zAt G l D j 0 (zpad (G j).2.2.1 (zar0 args)) [] h res) (hy : plainName (G j).1.cls = true) (hlen : (zar0 args).length ≤ (G j).2.2.1) (hw : zwf h) (hv : ∀ v ∈ args, zvv h.1.length v) (Gd : va_G) (cy : Nat → ClassId) (adK adV ad : Nat → Nat) (sz : Nat) :
    Met l (G j).1 (Cond.code (G j).1 (G j).2.1 (G j).2.2.1 (G j).2.2.2.1 :: zGT) (zrm D h res.2) (zPc Gd cy adK adV ad sz args h) (zQ Gd cy adK h.1.length ad (va_A (zws cy ad h) sz) res.1 res.2) (res.2.1.length - h.1.length) (zsz res.2.1 - zsz h.1) (va_A (zws cy ad h) sz) := by
  refine Met.ofW (cc := (G j).2.1) (maxL := (G j).2.2.1) (ret := (G j).2.2.2.1) hy rfl ?_
  intro p e s m args' below meth c s₁ B hml hv'
  obtain ⟨rfl, hsz, hP, hK, hD0⟩ := hv'
  subst hsz
  have hts := atoms_spec (ws := Cond.code (G j).1 (G j).2.1 (G j).2.2.1 (G j).2.2.2.1 :: zGT) B.pre
  have hown : s.vm.findClass (G j).1.cls = some m.cls := findClass_of_methodNamed B.named
  have hnm : meth.name = (G j).1.name := (name_of_methodNamed B.named B.method).1
  have hD := hD0.self (sz := s.heap.size)
  have hl := lv_entry (args.map (ztr ad adK)) (n := (G j).2.2.1) (by rw [zlg_len]; exact hlen)
  rw [lg_entry_eq]
  have hz : zhas ((lg_sl (args.map (ztr ad adK)) ++ List.replicate ((G j).2.2.1 - (lg_sl (args.map (ztr ad adK))).length) Slot.unset).toArray) (G j).2.2.1 ad adK (zpad (G j).2.2.1 (zar0 args)) := by
    refine ⟨hl.1, hl.2.1, fun i v hi => ?_⟩
    have := zar_in (ad := ad) (adK := adK) args 0 i v (zpad_get _ _ _ _ hi)
    rw [Nat.zero_add] at this
    exact hl.2.2 _ this
  have := hAt.2 p e (zrm D h res.2) s m (args.map (ztr ad adK)).toArray below meth c (va_A (zws cy ad h) s.heap.size) Gd cy adK adV ad h.1.length (zsz h.1) ⟨B.exec, B.bytes, B.returns, hml, hown, fun w hw => hts w (List.mem_cons_of_mem _ hw), B.notSynchronized, hnm, hK, fun q hq => Or.inr hq, Nat.le_refl _, Nat.le_refl _⟩ (Nat.le_refl _) (Nat.le_refl _) rfl rfl ad s.heap [] _ (fun _ _ => rfl) hP hD va_S.rf hz hw (fun i v hi => hv v (zar0_mem args i v (zpad_get _ _ _ _ hi))) (fun v hv => by cases hv)
  rw [Nat.sub_self, Nat.sub_self] at this
  exact this
theorem zi_pop {f : List Value → List Value → Option zR} {r : zR} : ∀ (n : Nat) (acc st : List Value), zpop n acc st f = some r → ∃ as t, st = as.reverse ++ t ∧ as.length = n ∧ f (as ++ acc) t = some r
  | 0, acc, st, h => ⟨[], st, rfl, rfl, h⟩
  | n + 1, acc, [], h => by cases h
  | n + 1, acc, v :: st, h => by
    obtain ⟨as, t, e1, e2, e3⟩ := zi_pop n (v :: acc) st h
    refine ⟨as ++ [v], t, ?_, by simp [e2], ?_⟩
    · rw [e1]; simp
    · simpa using e3
theorem zi_kI {o : Option zR} {sh : List zE} {k : Int32 → zTI → zTJ → Option zR} {r : zR} (h : zkI o sh k = some r) : ∃ x h2, o = some (some (.int x), h2) ∧ h2.1 = sh ∧ k x h2.2.1 h2.2.2 = some r := by
  unfold zkI at h; split at h
  · rename_i x h2
    by_cases c : h2.1 = sh
    · rw [if_pos c] at h; exact ⟨x, h2, rfl, c, h⟩
    · rw [if_neg c] at h; cases h
  · cases h
theorem zi_kJ {o : Option zR} {sh : List zE} {k : Int64 → zTI → zTJ → Option zR} {r : zR} (h : zkJ o sh k = some r) : ∃ x h2, o = some (some (.long x), h2) ∧ h2.1 = sh ∧ k x h2.2.1 h2.2.2 = some r := by
  unfold zkJ at h; split at h
  · rename_i x h2
    by_cases c : h2.1 = sh
    · rw [if_pos c] at h; exact ⟨x, h2, rfl, c, h⟩
    · rw [if_neg c] at h; cases h
  · cases h
theorem zi_kV {o : Option zR} {sh : List zE} {k : zTI → zTJ → Option zR} {r : zR} (h : zkV o sh k = some r) : ∃ h2, o = some (none, h2) ∧ h2.1 = sh ∧ k h2.2.1 h2.2.2 = some r := by
  unfold zkV at h; split at h
  · rename_i h2
    by_cases c : h2.1 = sh
    · rw [if_pos c] at h; exact ⟨h2, rfl, c, h⟩
    · rw [if_neg c] at h; cases h
  · cases h
theorem zi_back {G : Nat → zM} {j : Nat} {o : Option zR} {h : zH} {f : List Value → zH → Option zR} {r : zR} (hb : zback G j o h f = some r) : ∃ r0 h2, o = some (r0, h2) ∧ f r0.toList h2 = some r := by
  have re : ∀ h2 : zH, h2.1 = h.1 → (h.1, h2.2.1, h2.2.2) = h2 := fun h2 e => by rw [← e]
  unfold zback at hb
  split at hb
  · split at hb
    · obtain ⟨h2, e1, e2, e3⟩ := zi_kV hb; exact ⟨_, h2, e1, by rw [re h2 e2] at e3; exact e3⟩
    · obtain ⟨x, h2, e1, e2, e3⟩ := zi_kI hb; exact ⟨_, h2, e1, by rw [re h2 e2] at e3; exact e3⟩
    · obtain ⟨x, h2, e1, e2, e3⟩ := zi_kI hb; exact ⟨_, h2, e1, by rw [re h2 e2] at e3; exact e3⟩
    · obtain ⟨x, h2, e1, e2, e3⟩ := zi_kJ hb; exact ⟨_, h2, e1, by rw [re h2 e2] at e3; exact e3⟩
    · cases hb
  · split at hb
    · unfold zcV at hb; split at hb
      · exact ⟨_, _, rfl, hb⟩
      · cases hb
    · unfold zcI at hb; split at hb
      · exact ⟨_, _, rfl, hb⟩
      · cases hb
    · unfold zcI at hb; split at hb
      · exact ⟨_, _, rfl, hb⟩
      · cases hb
    · unfold zcJ at hb; split at hb
      · exact ⟨_, _, rfl, hb⟩
      · cases hb
    · unfold zcA at hb; split at hb
      · exact ⟨_, _, rfl, hb⟩
      · cases hb
    · unfold zcA at hb; split at hb
      · exact ⟨_, _, rfl, hb⟩
      · cases hb
    · cases hb
theorem zi_ask {G : Nat → zM} {S : zO} {D j : Nat} {args : List Value} {h : zH} {r : zR} (hb : zask G S D j args h = some r) : zht (G j) args < D ∧ (zar0 args).length ≤ (G j).2.2.1 ∧ S (zht (G j) args) j 0 (zpad (G j).2.2.1 (zar0 args)) [] h = some r := by
  unfold zask at hb; split at hb
  · rename_i hc
    rw [Bool.and_eq_true] at hc
    exact ⟨Nat.le_of_ble_eq_true hc.1, Nat.le_of_ble_eq_true hc.2, hb⟩
  · cases hb
theorem zwd_sum : ∀ (ad adK : Nat → Nat) (st : List Value), ((st.map (ztr ad adK)).map fun v => v.category).sum = zwd st
  | _, _, [] => rfl
  | ad, adK, v :: r => by
    have := zwd_sum ad adK r
    simp only [List.map_cons, List.sum_cons, zwd, ztr_cat, this]
theorem zgoodGT {y : MethodName} {b : ByteArray} {n : Nat} {r : Option FieldType} (h : Cond.code y b n r ∈ zGT) : GoodIn zGT (Cond.code y b n r :: zGT) := by
  intro w hw
  have hm : w ∈ zGT := by
    rcases List.mem_cons.mp hw with rfl | hw
    · exact h
    · exact hw
  exact ⟨hm, good_of_word (List.mem_filter.mp hm).2⟩
theorem zi_rc {h : zH} {args : List Value} {ks : List Nat} {x : Option zR} {r : zR} (hb : zrc h args ks x = some r) : ∃ q as' e, args = .ref q :: as' ∧ h.1[q]? = some e ∧ zhas1 ks e.1 = true ∧ x = some r := by
  unfold zrc at hb; split at hb
  · obtain ⟨e, h1, h2, h3⟩ := zi_ob hb
    exact ⟨_, _, e, rfl, h1, h2, h3⟩
  · cases hb
section zcalls
variable {G : Nat → zM} {l : Launch} {S : zO} {D j : Nat} {k : zKt} {L : zL} {st : List Value} {h : zH} {res : zR}
/-- behind a call -/
theorem zAt_call {pc j' D' : Nat} {args t : List Value} {r0 : Option Value} {h2 : zH} (hst : st = args.reverse ++ t) (hAt : zAt G l D' j' 0 (zpad (G j').2.2.1 (zar0 args)) [] h (r0, h2)) (hk : zAt G l D j (pc + 3) L (r0.toList ++ t) h2 res) (hlen : (zar0 args).length ≤ (G j').2.2.1) (hy : plainName (G j').1.cls = true)
    (hrun : ∀ (p : Program) (e : Env) (R : Room) (s : State) (m : MethodId) (margs : Array Value) (below : List Frame) (meth : Method) (c : Code) (H : Heap) (locs : List Loc) (cells slots : Nat) (ls : Array Slot) (A : Nat → Prop) (Gd : va_G) (cy : Nat → ClassId) (ad adK adV : Nat → Nat), zC (G j) D p R s m margs meth c A Gd cy adK adV → va_P Gd vwCl (zws cy ad h) H → va_S A s.heap H locs → ls.size = (G j).2.2.1 →
      Met l (G j').1 (Cond.code (G j').1 (G j').2.1 (G j').2.2.1 (G j').2.2.2.1 :: zGT) (zrm D' h h2) (zPc Gd cy adK adV ad H.size args h) (zQ Gd cy adK h.1.length ad (va_A (zws cy ad h) H.size) r0 h2) (h2.1.length - h.1.length) (zsz h2.1 - zsz h.1) (va_A (zws cy ad h) H.size) →
      (∀ U : State, U.heap = H → s.WarmedH U.vm → zPc Gd cy adK adV ad H.size args h (args.map (ztr ad adK)).toArray U) → (cells + (h2.1.length - h.1.length) ≤ R.cells ∧ slots + (zsz h2.1 - zsz h.1) ≤ R.slots) →
      va_Run p l e R s m margs below meth c H locs cells slots (h2.1.length - h.1.length) (zsz h2.1 - zsz h.1) (F0 m pc ls (st.map (ztr ad adK))) (t.map (ztr ad adK)) (zQ Gd cy adK h.1.length ad (va_A (zws cy ad h) H.size) r0 h2 (args.map (ztr ad adK)).toArray) (va_A (zws cy ad h) H.size)) : zAt G l D j pc L st h res := by
  obtain ⟨m1, m2⟩ := hAt.1
  obtain ⟨m3, m4⟩ := hk.1
  dsimp only at m1 m2
  refine ⟨⟨Nat.le_trans m1 m3, Nat.le_trans m2 m4⟩, ?_⟩
  intro p e R s m margs below meth c A Gd cy adK adV ad0 n0 z0 Cx hn hz hcc hss ad H locs ls ha0 hP hD hS hl hw hvL hvS
  have hvA : ∀ v ∈ args, zvv h.1.length v := fun v hv => hvS v (by rw [hst]; exact List.mem_append_left _ (List.mem_reverse.mpr hv))
  have hvT : ∀ v ∈ t, zvv h.1.length v := fun v hv => hvS v (by rw [hst]; exact List.mem_append_right _ hv)
  have hfree : ∀ q, va_A (zws cy ad h) H.size q → A q := by
    intro q hq
    rcases hq with ⟨k2, x, hx⟩ | hq
    · exact hD.2 k2 (q, x) hx
    · exact Cx.2.2.2.2.2.2.2.2.2.1 q (Nat.le_trans hS.1 hq)
  have hM := zMet hAt hy hlen hw hvA Gd cy adK adV ad H.size
  have hpre : ∀ U : State, U.heap = H → s.WarmedH U.vm → zPc Gd cy adK adV ad H.size args h (args.map (ztr ad adK)).toArray U := fun U hU hW => ⟨rfl, by rw [hU], by rw [hU]; exact hP, zKK_warm Cx.2.2.2.2.2.2.2.2.1 hS hU hW hfree, hD.weaken (fun _ _ _ _ => trivial)⟩
  have hr := hrun p e R s m margs below meth c H locs (h.1.length - n0) (zsz h.1 - z0) ls A Gd cy ad adK adV Cx hP hS hl.1 hM hpre ⟨by rw [hcc]; omega, by rw [hss]; omega⟩
  intro T hT X
  obtain ⟨v, st₀, t0, T', L', h0, X', hL', e1, e2, ⟨⟨ad', ha', hv, hP', hD', hw', hvr⟩, hz', hk'⟩, go⟩ := hr T hT X
  rw [h0] at hz' hk'
  cases hv
  have hS' : va_S A s.heap T'.heap (locs ++ L') := by
    refine ⟨Nat.le_trans hS.1 (by rw [e1]; exact hz'), fun q h1 h2 => ?_, fun q hq => ?_⟩
    · rw [e1, hk' q (Nat.lt_of_lt_of_le h1 hS.1) (fun z => h2 (hfree q z))]; exact hS.2.1 q h1 h2
    · rcases List.mem_append.mp hq with hq | hq
      · exact hS.2.2 q hq
      · exact hfree _ (hL' q hq)
  have hvR : ∀ v ∈ r0.toList ++ t, zvv h2.1.length v := by
    intro v hv
    rcases List.mem_append.mp hv with hv | hv
    · cases r0 with
      | none => cases hv
      | some w => rw [List.mem_singleton.mp hv]; exact hvr w rfl
    · exact zvv_le (hvT v hv) m1
  have kk := hk.2 p e R s m margs below meth c A Gd cy adK adV ad0 n0 z0 Cx (by omega) (by omega) hcc hss ad' T'.heap (locs ++ L') ls (fun i hi => by rw [ha' i (by omega)]; exact ha0 i hi) (by rw [e1]; exact hP') (hD'.weaken (fun _ q _ hq => hfree q.1 hq)) hS' (zhas_ext hl ha' hvL) hw' (fun i v q => zvv_le (hvL i v q) m1) hvR
  have hcs : h.1.length - n0 + (h2.1.length - h.1.length) = h2.1.length - n0 := by omega
  have hss2 : zsz h.1 - z0 + (zsz h2.1 - zsz h.1) = zsz h2.1 - z0 := by omega
  rw [hcs, hss2] at X'
  obtain ⟨t2, a1, b1⟩ := kk T' rfl X'
  refine ⟨t2, go t2 ?_, b1⟩
  have hmap : (r0.toList ++ t).map (ztr ad' adK) = (r0.map (ztr ad' adK)).toList ++ t.map (ztr ad adK) := by
    rw [List.map_append, zmtr_ext ha' hvT]
    cases r0 <;> rfl
  rw [hmap] at a1
  exact a1
theorem zrm_R {D D' maxL : Nat} {h h2 : zH} {R : Room} (hD : D' < D) (h1 : D ≤ R.frames) (h2' : 64 * D ≤ R.locals) (hm : maxL ≤ 45) : (zrm D' h h2).frames + 1 ≤ R.frames ∧ 8 + (maxL + 11) + (zrm D' h h2).locals ≤ R.locals := by
  unfold zrm
  dsimp only
  exact ⟨by omega, by omega⟩
set_option maxHeartbeats 4000000 in
/-- calls of own methods -/
theorem zstep_inv (IHS : ∀ D' j' pc L st h r, S D' j' pc L st h = some r → zAt G l D' j' pc L st h r) (IHk : ∀ pc L st h r, k pc L st h = some r → zAt G l D j pc L st h r) {e : zI} (he : zok G (G j) e) (ha : e.2.2.1 < 1000)
    (hns : match e.2.1 with
      | .invokestatic _ => True | .invokevirtual _ => True | .invokespecial _ => True | _ => False)
    (hs : zstep G S D e k L st h = some res) : zAt G l D j e.1 L st h res := by
  obtain ⟨pc, ins, a, b, ks, z, zl, sw⟩ := e
  obtain ⟨hd, hlk⟩ := he
  dsimp only at ha
  have hblt : Nat.blt a 1000 = true := Nat.ble_eq_true_of_le ha
  cases ins <;> first | (exact absurd hns id; done) | skip
  all_goals (unfold zstep at hs; dsimp only at hs; rw [hblt] at hs; dsimp only at hs)
  all_goals (replace hd := hd.resolve_left (by intro q; cases q); dsimp only [zln] at hd; dsimp only [zlk] at hlk; rw [if_pos ha] at hlk)
  case invokestatic =>
    obtain ⟨w1, w2, ⟨w3, w4, w5⟩, w6, w7⟩ := hlk
    obtain ⟨as, t, rfl, hn, hs1⟩ := zi_pop _ _ _ hs
    rw [List.append_nil] at hs1
    obtain ⟨hw8, hs1⟩ := zi_zif hs1
    obtain ⟨r0, h2, e1, hs2⟩ := zi_back hs1
    obtain ⟨hD', hl', e1⟩ := zi_ask e1
    refine zAt_call rfl (IHS _ _ _ _ _ _ _ e1) (IHk _ _ _ _ _ hs2) hl' w7 ?_
    intro p e R s m margs below meth c H locs cells slots ls A Gd cy ad adK adV Cx hP hS hls hM hpre hroom
    have hts := Cx.2.2.2.2.2.1
    refine va_runS (As := as.map (ztr ad adK)) ⟨Cx.1, Cx.2.1, Cx.2.2.2.1, Cx.2.2.2.2.1, hts⟩ hM ⟨callB_of b hts (zgoodGT w3) rfl rfl rfl (hts _ w4) (hts _ w1) w5 (zrm_R hD' Cx.2.2.2.2.2.2.2.2.2.2.1 Cx.2.2.2.2.2.2.2.2.2.2.2 w6), hts _ w2⟩ ⟨zPc_blind, hpre⟩ rfl (by simp [hn]) hls ?_ (lv_room (by rw [zwd_sum]; exact Nat.le_of_ble_eq_true hw8)) hd hroom
    show (as.reverse ++ t).map (ztr ad adK) = _
    rw [List.map_append, List.map_reverse]
  case invokevirtual =>
    obtain ⟨hks, ⟨w3, w4, w5⟩, hb1, w6, w7⟩ := hlk
    obtain ⟨as, t, rfl, hn, hs1⟩ := zi_pop _ _ _ hs
    rw [List.append_nil] at hs1
    obtain ⟨hw8, hs1⟩ := zi_zif hs1
    obtain ⟨q, as', eq, rfl, heq, hkq, hs1⟩ := zi_rc hs1
    · skip
      obtain ⟨r, x, hr, v1, v2, v3, v4⟩ := hks _ (zhas1_mem hkq)
      obtain ⟨r0, h2, e1, hs2⟩ := zi_back hs1
      obtain ⟨hD', hl', e1⟩ := zi_ask e1
      have h12 : eq.1 < 12 := (List.getElem?_eq_some_iff.mp hr).1
      refine zAt_call rfl (IHS _ _ _ _ _ _ _ e1) (IHk _ _ _ _ _ hs2) hl' w7 ?_
      intro p e R s m margs below meth c H locs cells slots ls A Gd cy ad adK adV Cx hP hS hls hM hpre hroom
      have hts := Cx.2.2.2.2.2.1
      have hwq := zws_get (cy := cy) (ad := ad) heq
      rw [zce_ob h12] at hwq
      have hrecv := va_recv Cx.2.2.2.2.2.2.2.2.1.1 hP hr hwq
      have hR := zrm_R (h := h) (h2 := h2) (maxL := (G a).2.2.1) hD' Cx.2.2.2.2.2.2.2.2.2.2.1 Cx.2.2.2.2.2.2.2.2.2.2.2 w6
      have hstk : (F0 m pc ls (((Value.ref q :: as').reverse ++ t).map (ztr ad adK))).stack = (as'.map (ztr ad adK)).reverse ++ .ref (ad q) :: t.map (ztr ad adK) := by
        show ((Value.ref q :: as').reverse ++ t).map (ztr ad adK) = _
        simp [ztr, List.map_reverse]
      have hn2 : (as'.map (ztr ad adK)).length = b - 1 := by
        simp only [List.length_cons] at hn
        simp; omega
      have hwd : 2 * (F0 m pc ls (((Value.ref q :: as').reverse ++ t).map (ztr ad adK))).monitorRoom + ((t.map (ztr ad adK)).map fun v => v.category).sum ≤ 8 := lv_room (by rw [zwd_sum]; exact Nat.le_of_ble_eq_true hw8)
      rcases v4 with ⟨rfl, -⟩ | ⟨v4, v5⟩
      · exact va_runV (C := r.1) (As := as'.map (ztr ad adK)) ⟨Cx.1, Cx.2.1, Cx.2.2.2.1, Cx.2.2.2.2.1, hts⟩ hM ⟨callB_of (b - 1) hts (zgoodGT w3) rfl rfl rfl (hts _ w4) (hts _ v1) w5 hR, hts _ v2, hts _ v3⟩ ⟨zPc_blind, hrecv, hpre⟩ rfl hn2 hls hstk hwd hd hroom
      · refine va_runU (C := r.1) (owner := (G a).1.cls) (x := x) (y := (G a).1) (As := as'.map (ztr ad adK)) ⟨Cx.1, Cx.2.1, Cx.2.2.2.1, Cx.2.2.2.2.1, hts⟩ hM (va_cwU (b - 1) hts ?_ rfl rfl rfl v4 ⟨w5.1, w5.2.1, ?_⟩ hR) ⟨zPc_blind, hrecv, hpre⟩ rfl hn2 hls hstk hwd hd hroom
        · intro w hw
          unfold va_wsU at hw
          have hm : w ∈ zGT := by
            rcases List.mem_append.mp hw with hw | hw
            · simp only [List.mem_cons, List.not_mem_nil, or_false] at hw
              rcases hw with rfl | rfl | rfl | rfl | rfl
              · exact v1
              · exact v5
              · exact v3
              · exact v2
              · exact w4
            · rcases List.mem_cons.mp hw with rfl | hw
              · exact w3
              · exact hw
          exact ⟨hm, good_of_word (List.mem_filter.mp hm).2⟩
        · have : x.desc = (G a).1.desc := by rw [v4]
          rw [this]; exact w5.2.2
  case invokespecial =>
    obtain ⟨i1, i2, i3, i4, ⟨w3, w4, w5⟩, hb1, w6, w7⟩ := hlk
    obtain ⟨as, t, rfl, hn, hs1⟩ := zi_pop _ _ _ hs
    rw [List.append_nil] at hs1
    obtain ⟨hw8, hs1⟩ := zi_zif hs1
    obtain ⟨q, as', eq, rfl, heq, hkq, hs1⟩ := zi_rc hs1
    · skip
      obtain ⟨r0, h2, e1, hs2⟩ := zi_back hs1
      obtain ⟨hD', hl', e1⟩ := zi_ask e1
      refine zAt_call rfl (IHS _ _ _ _ _ _ _ e1) (IHk _ _ _ _ _ hs2) hl' w7 ?_
      intro p e R s m margs below meth c H locs cells slots ls A Gd cy ad adK adV Cx hP hS hls hM hpre hroom
      have hts := Cx.2.2.2.2.2.1
      have hNN := Cx.2.2.2.2.2.2.2.2.1.2.1
      rw [i2] at hM w3
      have hR := zrm_R (h := h) (h2 := h2) (maxL := (G a).2.2.1) hD' Cx.2.2.2.2.2.2.2.2.2.2.1 Cx.2.2.2.2.2.2.2.2.2.2.2 w6
      have hstk : (F0 m pc ls (((Value.ref q :: as').reverse ++ t).map (ztr ad adK))).stack = (as'.map (ztr ad adK)).reverse ++ .ref (ad q) :: t.map (ztr ad adK) := by
        show ((Value.ref q :: as').reverse ++ t).map (ztr ad adK) = _
        simp [ztr, List.map_reverse]
      have hn2 : (as'.map (ztr ad adK)).length = b - 1 := by
        simp only [List.length_cons] at hn
        simp; omega
      have hwd : 2 * (F0 m pc ls (((Value.ref q :: as').reverse ++ t).map (ztr ad adK))).monitorRoom + ((t.map (ztr ad adK)).map fun v => v.category).sum ≤ 8 := lv_room (by rw [zwd_sum]; exact Nat.le_of_ble_eq_true hw8)
      rcases i3 with i3 | ⟨host, i3⟩
      · exact va_runI (As := as'.map (ztr ad adK)) ⟨Cx.1, Cx.2.1, Cx.2.2.2.1, Cx.2.2.2.2.1, hts⟩ hM (cwI (b - 1) hts (zgoodGT w3) rfl rfl rfl (hts _ w4) (hts _ i3) (hts _ i4) i1 w5 hR) ⟨zPc_blind, hpre⟩ rfl hn2 hls hstk hwd hd hroom
      · exact va_runIN (host := host) (As := as'.map (ztr ad adK)) ⟨Cx.1, Cx.2.1, Cx.2.2.2.1, Cx.2.2.2.2.1, hts⟩ hM ⟨va_cnB (b - 1) hts (zgoodGT w3) rfl rfl rfl (hNN.1 _ _ _ _ i3) (hts _ w4) w5 hR, i1, hts _ i4⟩ ⟨zPc_blind, hpre⟩ rfl hn2 hls hstk hwd hd hroom
end zcalls
end
section
/-! ===== calls of the JDK's that are told as rows; the whole step ===== -/
def zPW : Prop := (Cond.static Lib.Math.max.name ∈ zGT ∧ Cond.static Lib.Math.min.name ∈ zGT ∧ Cond.static Lib.Math.abs.name ∈ zGT ∧ Cond.initialized "java/lang/Math" ∈ zGT ∧ Cond.code Lib.Math.max.name Lib.Math.max.code 2 (some .int) ∈ zGT ∧ Cond.code Lib.Math.min.name Lib.Math.min.code 2 (some .int) ∈ zGT ∧ Cond.code Lib.Math.abs.name Lib.Math.abs.code 1 (some .int) ∈ zGT) ∧
  (Cond.native arraycopyName ∈ zGT ∧ Cond.static arraycopyName ∈ zGT ∧ Cond.initialized "java/lang/System" ∈ zGT) ∧ (Cond.instanceMethod objectInit ∈ zGT ∧ Cond.code objectInit ⟨#[0xb1]⟩ 1 none ∈ zGT) ∧
  (Cond.sameMethod "[I" "java/lang/Object" "clone" "()Ljava/lang/Object;" ∈ zGT ∧ Cond.native ⟨"java/lang/Object", "clone", "()Ljava/lang/Object;"⟩ ∈ zGT ∧ Cond.instanceMethod ⟨"java/lang/Object", "clone", "()Ljava/lang/Object;"⟩ ∈ zGT ∧ Cond.selects "[I" ⟨"[I", "clone", "()Ljava/lang/Object;"⟩ ⟨"java/lang/Object", "clone", "()Ljava/lang/Object;"⟩ ∈ zGT)
/-- String.length of a constant -/
def zLenRow : Prop := ∀ (l : Launch) (p : Program) (e : Env) (R : Room) (s : State) (m : MethodId) (args : Array Value) (below : List Frame) (meth : Method) (c : Code) (H : Heap) (locs : List Loc) (cells slots : Nat) (Q : State → Prop) (ls : Array Slot) (A : Nat → Prop) (Gd : va_G) (cy : Nat → ClassId) (adK adV : Nat → Nat) (M : zM) (D pc i x : Nat) (rest : List Value),
  zC M D p R s m args meth c A Gd cy adK adV → 4 < D → va_S A s.heap H locs → ls.size = M.2.2.1 → x < 7 → (rest.map fun v => v.category).sum ≤ 8 → cells ≤ R.cells → slots ≤ R.slots → Cond.methodLink M.1.cls i yJ0_length_8abf5 ∈ zGT → decode M.2.1 pc = .ok (.invokevirtual i, 3) →
  (∀ (H1 : Heap) (locs1 : List Loc), H1 = H → va_S A s.heap H1 locs1 → W p l e R s m args below meth c H1 locs1 cells slots Q (F0 m (pc + 3) ls (.int (Int32.ofNat (zsl x)) :: rest))) → W p l e R s m args below meth c H locs cells slots Q (F0 m pc ls (.ref (adK x) :: rest))
/-- String.charAt of a constant -/
def zChRow : Prop := ∀ (l : Launch) (p : Program) (e : Env) (R : Room) (s : State) (m : MethodId) (args : Array Value) (below : List Frame) (meth : Method) (c : Code) (H : Heap) (locs : List Loc) (cells slots : Nat) (Q : State → Prop) (ls : Array Slot) (A : Nat → Prop) (Gd : va_G) (cy : Nat → ClassId) (adK adV : Nat → Nat) (M : zM) (D pc i x : Nat) (ix : Int32) (rest : List Value),
  zC M D p R s m args meth c A Gd cy adK adV → 4 < D → va_S A s.heap H locs → ls.size = M.2.2.1 → x < 7 → vp_in ix (zsl x) → (rest.map fun v => v.category).sum ≤ 8 → cells ≤ R.cells → slots ≤ R.slots → Cond.methodLink M.1.cls i yJ0_charAt_5068e ∈ zGT → decode M.2.1 pc = .ok (.invokevirtual i, 3) →
  (∀ (H1 : Heap) (locs1 : List Loc), H1 = H → va_S A s.heap H1 locs1 → W p l e R s m args below meth c H1 locs1 cells slots Q (F0 m (pc + 3) ls (.int (zch x ix.toNatClampNeg) :: rest))) → W p l e R s m args below meth c H locs cells slots Q (F0 m pc ls (.int ix :: .ref (adK x) :: rest))
section zprims
variable {G : Nat → zM} {l : Launch} {S : zO} {D j : Nat} {k : zKt} {L : zL} {st : List Value} {h : zH} {res : zR}
theorem zsub_le {a b c : Nat} (h : a ≤ b) : a - c ≤ b - c := Nat.sub_le_sub_right h c
/-- a row that leaves locals and heap, with the room at hand -/
theorem zAt_rowR {pc pc' : Nat} {st' : List Value} (hk : zAt G l D j pc' L st' h res) (hv : ∀ n, (∀ v ∈ st, zvv n v) → ∀ v ∈ st', zvv n v)
    (hrow : ∀ (p : Program) (e : Env) (R : Room) (s : State) (m : MethodId) (args : Array Value) (below : List Frame) (meth : Method) (c : Code) (H : Heap) (locs : List Loc) (cells slots : Nat) (Q : State → Prop) (ls : Array Slot) (A : Nat → Prop) (Gd : va_G) (cy : Nat → ClassId) (ad adK adV : Nat → Nat), zC (G j) D p R s m args meth c A Gd cy adK adV → va_S A s.heap H locs → ls.size = (G j).2.2.1 → cells ≤ R.cells → slots ≤ R.slots →
      (∀ (locs1 : List Loc), va_S A s.heap H locs1 → W p l e R s m args below meth c H locs1 cells slots Q (F0 m pc' ls (st'.map (ztr ad adK)))) → W p l e R s m args below meth c H locs cells slots Q (F0 m pc ls (st.map (ztr ad adK)))) : zAt G l D j pc L st h res := by
  refine ⟨hk.1, ?_⟩
  intro p e R s m args below meth c A Gd cy adK adV ad0 n0 z0 Cx hn hz hcc hss ad H locs ls ha hP hD hS hl hw hvL hvS
  refine hrow p e R s m args below meth c H locs _ _ _ ls A Gd cy ad adK adV Cx hS hl.1 (by rw [hcc]; exact zsub_le hk.1.1) (by rw [hss]; exact zsub_le hk.1.2) fun locs1 hS1 => ?_
  exact hk.2 p e R s m args below meth c A Gd cy adK adV ad0 n0 z0 Cx hn hz hcc hss ad H locs1 ls ha hP hD hS1 hl hw hvL (hv _ hvS)
theorem zAt_setR {pc pc' : Nat} {st' : List Value} {o : Nat} {h' : zH} (hk : zAt G l D j pc' L st' h' res) (hlen : h'.1.length = h.1.length) (hsz : zsz h'.1 = zsz h.1) (hv : ∀ n, (∀ v ∈ st, zvv n v) → ∀ v ∈ st', zvv n v) (hwf : zwf h → zwf h')
    (ho : ∀ j, j ≠ o → h'.1[j]? = h.1[j]? ∧ h'.2.1 j = h.2.1 j ∧ h'.2.2 j = h.2.2 j)
    (hrow : ∀ (p : Program) (e : Env) (R : Room) (s : State) (m : MethodId) (args : Array Value) (below : List Frame) (meth : Method) (c : Code) (H : Heap) (locs : List Loc) (cells slots : Nat) (Q : State → Prop) (ls : Array Slot) (A : Nat → Prop) (Gd : va_G) (cy : Nat → ClassId) (ad adK adV : Nat → Nat), zC (G j) D p R s m args meth c A Gd cy adK adV → va_P Gd vwCl (zws cy ad h) H → va_D A (zws cy ad h) → va_S A s.heap H locs → ls.size = (G j).2.2.1 →
      (∀ (H1 : Heap) (locs1 : List Loc), va_P Gd vwCl ((zws cy ad h).set o (ad o, zat cy ad h' o)) H1 → va_D A ((zws cy ad h).set o (ad o, zat cy ad h' o)) → va_S A s.heap H1 locs1 → W p l e R s m args below meth c H1 locs1 cells slots Q (F0 m pc' ls (st'.map (ztr ad adK)))) → W p l e R s m args below meth c H locs cells slots Q (F0 m pc ls (st.map (ztr ad adK)))) : zAt G l D j pc L st h res := by
  refine ⟨by rw [← hlen, ← hsz]; exact hk.1, ?_⟩
  intro p e R s m args below meth c A Gd cy adK adV ad0 n0 z0 Cx hn hz hcc hss ad H locs ls ha0 hP hD hS hl hw hvL hvS
  refine hrow p e R s m args below meth c H locs _ _ _ ls A Gd cy ad adK adV Cx hP hD hS hl.1 fun H1 locs1 hP1 hD1 hS1 => ?_
  rw [zws_set hlen rfl ho] at hP1 hD1
  have := hk.2 p e R s m args below meth c A Gd cy adK adV ad0 n0 z0 Cx (by rw [hlen]; exact hn) (by rw [hsz]; exact hz) hcc hss ad H1 locs1 ls ha0 hP1 hD1 hS1 hl (hwf hw) (fun i v q => by rw [hlen]; exact hvL i v q) (fun v q => by rw [hlen]; exact hv _ hvS v q)
  rw [hlen, hsz] at this
  exact this
theorem zrg_spec {sp n : Int32} {m : Nat} (h : zrg sp n m = true) : ¬ sp < 0 ∧ ¬ n < 0 ∧ sp.toNatClampNeg + n.toNatClampNeg ≤ m := by
  unfold zrg at h
  simp only [Bool.and_eq_true, decide_eq_true_eq] at h
  obtain ⟨⟨h1, h2⟩, h3⟩ := h
  refine ⟨fun q => ?_, fun q => ?_, ?_⟩
  · have := Int32.lt_iff_toInt_lt.mp q
    simp at this
    omega
  · have := Int32.lt_iff_toInt_lt.mp q
    simp at this
    omega
  · show sp.toInt.toNat + n.toInt.toNat ≤ m
    omega
theorem znf5 : nativeFrameWords "java/lang/System" "arraycopy" 5 + 11 ≤ 56 := by decide +kernel
set_option maxHeartbeats 4000000 in
theorem zstep_prim (hpw : zPW) (hL1 : zLenRow) (hL2 : zChRow) (IHk : ∀ pc L st h r, k pc L st h = some r → zAt G l D j pc L st h r) {e : zI} (he : zok G (G j) e) (ha : ¬ e.2.2.1 < 1000)
    (hns : match e.2.1 with
      | .invokestatic _ => True | .invokevirtual _ => True | .invokespecial _ => True | _ => False)
    (hs : zstep G S D e k L st h = some res) : zAt G l D j e.1 L st h res := by
  obtain ⟨⟨p1, p2, p3, p4, p5, p6, p7⟩, ⟨p8, p9, p10⟩, ⟨p11, p12⟩, ⟨p13, p14, p15, p16⟩⟩ := hpw
  obtain ⟨pc, ins, a, b, ks, z, zl, sw⟩ := e
  obtain ⟨hd, hlk⟩ := he
  dsimp only at ha
  have hblt : Nat.blt a 1000 = false := by
    cases hq : Nat.blt a 1000
    · rfl
    · exact absurd (Nat.le_of_ble_eq_true hq) ha
  cases ins <;> first | (exact absurd hns id; done) | skip
  all_goals (unfold zstep at hs; dsimp only at hs; rw [hblt] at hs; dsimp only at hs)
  all_goals (replace hd := hd.resolve_left (by intro q; cases q); dsimp only [zln] at hd; dsimp only [zlk] at hlk; rw [if_neg ha] at hlk)
  case invokestatic =>
    obtain ⟨hD0, hs⟩ := zi_zif hs
    have hD1 : 1 ≤ D := Nat.le_of_ble_eq_true hD0
    rcases hlk with ⟨rfl, w⟩ | ⟨rfl, w⟩ | ⟨rfl, w⟩ | ⟨rfl, w⟩
    · obtain ⟨x, y, t, rfl, hs1⟩ := zi_I2 hs
      obtain ⟨hw8, hs1⟩ := zi_zif hs1
      refine zAt_rowR (IHk _ _ _ _ _ hs1) (fun n h => zvS_cons zvv_i (zvS_tl (zvS_tl h))) ?_
      intro p e R s m args below meth c H locs cells slots Q ls A Gd cy ad adK adV Cx hS hls hc1 hs2 kk
      have hts := Cx.2.2.2.2.2.1
      exact va_mmax Cx.1 Cx.2.1 (Cx.2.2.2.1.trans hls.symm) Cx.2.2.2.2.1 (hts _ w) (hts _ p1) (hts _ p4) (hts _ p5) (Nat.le_trans hD1 Cx.2.2.2.2.2.2.2.2.2.2.1) (by have := Cx.2.2.2.2.2.2.2.2.2.2.2; have := Nat.le_of_ble_eq_true hw8; rw [zwd_sum]; omega) hc1 hs2 hd (kk _ hS)
    · obtain ⟨x, y, t, rfl, hs1⟩ := zi_I2 hs
      obtain ⟨hw8, hs1⟩ := zi_zif hs1
      refine zAt_rowR (IHk _ _ _ _ _ hs1) (fun n h => zvS_cons zvv_i (zvS_tl (zvS_tl h))) ?_
      intro p e R s m args below meth c H locs cells slots Q ls A Gd cy ad adK adV Cx hS hls hc1 hs2 kk
      have hts := Cx.2.2.2.2.2.1
      exact va_mmin Cx.1 Cx.2.1 (Cx.2.2.2.1.trans hls.symm) Cx.2.2.2.2.1 (hts _ w) (hts _ p2) (hts _ p4) (hts _ p6) (Nat.le_trans hD1 Cx.2.2.2.2.2.2.2.2.2.2.1) (by have := Cx.2.2.2.2.2.2.2.2.2.2.2; have := Nat.le_of_ble_eq_true hw8; rw [zwd_sum]; omega) hc1 hs2 hd (kk _ hS)
    · obtain ⟨x, t, rfl, hs1⟩ := zi_I1 hs
      obtain ⟨hw8, hs1⟩ := zi_zif hs1
      refine zAt_rowR (IHk _ _ _ _ _ hs1) (fun n h => zvS_cons zvv_i (zvS_tl h)) ?_
      intro p e R s m args below meth c H locs cells slots Q ls A Gd cy ad adK adV Cx hS hls hc1 hs2 kk
      have hts := Cx.2.2.2.2.2.1
      exact va_mabs Cx.1 Cx.2.1 (Cx.2.2.2.1.trans hls.symm) Cx.2.2.2.2.1 (hts _ w) (hts _ p3) (hts _ p4) (hts _ p7) (Nat.le_trans hD1 Cx.2.2.2.2.2.2.2.2.2.2.1) (by have := Cx.2.2.2.2.2.2.2.2.2.2.2; have := Nat.le_of_ble_eq_true hw8; rw [zwd_sum]; omega) hc1 hs2 hd (kk _ hS)
    · obtain ⟨q, sp, d, dp, n, t, rfl, hs1⟩ := zi_Cp hs
      obtain ⟨hw8, hs1⟩ := zi_zif hs1
      obtain ⟨n0, rf0, he0, hs1⟩ := zi_ar hs1
      obtain ⟨n1, rf1, he1, hs1⟩ := zi_ar hs1
      obtain ⟨hr1, hs1⟩ := zi_zif hs1
      obtain ⟨hr2, hs1⟩ := zi_zif hs1
      obtain ⟨g1, g2, g3⟩ := zrg_spec hr1
      obtain ⟨g4, -, g5⟩ := zrg_spec hr2
      refine zAt_setR (o := d) (IHk _ _ _ _ _ hs1) rfl rfl (fun n h => zvS_tl (zvS_tl (zvS_tl (zvS_tl (zvS_tl h))))) (fun hw => hw) (fun j hj => ⟨rfl, zrI_ne _ _ hj, rfl⟩) ?_
      intro p e R s m args below meth c H locs cells slots Q ls A Gd cy ad adK adV Cx hP hD hS hls kk
      have hts := Cx.2.2.2.2.2.1
      have hK := Cx.2.2.2.2.2.2.2.2.1.1
      refine va_copyi (ty := .int) Cx.1 Cx.2.1 (Cx.2.2.2.1.trans hls.symm) Cx.2.2.2.2.1 (hts _ w) (hts _ p8) (hts _ p9) (hts _ p10) hK hP hD hS q d 1 1 (zws_get he0) (zws_get he1) rfl rfl rfl g1 g4 g2 g3 g5 (fun _ _ => rfl) (Nat.le_trans hD1 Cx.2.2.2.2.2.2.2.2.2.2.1) (by have := Cx.2.2.2.2.2.2.2.2.2.2.2; have := Nat.le_of_ble_eq_true hw8; have := znf5; rw [zwd_sum]; omega) hd fun H1 locs1 h1 h2 h3 => kk H1 locs1 ?_ ?_ h3
      · rw [zat_I he1, zrI_row]; exact h1
      · rw [zat_I he1, zrI_row]; exact h2
  case invokevirtual =>
    obtain ⟨hD0, hs⟩ := zi_zif hs
    have hD1 : 4 < D := Nat.le_of_ble_eq_true hD0
    rcases hlk with ⟨rfl, w⟩ | ⟨rfl, w⟩ | ⟨rfl, w⟩
    · obtain ⟨x, t, rfl, hs1⟩ := zi_St hs
      obtain ⟨hx7, hs1⟩ := zi_zif hs1
      obtain ⟨hw8, hs1⟩ := zi_zif hs1
      refine zAt_rowR (IHk _ _ _ _ _ hs1) (fun n h => zvS_cons zvv_i (zvS_tl h)) ?_
      intro p e R s m args below meth c H locs cells slots Q ls A Gd cy ad adK adV Cx hS hls hc1 hs2 kk
      exact hL1 l p e R s m args below meth c H locs cells slots Q ls A Gd cy adK adV (G j) D pc _ x _ Cx hD1 hS hls (Nat.le_of_ble_eq_true hx7) (by rw [zwd_sum]; exact Nat.le_of_ble_eq_true hw8) hc1 hs2 w hd (fun H1 locs1 e1 h1 => by subst e1; exact kk _ h1)
    · obtain ⟨x, i, t, rfl, hs1⟩ := zi_Sc hs
      obtain ⟨hx7, hs1⟩ := zi_zif hs1
      obtain ⟨hw8, hs1⟩ := zi_zif hs1
      obtain ⟨hi, hs1⟩ := zi_zif hs1
      refine zAt_rowR (IHk _ _ _ _ _ hs1) (fun n h => zvS_cons zvv_i (zvS_tl (zvS_tl h))) ?_
      intro p e R s m args below meth c H locs cells slots Q ls A Gd cy ad adK adV Cx hS hls hc1 hs2 kk
      exact hL2 l p e R s m args below meth c H locs cells slots Q ls A Gd cy adK adV (G j) D pc _ x i _ Cx hD1 hS hls (Nat.le_of_ble_eq_true hx7) (zin_vp hi) (by rw [zwd_sum]; exact Nat.le_of_ble_eq_true hw8) hc1 hs2 w hd (fun H1 locs1 e1 h1 => by subst e1; exact kk _ h1)
    · obtain ⟨q, t, rfl, hs1⟩ := zi_A1 hs
      obtain ⟨hw8, hs1⟩ := zi_zif hs1
      obtain ⟨n, rf, he0, hs1⟩ := zi_ar hs1
      refine zAt_new (IHk _ _ _ _ _ hs1) rfl (fun j hj => ⟨zrI_ne _ _ (by omega), zrJ_ne _ _ (by omega)⟩) zwf_cpy (fun n h => zvS_tl h) ?_
      intro p e R s m args below meth c H locs cells slots Q ls A Gd cy ad adK adV Cx hP hD hS hls hcells hslots kk
      have hts := Cx.2.2.2.2.2.1
      have hK := Cx.2.2.2.2.2.2.2.2.1.1
      have hfc : s.vm.findClass "[I" = some (cy 1) := (hK.2 1 _ rfl).2
      have e1 : (zcpy h q n).2.1 h.1.length = h.2.1 q := zrI_row _ _ _
      have e2 : (zcpy h q n).2.2 h.1.length = fun _ => 0 := zrJ_row _ _ _
      rw [e1, e2] at kk
      refine va_clone (x := (n, .inl (h.2.1 q))) (ty := .int) Cx.1 Cx.2.1 (Cx.2.2.2.1.trans hls.symm) Cx.2.2.2.2.1 (hts _ w) (hts _ p13) (hts _ p14) (hts _ p15) (hts _ p16) Cx.2.2.2.2.2.2.2.2.1.2.1.2.1 hK hP hD hS Cx.2.2.2.2.2.2.2.2.2.1 q 1 (zws_get he0) rfl hfc ?_ (Nat.le_trans (by omega) Cx.2.2.2.2.2.2.2.2.2.2.1) (by have := Cx.2.2.2.2.2.2.2.2.2.2.2; have := Nat.le_of_ble_eq_true hw8; rw [zwd_sum]; omega) hcells hslots hd fun q2 H1 hK1 hP1 hD1 hS1 => kk q2 H1 hP1 hD1 hS1
      intro i v hv
      rw [vp_cell_i] at hv
      by_cases hi : i < n
      · rw [arrV_read _ _ hi] at hv; cases hv; rfl
      · have : (arrV (cy 1) n (fun j => Value.int (h.2.1 q j))).slots.size ≤ i := by rw [arrV_size]; omega
        rw [Array.getElem?_eq_none this] at hv; cases hv
  case invokespecial =>
    obtain ⟨hD0, hs⟩ := zi_zif hs
    have hD1 : 1 ≤ D := Nat.le_of_ble_eq_true hD0
    obtain ⟨q, t, rfl, hs1⟩ := zi_A1 hs
    obtain ⟨hw8, hs1⟩ := zi_zif hs1
    refine zAt_rowR (IHk _ _ _ _ _ hs1) (fun n h => zvS_tl h) ?_
    intro p e R s m args below meth c H locs cells slots Q ls A Gd cy ad adK adV Cx hS hls hc1 hs2 kk
    have hts := Cx.2.2.2.2.2.1
    exact W.objInit Cx.1 Cx.2.1 Cx.2.2.2.2.1 (hts _ hlk) (hts _ p11) (hts _ p12) rfl (hls.trans Cx.2.2.2.1.symm) rfl hd (Nat.le_trans hD1 Cx.2.2.2.2.2.2.2.2.2.2.1) (Nat.le_trans (Nat.add_le_add_right (lv_room (by rw [zwd_sum]; exact Nat.le_of_ble_eq_true hw8)) 12) (by have := Cx.2.2.2.2.2.2.2.2.2.2.2; omega)) (kk _ hS)
end zprims
/-- THE WHOLE STEP -/
theorem zstep_ok {G : Nat → zM} {l : Launch} {S : zO} {D j : Nat} {k : zKt} {L : zL} {st : List Value} {h : zH} {res : zR} (hcl : zclOK) (hdf : zclDF) (harr : ∀ ty ∈ [FieldType.byte, .int, .long, .boolean], Cond.arrayClass ty ∈ zGT) (hpw : zPW) (hL1 : zLenRow) (hL2 : zChRow)
    (IHS : ∀ D' j' pc L st h r, S D' j' pc L st h = some r → zAt G l D' j' pc L st h r) (IHk : ∀ pc L st h r, k pc L st h = some r → zAt G l D j pc L st h r) {e : zI} (he : zok G (G j) e) (hs : zstep G S D e k L st h = some res) : zAt G l D j e.1 L st h res := by
  obtain ⟨pc, ins, a, b, ks, z, zl, sw⟩ := e
  cases ins <;> first
    | exact zstep_get hcl IHk he hs
    | exact zstep_put hcl IHk he hs
    | exact zstep_arr IHk he trivial hs
    | exact zstep_new hcl hdf IHk harr he trivial hs
    | exact zstep_ret IHk he trivial hs
    | (by_cases ha : a < 1000
       · exact zstep_inv IHS IHk he ha trivial hs
       · exact zstep_prim hpw hL1 hL2 IHk he ha trivial hs)
    | exact zstep_row IHk he trivial hs
/-- a good program -/
def zgood (G : Nat → zM) : Prop := ∀ j, ∀ e ∈ (G j).2.2.2.2.1, zok G (G j) e
theorem zfind_mem : ∀ {c : List zI} {pc : Nat} {e : zI}, zfind c pc = some e → e ∈ c ∧ e.1 = pc
  | [], _, _, h => by cases h
  | x :: r, pc, e, h => by
    unfold zfind at h
    split at h
    · rename_i hc; cases h; exact ⟨List.mem_cons_self, Nat.eq_of_beq_eq_true hc⟩
    · obtain ⟨h1, h2⟩ := zfind_mem h; exact ⟨List.mem_cons_of_mem _ h1, h2⟩
theorem zAt_mask {G : Nat → zM} {l : Launch} {D j pc : Nat} {L : zL} {st : List Value} {h : zH} {res : zR} (m : List Bool) (hk : zAt G l D j pc (zmask m L) st h res) : zAt G l D j pc L st h res := by
  refine ⟨hk.1, ?_⟩
  intro p e R s ms args below meth c A Gd cy adK adV ad0 n0 z0 C hn hz hc hs ad H locs ls ha hP hD hS hl hw hvL hvS
  exact hk.2 p e R s ms args below meth c A Gd cy adK adV ad0 n0 z0 C hn hz hc hs ad H locs ls ha hP hD hS (zhas_mask m hl) hw (fun i v hv => hvL i v (zmask_get m L i v hv)) hvS
/-- SOUND: what the pure run answers, the machine does -/
theorem zsound {G : Nat → zM} (l : Launch) (hg : zgood G) (hcl : zclOK) (hdf : zclDF) (harr : ∀ ty ∈ [FieldType.byte, .int, .long, .boolean], Cond.arrayClass ty ∈ zGT) (hpw : zPW) (hL1 : zLenRow) (hL2 : zChRow) : ∀ D j pc L st h r, zS G D j pc L st h = some r → zAt G l D j pc L st h r := by
  refine zS_ind G (fun D j pc L st h r => zAt G l D j pc L st h r) ?_
  intro S IHS D j
  have key : ∀ (f pc : Nat) (L : zL) (st : List Value) (h : zH) (r : zR), zx G S D j (G j) f pc L st h = some r → zAt G l D j pc L st h r := by
    intro f
    induction f with
    | zero => intro pc L st h r hs; cases hs
    | succ f ih =>
      intro pc L st h r hs
      unfold zx at hs
      split at hs
      · cases hs
      · rename_i e he
        obtain ⟨hm, rfl⟩ := zfind_mem he
        refine zstep_ok hcl hdf harr hpw hL1 hL2 IHS ?_ (hg j e hm) hs
        intro pc' L' st' h' r' hk
        split at hk
        · rename_i bm _; exact zAt_mask bm (IHS _ _ _ _ _ _ _ hk)
        · exact ih _ _ _ _ _ hk
  exact key 400
end
section
theorem zsubl {ws : List Cond} (ps : List Nat) (hp : ws = ps.filterMap (fun i => zlw[i]?)) (hg : ws.all goodWord = true) : ∀ w ∈ ws, w ∈ zGT := by
  intro w hw
  have h1 := List.all_eq_true.mp hg w hw
  rw [hp] at hw
  obtain ⟨i, -, hi⟩ := List.mem_filterMap.mp hw
  exact zGT_mem i hi h1
theorem zdf {c N : Nat} (h : (List.range N).all (fun k => decide (defaultValue (zTy c k) = zfv id (fun _ => 0) (fun _ => 0) zno (zTy c k) k)) = true) : ∀ k, k < N → defaultValue (zTy c k) = zfv id (fun _ => 0) (fun _ => 0) zno (zTy c k) k := fun k hk => of_decide_eq_true (List.all_eq_true.mp h k (List.mem_range.mpr hk))
theorem zall1 {P : Nat → Prop} {a : Nat} (h : P a) : ∀ c ∈ [a], P c := fun c hc => by rw [List.mem_singleton.mp hc]; exact h
theorem zall2 {P : Nat → Prop} {a b : Nat} (h : P a) (h2 : P b) : ∀ c ∈ [a, b], P c := fun c hc => by
  rcases List.mem_cons.mp hc with rfl | hc
  · exact h
  · rw [List.mem_singleton.mp hc]; exact h2
/-! ===== words of the tables by their places (printed by gen_prog.py) ===== -/
theorem zw0 : Cond.selects "BookBarge" ⟨"BookBarge", "appendFour", "(I)V"⟩ ⟨"BookBarge", "appendFour", "(I)V"⟩ ∈ zGT := zGT_mem 0 (by decide +kernel) (by decide +kernel)
theorem zw1 : Cond.selects "BookBarge$RiverParser" ⟨"BookBarge$RiverParser", "readClause", "(I)Z"⟩ ⟨"BookBarge$RiverParser", "readClause", "(I)Z"⟩ ∈ zGT := zGT_mem 1 (by decide +kernel) (by decide +kernel)
theorem zw2 : Cond.selects "BookBarge$RiverParser" ⟨"BookBarge$RiverParser", "hasPlaceFor", "(II)Z"⟩ ⟨"BookBarge$RiverParser", "hasPlaceFor", "(II)Z"⟩ ∈ zGT := zGT_mem 2 (by decide +kernel) (by decide +kernel)
theorem zw3 : Cond.selects "BookBarge$RiverParser" ⟨"BookBarge$RiverParser", "readBarge", "()Z"⟩ ⟨"BookBarge$RiverParser", "readBarge", "()Z"⟩ ∈ zGT := zGT_mem 3 (by decide +kernel) (by decide +kernel)
theorem zw4 : Cond.selects "BookBarge$RiverParser" ⟨"BookBarge$RiverParser", "readInto", "(III)Z"⟩ ⟨"BookBarge$RiverParser", "readInto", "(III)Z"⟩ ∈ zGT := zGT_mem 4 (by decide +kernel) (by decide +kernel)
theorem zw5 : Cond.selects "BookBarge$RiverParser" ⟨"BookBarge$RiverParser", "readBook", "()Z"⟩ ⟨"BookBarge$RiverParser", "readBook", "()Z"⟩ ∈ zGT := zGT_mem 5 (by decide +kernel) (by decide +kernel)
theorem zw6 : Cond.selects "BookBarge$RiverParser" ⟨"BookBarge$RiverParser", "readStop", "()Z"⟩ ⟨"BookBarge$RiverParser", "readStop", "()Z"⟩ ∈ zGT := zGT_mem 6 (by decide +kernel) (by decide +kernel)
theorem zw7 : Cond.selects "BookBarge$RiverParser" ⟨"BookBarge$RiverParser", "readReader", "()Z"⟩ ⟨"BookBarge$RiverParser", "readReader", "()Z"⟩ ∈ zGT := zGT_mem 7 (by decide +kernel) (by decide +kernel)
theorem zw8 : Cond.selects "BookBarge$RiverParser" ⟨"BookBarge$RiverParser", "readWish", "()Z"⟩ ⟨"BookBarge$RiverParser", "readWish", "()Z"⟩ ∈ zGT := zGT_mem 8 (by decide +kernel) (by decide +kernel)
theorem zw9 : Cond.selects "BookBarge$RiverParser" ⟨"BookBarge$RiverParser", "readHole", "()Z"⟩ ⟨"BookBarge$RiverParser", "readHole", "()Z"⟩ ∈ zGT := zGT_mem 9 (by decide +kernel) (by decide +kernel)
theorem zw10 : Cond.selects "BookBarge$RiverParser" ⟨"BookBarge$RiverParser", "settle", "()V"⟩ ⟨"BookBarge$RiverParser", "settle", "()V"⟩ ∈ zGT := zGT_mem 10 (by decide +kernel) (by decide +kernel)
theorem zw11 : Cond.selects "BookBarge" ⟨"BookBarge", "forgetActs", "()V"⟩ ⟨"BookBarge", "forgetActs", "()V"⟩ ∈ zGT := zGT_mem 11 (by decide +kernel) (by decide +kernel)
theorem zw12 : Cond.selects "BookBarge$RuleParser" ⟨"BookBarge$RuleParser", "readClause", "()Z"⟩ ⟨"BookBarge$RuleParser", "readClause", "()Z"⟩ ∈ zGT := zGT_mem 12 (by decide +kernel) (by decide +kernel)
theorem zw13 : Cond.selects "BookBarge$RuleParser" ⟨"BookBarge$RuleParser", "readSum", "()Z"⟩ ⟨"BookBarge$RuleParser", "readSum", "()Z"⟩ ∈ zGT := zGT_mem 13 (by decide +kernel) (by decide +kernel)
theorem zw14 : Cond.selects "BookBarge$RuleParser" ⟨"BookBarge$RuleParser", "readValue", "()Z"⟩ ⟨"BookBarge$RuleParser", "readValue", "()Z"⟩ ∈ zGT := zGT_mem 14 (by decide +kernel) (by decide +kernel)
theorem zw15 : Cond.selects "BookBarge$RuleParser" ⟨"BookBarge$RuleParser", "put", "(I)V"⟩ ⟨"BookBarge$RuleParser", "put", "(I)V"⟩ ∈ zGT := zGT_mem 15 (by decide +kernel) (by decide +kernel)
theorem zw16 : Cond.selects "BookBarge$RuleParser" ⟨"BookBarge$RuleParser", "countPart", "(I)Z"⟩ ⟨"BookBarge$RuleParser", "countPart", "(I)Z"⟩ ∈ zGT := zGT_mem 16 (by decide +kernel) (by decide +kernel)
theorem zw17 : Cond.selects "BookBarge$RuleParser" ⟨"BookBarge$RuleParser", "readTest", "(I)Z"⟩ ⟨"BookBarge$RuleParser", "readTest", "(I)Z"⟩ ∈ zGT := zGT_mem 17 (by decide +kernel) (by decide +kernel)
theorem zw18 : Cond.selects "BookBarge$RuleParser" ⟨"BookBarge$RuleParser", "readFact", "(I)Z"⟩ ⟨"BookBarge$RuleParser", "readFact", "(I)Z"⟩ ∈ zGT := zGT_mem 18 (by decide +kernel) (by decide +kernel)
theorem zw19 : Cond.selects "BookBarge$RuleParser" ⟨"BookBarge$RuleParser", "takeComparison", "()I"⟩ ⟨"BookBarge$RuleParser", "takeComparison", "()I"⟩ ∈ zGT := zGT_mem 19 (by decide +kernel) (by decide +kernel)
theorem zw20 : Cond.selects "BookBarge" ⟨"BookBarge", "passing", "(II)I"⟩ ⟨"BookBarge", "passing", "(II)I"⟩ ∈ zGT := zGT_mem 20 (by decide +kernel) (by decide +kernel)
theorem zw21 : Cond.selects "BookBarge" ⟨"BookBarge", "remember", "()V"⟩ ⟨"BookBarge", "remember", "()V"⟩ ∈ zGT := zGT_mem 21 (by decide +kernel) (by decide +kernel)
theorem zw22 : Cond.selects "BookBarge" ⟨"BookBarge", "hasRule", "(I)Z"⟩ ⟨"BookBarge", "hasRule", "(I)Z"⟩ ∈ zGT := zGT_mem 22 (by decide +kernel) (by decide +kernel)
theorem zw23 : Cond.selects "BookBarge$Journey" ⟨"BookBarge$Journey", "tellBarge", "()V"⟩ ⟨"BookBarge$Journey", "tellBarge", "()V"⟩ ∈ zGT := zGT_mem 23 (by decide +kernel) (by decide +kernel)
theorem zw24 : Cond.selects "BookBarge$Journey" ⟨"BookBarge$Journey", "here", "()I"⟩ ⟨"BookBarge$Journey", "here", "()I"⟩ ∈ zGT := zGT_mem 24 (by decide +kernel) (by decide +kernel)
theorem zw25 : Cond.selects "BookBarge$Journey" ⟨"BookBarge$Journey", "fetchByRule", "()V"⟩ ⟨"BookBarge$Journey", "fetchByRule", "()V"⟩ ∈ zGT := zGT_mem 25 (by decide +kernel) (by decide +kernel)
theorem zw26 : Cond.selects "BookBarge$Journey" ⟨"BookBarge$Journey", "tellBook", "(I)V"⟩ ⟨"BookBarge$Journey", "tellBook", "(I)V"⟩ ∈ zGT := zGT_mem 26 (by decide +kernel) (by decide +kernel)
theorem zw27 : Cond.selects "BookBarge$Rule" ⟨"BookBarge$Rule", "worked", "(II[J)J"⟩ ⟨"BookBarge$Rule", "worked", "(II[J)J"⟩ ∈ zGT := zGT_mem 27 (by decide +kernel) (by decide +kernel)
theorem zw28 : Cond.selects "BookBarge$Journey" ⟨"BookBarge$Journey", "shiftByRule", "()V"⟩ ⟨"BookBarge$Journey", "shiftByRule", "()V"⟩ ∈ zGT := zGT_mem 28 (by decide +kernel) (by decide +kernel)
theorem zw29 : Cond.selects "BookBarge$Journey" ⟨"BookBarge$Journey", "lightenByRule", "(I)Z"⟩ ⟨"BookBarge$Journey", "lightenByRule", "(I)Z"⟩ ∈ zGT := zGT_mem 29 (by decide +kernel) (by decide +kernel)
theorem zw30 : Cond.selects "BookBarge$Journey" ⟨"BookBarge$Journey", "bookByRule", "()I"⟩ ⟨"BookBarge$Journey", "bookByRule", "()I"⟩ ∈ zGT := zGT_mem 30 (by decide +kernel) (by decide +kernel)
theorem zw31 : Cond.selects "BookBarge$Leaving" ⟨"BookBarge$Leaving", "search", "(IIIIII)V"⟩ ⟨"BookBarge$Leaving", "search", "(IIIIII)V"⟩ ∈ zGT := zGT_mem 31 (by decide +kernel) (by decide +kernel)
theorem zw32 : Cond.selects "BookBarge$Lending" ⟨"BookBarge$Lending", "noteGains", "(LBookBarge$World;IZ)I"⟩ ⟨"BookBarge$Lending", "noteGains", "(LBookBarge$World;IZ)I"⟩ ∈ zGT := zGT_mem 32 (by decide +kernel) (by decide +kernel)
theorem zw33 : Cond.selects "BookBarge$Lending" ⟨"BookBarge$Lending", "search", "(III)V"⟩ ⟨"BookBarge$Lending", "search", "(III)V"⟩ ∈ zGT := zGT_mem 33 (by decide +kernel) (by decide +kernel)
theorem zw34 : Cond.selects "BookBarge$Lending" ⟨"BookBarge$Lending", "passesAll", "()Z"⟩ ⟨"BookBarge$Lending", "passesAll", "()Z"⟩ ∈ zGT := zGT_mem 34 (by decide +kernel) (by decide +kernel)
theorem zw35 : Cond.selects "BookBarge$Meeting" ⟨"BookBarge$Meeting", "search", "(IIIIIII)V"⟩ ⟨"BookBarge$Meeting", "search", "(IIIIIII)V"⟩ ∈ zGT := zGT_mem 35 (by decide +kernel) (by decide +kernel)
theorem zw36 : Cond.selects "BookBarge$Cargo" ⟨"BookBarge$Cargo", "noteCandidates", "(LBookBarge$World;I)I"⟩ ⟨"BookBarge$Cargo", "noteCandidates", "(LBookBarge$World;I)I"⟩ ∈ zGT := zGT_mem 36 (by decide +kernel) (by decide +kernel)
theorem zw37 : Cond.selects "BookBarge$Cargo" ⟨"BookBarge$Cargo", "search", "(IIII)V"⟩ ⟨"BookBarge$Cargo", "search", "(IIII)V"⟩ ∈ zGT := zGT_mem 37 (by decide +kernel) (by decide +kernel)
theorem zw38 : Cond.selects "BookBarge$Plugging" ⟨"BookBarge$Plugging", "search", "(III)V"⟩ ⟨"BookBarge$Plugging", "search", "(III)V"⟩ ∈ zGT := zGT_mem 38 (by decide +kernel) (by decide +kernel)
theorem zw39 : Cond.selects "BookBarge$Journey" ⟨"BookBarge$Journey", "draw", "()I"⟩ ⟨"BookBarge$Journey", "draw", "()I"⟩ ∈ zGT := zGT_mem 39 (by decide +kernel) (by decide +kernel)
theorem zw40 : Cond.selects "BookBarge$Journey" ⟨"BookBarge$Journey", "gnaw", "()V"⟩ ⟨"BookBarge$Journey", "gnaw", "()V"⟩ ∈ zGT := zGT_mem 40 (by decide +kernel) (by decide +kernel)
theorem zw41 : Cond.selects "BookBargeModel" ⟨"BookBargeModel", "four", "(I)V"⟩ ⟨"BookBargeModel", "four", "(I)V"⟩ ∈ zGT := zGT_mem 41 (by decide +kernel) (by decide +kernel)
theorem zw42 : Cond.selects "BookBargeModel" ⟨"BookBargeModel", "readsAll", "()Z"⟩ ⟨"BookBargeModel", "readsAll", "()Z"⟩ ∈ zGT := zGT_mem 42 (by decide +kernel) (by decide +kernel)
theorem zw43 : Cond.selects "BookBargeModel" ⟨"BookBargeModel", "clauseHere", "()Z"⟩ ⟨"BookBargeModel", "clauseHere", "()Z"⟩ ∈ zGT := zGT_mem 43 (by decide +kernel) (by decide +kernel)
theorem zw44 : Cond.selects "BookBargeModel" ⟨"BookBargeModel", "see", "()I"⟩ ⟨"BookBargeModel", "see", "()I"⟩ ∈ zGT := zGT_mem 44 (by decide +kernel) (by decide +kernel)
theorem zw45 : Cond.selects "BookBargeModel" ⟨"BookBargeModel", "isRiverWord", "()Z"⟩ ⟨"BookBargeModel", "isRiverWord", "()Z"⟩ ∈ zGT := zGT_mem 45 (by decide +kernel) (by decide +kernel)
theorem zw46 : Cond.selects "BookBargeModel" ⟨"BookBargeModel", "isWord", "(J)Z"⟩ ⟨"BookBargeModel", "isWord", "(J)Z"⟩ ∈ zGT := zGT_mem 46 (by decide +kernel) (by decide +kernel)
theorem zw47 : Cond.selects "BookBargeModel" ⟨"BookBargeModel", "isLetter", "(I)Z"⟩ ⟨"BookBargeModel", "isLetter", "(I)Z"⟩ ∈ zGT := zGT_mem 47 (by decide +kernel) (by decide +kernel)
theorem zw48 : Cond.selects "BookBargeModel" ⟨"BookBargeModel", "doingSort", "()I"⟩ ⟨"BookBargeModel", "doingSort", "()I"⟩ ∈ zGT := zGT_mem 48 (by decide +kernel) (by decide +kernel)
theorem zw49 : Cond.selects "BookBargeModel" ⟨"BookBargeModel", "fails", "(II)Z"⟩ ⟨"BookBargeModel", "fails", "(II)Z"⟩ ∈ zGT := zGT_mem 49 (by decide +kernel) (by decide +kernel)
theorem zw50 : Cond.selects "BookBargeModel" ⟨"BookBargeModel", "riverLineHere", "(I)Z"⟩ ⟨"BookBargeModel", "riverLineHere", "(I)Z"⟩ ∈ zGT := zGT_mem 50 (by decide +kernel) (by decide +kernel)
theorem zw51 : Cond.selects "BookBargeModel" ⟨"BookBargeModel", "isBargeHere", "(I)Z"⟩ ⟨"BookBargeModel", "isBargeHere", "(I)Z"⟩ ∈ zGT := zGT_mem 51 (by decide +kernel) (by decide +kernel)
theorem zw52 : Cond.selects "BookBargeModel" ⟨"BookBargeModel", "passWord", "()V"⟩ ⟨"BookBargeModel", "passWord", "()V"⟩ ∈ zGT := zGT_mem 52 (by decide +kernel) (by decide +kernel)
theorem zw53 : Cond.selects "BookBargeModel" ⟨"BookBargeModel", "cellHere", "(III)Z"⟩ ⟨"BookBargeModel", "cellHere", "(III)Z"⟩ ∈ zGT := zGT_mem 53 (by decide +kernel) (by decide +kernel)
theorem zw54 : Cond.selects "BookBargeModel" ⟨"BookBargeModel", "numberHere", "(II)Z"⟩ ⟨"BookBargeModel", "numberHere", "(II)Z"⟩ ∈ zGT := zGT_mem 54 (by decide +kernel) (by decide +kernel)
theorem zw55 : Cond.selects "BookBargeModel" ⟨"BookBargeModel", "isDigit", "(I)Z"⟩ ⟨"BookBargeModel", "isDigit", "(I)Z"⟩ ∈ zGT := zGT_mem 55 (by decide +kernel) (by decide +kernel)
theorem zw56 : Cond.selects "BookBargeModel" ⟨"BookBargeModel", "isBookHere", "(I)Z"⟩ ⟨"BookBargeModel", "isBookHere", "(I)Z"⟩ ∈ zGT := zGT_mem 56 (by decide +kernel) (by decide +kernel)
theorem zw57 : Cond.selects "BookBargeModel" ⟨"BookBargeModel", "isStopHere", "(I)Z"⟩ ⟨"BookBargeModel", "isStopHere", "(I)Z"⟩ ∈ zGT := zGT_mem 57 (by decide +kernel) (by decide +kernel)
theorem zw58 : Cond.selects "BookBargeModel" ⟨"BookBargeModel", "isDigitNext", "()Z"⟩ ⟨"BookBargeModel", "isDigitNext", "()Z"⟩ ∈ zGT := zGT_mem 58 (by decide +kernel) (by decide +kernel)
theorem zw59 : Cond.selects "BookBargeModel" ⟨"BookBargeModel", "isReaderHere", "(I)Z"⟩ ⟨"BookBargeModel", "isReaderHere", "(I)Z"⟩ ∈ zGT := zGT_mem 59 (by decide +kernel) (by decide +kernel)
theorem zw60 : Cond.selects "BookBargeModel" ⟨"BookBargeModel", "isWishHere", "()Z"⟩ ⟨"BookBargeModel", "isWishHere", "()Z"⟩ ∈ zGT := zGT_mem 60 (by decide +kernel) (by decide +kernel)
theorem zw61 : Cond.selects "BookBargeModel" ⟨"BookBargeModel", "isHoleHere", "(I)Z"⟩ ⟨"BookBargeModel", "isHoleHere", "(I)Z"⟩ ∈ zGT := zGT_mem 61 (by decide +kernel) (by decide +kernel)
theorem zw62 : Cond.selects "BookBargeModel" ⟨"BookBargeModel", "isDoingHere", "(I)Z"⟩ ⟨"BookBargeModel", "isDoingHere", "(I)Z"⟩ ∈ zGT := zGT_mem 62 (by decide +kernel) (by decide +kernel)
theorem zw63 : Cond.selects "BookBargeModel" ⟨"BookBargeModel", "sum", "()Z"⟩ ⟨"BookBargeModel", "sum", "()Z"⟩ ∈ zGT := zGT_mem 63 (by decide +kernel) (by decide +kernel)
theorem zw64 : Cond.selects "BookBargeModel" ⟨"BookBargeModel", "term", "()Z"⟩ ⟨"BookBargeModel", "term", "()Z"⟩ ∈ zGT := zGT_mem 64 (by decide +kernel) (by decide +kernel)
theorem zw65 : Cond.selects "BookBargeModel" ⟨"BookBargeModel", "value", "()Z"⟩ ⟨"BookBargeModel", "value", "()Z"⟩ ∈ zGT := zGT_mem 65 (by decide +kernel) (by decide +kernel)
theorem zw66 : Cond.selects "BookBargeModel" ⟨"BookBargeModel", "makes", "(I)Z"⟩ ⟨"BookBargeModel", "makes", "(I)Z"⟩ ∈ zGT := zGT_mem 66 (by decide +kernel) (by decide +kernel)
theorem zw67 : Cond.selects "BookBargeModel" ⟨"BookBargeModel", "puts", "(II)V"⟩ ⟨"BookBargeModel", "puts", "(II)V"⟩ ∈ zGT := zGT_mem 67 (by decide +kernel) (by decide +kernel)
theorem zw68 : Cond.selects "BookBargeModel" ⟨"BookBargeModel", "wordHere", "()I"⟩ ⟨"BookBargeModel", "wordHere", "()I"⟩ ∈ zGT := zGT_mem 68 (by decide +kernel) (by decide +kernel)
theorem zw69 : Cond.selects "BookBargeModel" ⟨"BookBargeModel", "takesWord", "(J)Z"⟩ ⟨"BookBargeModel", "takesWord", "(J)Z"⟩ ∈ zGT := zGT_mem 69 (by decide +kernel) (by decide +kernel)
theorem zw70 : Cond.selects "BookBargeModel" ⟨"BookBargeModel", "isTestHere", "(I)Z"⟩ ⟨"BookBargeModel", "isTestHere", "(I)Z"⟩ ∈ zGT := zGT_mem 70 (by decide +kernel) (by decide +kernel)
theorem zw71 : Cond.selects "BookBargeModel" ⟨"BookBargeModel", "tested", "()Z"⟩ ⟨"BookBargeModel", "tested", "()Z"⟩ ∈ zGT := zGT_mem 71 (by decide +kernel) (by decide +kernel)
theorem zw72 : Cond.selects "BookBargeModel" ⟨"BookBargeModel", "fact", "()Z"⟩ ⟨"BookBargeModel", "fact", "()Z"⟩ ∈ zGT := zGT_mem 72 (by decide +kernel) (by decide +kernel)
theorem zw73 : Cond.selects "BookBargeModel" ⟨"BookBargeModel", "opens", "(I)Z"⟩ ⟨"BookBargeModel", "opens", "(I)Z"⟩ ∈ zGT := zGT_mem 73 (by decide +kernel) (by decide +kernel)
theorem zw74 : Cond.selects "BookBargeModel" ⟨"BookBargeModel", "compare", "()Z"⟩ ⟨"BookBargeModel", "compare", "()Z"⟩ ∈ zGT := zGT_mem 74 (by decide +kernel) (by decide +kernel)
theorem zw75 : Cond.selects "BookBargeModel" ⟨"BookBargeModel", "closes", "()V"⟩ ⟨"BookBargeModel", "closes", "()V"⟩ ∈ zGT := zGT_mem 75 (by decide +kernel) (by decide +kernel)
theorem zw76 : Cond.selects "BookBargeModel" ⟨"BookBargeModel", "settles", "(I)V"⟩ ⟨"BookBargeModel", "settles", "(I)V"⟩ ∈ zGT := zGT_mem 76 (by decide +kernel) (by decide +kernel)
theorem zw77 : Cond.selects "BookBargeModel" ⟨"BookBargeModel", "isInside", "()Z"⟩ ⟨"BookBargeModel", "isInside", "()Z"⟩ ∈ zGT := zGT_mem 77 (by decide +kernel) (by decide +kernel)
theorem zw78 : Cond.selects "BookBargeModel" ⟨"BookBargeModel", "isBook", "(I)Z"⟩ ⟨"BookBargeModel", "isBook", "(I)Z"⟩ ∈ zGT := zGT_mem 78 (by decide +kernel) (by decide +kernel)
theorem zw79 : Cond.selects "BookBargeModel" ⟨"BookBargeModel", "bookOf", "(II)I"⟩ ⟨"BookBargeModel", "bookOf", "(II)I"⟩ ∈ zGT := zGT_mem 79 (by decide +kernel) (by decide +kernel)
theorem zw80 : Cond.selects "BookBargeModel" ⟨"BookBargeModel", "isStop", "(I)Z"⟩ ⟨"BookBargeModel", "isStop", "(I)Z"⟩ ∈ zGT := zGT_mem 80 (by decide +kernel) (by decide +kernel)
theorem zw81 : Cond.selects "BookBargeModel" ⟨"BookBargeModel", "depthOf", "(I)I"⟩ ⟨"BookBargeModel", "depthOf", "(I)I"⟩ ∈ zGT := zGT_mem 81 (by decide +kernel) (by decide +kernel)
theorem zw82 : Cond.selects "BookBargeModel" ⟨"BookBargeModel", "leftAt", "(I)I"⟩ ⟨"BookBargeModel", "leftAt", "(I)I"⟩ ∈ zGT := zGT_mem 82 (by decide +kernel) (by decide +kernel)
theorem zw83 : Cond.selects "BookBargeModel" ⟨"BookBargeModel", "isBarge", "(I)Z"⟩ ⟨"BookBargeModel", "isBarge", "(I)Z"⟩ ∈ zGT := zGT_mem 83 (by decide +kernel) (by decide +kernel)
theorem zw84 : Cond.selects "BookBargeModel" ⟨"BookBargeModel", "passesNow", "(II)Z"⟩ ⟨"BookBargeModel", "passesNow", "(II)Z"⟩ ∈ zGT := zGT_mem 84 (by decide +kernel) (by decide +kernel)
theorem zw85 : Cond.selects "BookBargeModel" ⟨"BookBargeModel", "aboardOf", "(I)I"⟩ ⟨"BookBargeModel", "aboardOf", "(I)I"⟩ ∈ zGT := zGT_mem 85 (by decide +kernel) (by decide +kernel)
theorem zw86 : Cond.selects "BookBargeModel" ⟨"BookBargeModel", "isAboard", "(II)Z"⟩ ⟨"BookBargeModel", "isAboard", "(II)Z"⟩ ∈ zGT := zGT_mem 86 (by decide +kernel) (by decide +kernel)
theorem zw87 : Cond.selects "BookBargeModel" ⟨"BookBargeModel", "passesBy", "(III)Z"⟩ ⟨"BookBargeModel", "passesBy", "(III)Z"⟩ ∈ zGT := zGT_mem 87 (by decide +kernel) (by decide +kernel)
theorem zw88 : Cond.selects "BookBargeModel" ⟨"BookBargeModel", "draughtBy", "(II)I"⟩ ⟨"BookBargeModel", "draughtBy", "(II)I"⟩ ∈ zGT := zGT_mem 88 (by decide +kernel) (by decide +kernel)
theorem zw89 : Cond.selects "BookBargeModel" ⟨"BookBargeModel", "loadBy", "(II)I"⟩ ⟨"BookBargeModel", "loadBy", "(II)I"⟩ ∈ zGT := zGT_mem 89 (by decide +kernel) (by decide +kernel)
theorem zw90 : Cond.selects "BookBargeModel" ⟨"BookBargeModel", "bargeOf", "(II)I"⟩ ⟨"BookBargeModel", "bargeOf", "(II)I"⟩ ∈ zGT := zGT_mem 90 (by decide +kernel) (by decide +kernel)
theorem zw91 : Cond.selects "BookBargeModel" ⟨"BookBargeModel", "heavy", "(I)I"⟩ ⟨"BookBargeModel", "heavy", "(I)I"⟩ ∈ zGT := zGT_mem 91 (by decide +kernel) (by decide +kernel)
theorem zw92 : Cond.selects "BookBargeModel" ⟨"BookBargeModel", "tiltBy", "(II)I"⟩ ⟨"BookBargeModel", "tiltBy", "(II)I"⟩ ∈ zGT := zGT_mem 92 (by decide +kernel) (by decide +kernel)
theorem zw93 : Cond.selects "BookBargeModel" ⟨"BookBargeModel", "shelfIn", "(II)I"⟩ ⟨"BookBargeModel", "shelfIn", "(II)I"⟩ ∈ zGT := zGT_mem 93 (by decide +kernel) (by decide +kernel)
theorem zw94 : Cond.selects "BookBargeModel" ⟨"BookBargeModel", "arm", "(II)I"⟩ ⟨"BookBargeModel", "arm", "(II)I"⟩ ∈ zGT := zGT_mem 94 (by decide +kernel) (by decide +kernel)
theorem zw95 : Cond.selects "BookBargeModel" ⟨"BookBargeModel", "draughtOf", "(III)I"⟩ ⟨"BookBargeModel", "draughtOf", "(III)I"⟩ ∈ zGT := zGT_mem 95 (by decide +kernel) (by decide +kernel)
theorem zw96 : Cond.selects "BookBargeModel" ⟨"BookBargeModel", "readerOf", "(II)I"⟩ ⟨"BookBargeModel", "readerOf", "(II)I"⟩ ∈ zGT := zGT_mem 96 (by decide +kernel) (by decide +kernel)
theorem zw97 : Cond.selects "BookBargeModel" ⟨"BookBargeModel", "isReader", "(I)Z"⟩ ⟨"BookBargeModel", "isReader", "(I)Z"⟩ ∈ zGT := zGT_mem 97 (by decide +kernel) (by decide +kernel)
theorem zw98 : Cond.selects "BookBargeModel" ⟨"BookBargeModel", "wishOf", "(II)I"⟩ ⟨"BookBargeModel", "wishOf", "(II)I"⟩ ∈ zGT := zGT_mem 98 (by decide +kernel) (by decide +kernel)
theorem zw99 : Cond.selects "BookBargeModel" ⟨"BookBargeModel", "isHole", "(I)Z"⟩ ⟨"BookBargeModel", "isHole", "(I)Z"⟩ ∈ zGT := zGT_mem 99 (by decide +kernel) (by decide +kernel)
theorem zw100 : Cond.selects "BookBargeModel" ⟨"BookBargeModel", "holeOf", "(II)I"⟩ ⟨"BookBargeModel", "holeOf", "(II)I"⟩ ∈ zGT := zGT_mem 100 (by decide +kernel) (by decide +kernel)
theorem zw101 : Cond.selects "BookBargeModel" ⟨"BookBargeModel", "draughtNow", "(I)I"⟩ ⟨"BookBargeModel", "draughtNow", "(I)I"⟩ ∈ zGT := zGT_mem 101 (by decide +kernel) (by decide +kernel)
theorem zw102 : Cond.selects "BookBargeModel" ⟨"BookBargeModel", "stopOf", "(I)I"⟩ ⟨"BookBargeModel", "stopOf", "(I)I"⟩ ∈ zGT := zGT_mem 102 (by decide +kernel) (by decide +kernel)
theorem zw103 : Cond.selects "BookBargeModel" ⟨"BookBargeModel", "bargeWith", "(I)I"⟩ ⟨"BookBargeModel", "bargeWith", "(I)I"⟩ ∈ zGT := zGT_mem 103 (by decide +kernel) (by decide +kernel)
theorem zw104 : Cond.selects "BookBargeModel" ⟨"BookBargeModel", "keepsAct", "()V"⟩ ⟨"BookBargeModel", "keepsAct", "()V"⟩ ∈ zGT := zGT_mem 104 (by decide +kernel) (by decide +kernel)
theorem zw105 : Cond.selects "BookBargeModel" ⟨"BookBargeModel", "stands", "(II)V"⟩ ⟨"BookBargeModel", "stands", "(II)V"⟩ ∈ zGT := zGT_mem 105 (by decide +kernel) (by decide +kernel)
theorem zw106 : Cond.selects "BookBargeModel" ⟨"BookBargeModel", "canLend", "(II)Z"⟩ ⟨"BookBargeModel", "canLend", "(II)Z"⟩ ∈ zGT := zGT_mem 106 (by decide +kernel) (by decide +kernel)
theorem zw107 : Cond.selects "BookBargeModel" ⟨"BookBargeModel", "lends", "(II)V"⟩ ⟨"BookBargeModel", "lends", "(II)V"⟩ ∈ zGT := zGT_mem 107 (by decide +kernel) (by decide +kernel)
theorem zw108 : Cond.selects "BookBargeModel" ⟨"BookBargeModel", "isShelf", "(II)Z"⟩ ⟨"BookBargeModel", "isShelf", "(II)Z"⟩ ∈ zGT := zGT_mem 108 (by decide +kernel) (by decide +kernel)
theorem zw109 : Cond.selects "BookBargeModel" ⟨"BookBargeModel", "canFetch", "(II)Z"⟩ ⟨"BookBargeModel", "canFetch", "(II)Z"⟩ ∈ zGT := zGT_mem 109 (by decide +kernel) (by decide +kernel)
theorem zw110 : Cond.selects "BookBargeModel" ⟨"BookBargeModel", "fetches", "(III)V"⟩ ⟨"BookBargeModel", "fetches", "(III)V"⟩ ∈ zGT := zGT_mem 110 (by decide +kernel) (by decide +kernel)
theorem zw111 : Cond.selects "BookBargeModel" ⟨"BookBargeModel", "nights", "()V"⟩ ⟨"BookBargeModel", "nights", "()V"⟩ ∈ zGT := zGT_mem 111 (by decide +kernel) (by decide +kernel)
theorem zw112 : Cond.selects "BookBargeModel" ⟨"BookBargeModel", "dry", "()I"⟩ ⟨"BookBargeModel", "dry", "()I"⟩ ∈ zGT := zGT_mem 112 (by decide +kernel) (by decide +kernel)
theorem zw113 : Cond.selects "BookBargeModel" ⟨"BookBargeModel", "rains", "()V"⟩ ⟨"BookBargeModel", "rains", "()V"⟩ ∈ zGT := zGT_mem 113 (by decide +kernel) (by decide +kernel)
theorem zw114 : Cond.selects "BookBargeModel" ⟨"BookBargeModel", "couldPlug", "(II)Z"⟩ ⟨"BookBargeModel", "couldPlug", "(II)Z"⟩ ∈ zGT := zGT_mem 114 (by decide +kernel) (by decide +kernel)
theorem zw115 : Cond.selects "BookBargeModel" ⟨"BookBargeModel", "isRule", "(I)Z"⟩ ⟨"BookBargeModel", "isRule", "(I)Z"⟩ ∈ zGT := zGT_mem 115 (by decide +kernel) (by decide +kernel)
theorem zw116 : Cond.selects "BookBargeModel" ⟨"BookBargeModel", "goesOn", "(II)Z"⟩ ⟨"BookBargeModel", "goesOn", "(II)Z"⟩ ∈ zGT := zGT_mem 116 (by decide +kernel) (by decide +kernel)
theorem zw117 : Cond.selects "BookBargeModel" ⟨"BookBargeModel", "clauseFor", "(IIII)I"⟩ ⟨"BookBargeModel", "clauseFor", "(IIII)I"⟩ ∈ zGT := zGT_mem 117 (by decide +kernel) (by decide +kernel)
theorem zw118 : Cond.selects "BookBargeModel" ⟨"BookBargeModel", "words", "(II)V"⟩ ⟨"BookBargeModel", "words", "(II)V"⟩ ∈ zGT := zGT_mem 118 (by decide +kernel) (by decide +kernel)
theorem zw119 : Cond.selects "BookBargeModel" ⟨"BookBargeModel", "bestReader", "(II)I"⟩ ⟨"BookBargeModel", "bestReader", "(II)I"⟩ ∈ zGT := zGT_mem 119 (by decide +kernel) (by decide +kernel)
theorem zw120 : Cond.selects "BookBargeModel" ⟨"BookBargeModel", "holds", "(II)Z"⟩ ⟨"BookBargeModel", "holds", "(II)Z"⟩ ∈ zGT := zGT_mem 120 (by decide +kernel) (by decide +kernel)
theorem zw121 : Cond.selects "BookBargeModel" ⟨"BookBargeModel", "reckons", "(III)J"⟩ ⟨"BookBargeModel", "reckons", "(III)J"⟩ ∈ zGT := zGT_mem 121 (by decide +kernel) (by decide +kernel)
theorem zw122 : Cond.selects "BookBargeModel" ⟨"BookBargeModel", "push", "(J)V"⟩ ⟨"BookBargeModel", "push", "(J)V"⟩ ∈ zGT := zGT_mem 122 (by decide +kernel) (by decide +kernel)
theorem zw123 : Cond.selects "BookBargeModel" ⟨"BookBargeModel", "pop", "()J"⟩ ⟨"BookBargeModel", "pop", "()J"⟩ ∈ zGT := zGT_mem 123 (by decide +kernel) (by decide +kernel)
theorem zw124 : Cond.selects "BookBargeModel" ⟨"BookBargeModel", "lightens", "(III)Z"⟩ ⟨"BookBargeModel", "lightens", "(III)Z"⟩ ∈ zGT := zGT_mem 124 (by decide +kernel) (by decide +kernel)
theorem zw125 : Cond.selects "BookBargeModel" ⟨"BookBargeModel", "nextFor", "(II)I"⟩ ⟨"BookBargeModel", "nextFor", "(II)I"⟩ ∈ zGT := zGT_mem 125 (by decide +kernel) (by decide +kernel)
theorem zw126 : Cond.selects "BookBargeModel" ⟨"BookBargeModel", "leastDepth", "(II)I"⟩ ⟨"BookBargeModel", "leastDepth", "(II)I"⟩ ∈ zGT := zGT_mem 126 (by decide +kernel) (by decide +kernel)
theorem zw127 : Cond.selects "BookBargeModel" ⟨"BookBargeModel", "worthOf", "(I)I"⟩ ⟨"BookBargeModel", "worthOf", "(I)I"⟩ ∈ zGT := zGT_mem 127 (by decide +kernel) (by decide +kernel)
theorem zw128 : Cond.selects "BookBargeModel" ⟨"BookBargeModel", "isAhead", "(II)Z"⟩ ⟨"BookBargeModel", "isAhead", "(II)Z"⟩ ∈ zGT := zGT_mem 128 (by decide +kernel) (by decide +kernel)
theorem zw129 : Cond.selects "BookBargeModel" ⟨"BookBargeModel", "mostCoins", "(III)I"⟩ ⟨"BookBargeModel", "mostCoins", "(III)I"⟩ ∈ zGT := zGT_mem 129 (by decide +kernel) (by decide +kernel)
theorem zw130 : Cond.selects "BookBargeModel" ⟨"BookBargeModel", "tellsThrough", "(III)V"⟩ ⟨"BookBargeModel", "tellsThrough", "(III)V"⟩ ∈ zGT := zGT_mem 130 (by decide +kernel) (by decide +kernel)
theorem zw131 : Cond.selects "BookBargeModel" ⟨"BookBargeModel", "coinsOf", "(II)I"⟩ ⟨"BookBargeModel", "coinsOf", "(II)I"⟩ ∈ zGT := zGT_mem 131 (by decide +kernel) (by decide +kernel)
theorem zw132 : Cond.selects "BookBargeModel" ⟨"BookBargeModel", "nextRow", "(III)Z"⟩ ⟨"BookBargeModel", "nextRow", "(III)Z"⟩ ∈ zGT := zGT_mem 132 (by decide +kernel) (by decide +kernel)
theorem zw133 : Cond.selects "BookBargeModel" ⟨"BookBargeModel", "canAsk", "(IIII)Z"⟩ ⟨"BookBargeModel", "canAsk", "(IIII)Z"⟩ ∈ zGT := zGT_mem 133 (by decide +kernel) (by decide +kernel)
theorem zw134 : Cond.selects "BookBargeModel" ⟨"BookBargeModel", "nextBook", "(III)I"⟩ ⟨"BookBargeModel", "nextBook", "(III)I"⟩ ∈ zGT := zGT_mem 134 (by decide +kernel) (by decide +kernel)
theorem zw135 : Cond.selects "BookBargeModel" ⟨"BookBargeModel", "isPlugRow", "(I)Z"⟩ ⟨"BookBargeModel", "isPlugRow", "(I)Z"⟩ ∈ zGT := zGT_mem 135 (by decide +kernel) (by decide +kernel)
theorem zw136 : Cond.selects "BookBargeModel" ⟨"BookBargeModel", "plugWorth", "(I)I"⟩ ⟨"BookBargeModel", "plugWorth", "(I)I"⟩ ∈ zGT := zGT_mem 136 (by decide +kernel) (by decide +kernel)
theorem zw137 : Cond.selects "BookBargeModel" ⟨"BookBargeModel", "nextPlugRow", "(I)Z"⟩ ⟨"BookBargeModel", "nextPlugRow", "(I)Z"⟩ ∈ zGT := zGT_mem 137 (by decide +kernel) (by decide +kernel)
theorem zw138 : Cond.selects "BookBargeModel" ⟨"BookBargeModel", "keeps", "()V"⟩ ⟨"BookBargeModel", "keeps", "()V"⟩ ∈ zGT := zGT_mem 138 (by decide +kernel) (by decide +kernel)
theorem zw139 : Cond.selects "BookBargeModel" ⟨"BookBargeModel", "weathers", "(II)V"⟩ ⟨"BookBargeModel", "weathers", "(II)V"⟩ ∈ zGT := zGT_mem 139 (by decide +kernel) (by decide +kernel)
theorem zw140 : Cond.selects "BookBargeModel" ⟨"BookBargeModel", "draw", "(I)I"⟩ ⟨"BookBargeModel", "draw", "(I)I"⟩ ∈ zGT := zGT_mem 140 (by decide +kernel) (by decide +kernel)
theorem zw141 : Cond.selects "BookBargeModel" ⟨"BookBargeModel", "putsBack", "()V"⟩ ⟨"BookBargeModel", "putsBack", "()V"⟩ ∈ zGT := zGT_mem 141 (by decide +kernel) (by decide +kernel)
theorem zw143 : Cond.initialized "BookBarge" ∈ zGT := zGT_mem 143 (by decide +kernel) (by decide +kernel)
theorem zw144 : Cond.initialized "BookBarge$World" ∈ zGT := zGT_mem 144 (by decide +kernel) (by decide +kernel)
theorem zw145 : Cond.initialized "BookBarge$Scanner" ∈ zGT := zGT_mem 145 (by decide +kernel) (by decide +kernel)
theorem zw146 : Cond.initialized "BookBarge$RiverParser" ∈ zGT := zGT_mem 146 (by decide +kernel) (by decide +kernel)
theorem zw147 : Cond.initialized "BookBarge$RuleParser" ∈ zGT := zGT_mem 147 (by decide +kernel) (by decide +kernel)
theorem zw148 : Cond.initialized "BookBarge$Journey" ∈ zGT := zGT_mem 148 (by decide +kernel) (by decide +kernel)
theorem zw149 : Cond.initialized "BookBarge$Leaving" ∈ zGT := zGT_mem 149 (by decide +kernel) (by decide +kernel)
theorem zw150 : Cond.initialized "BookBarge$Lending" ∈ zGT := zGT_mem 150 (by decide +kernel) (by decide +kernel)
theorem zw151 : Cond.initialized "BookBarge$Meeting" ∈ zGT := zGT_mem 151 (by decide +kernel) (by decide +kernel)
theorem zw152 : Cond.initialized "BookBarge$Cargo" ∈ zGT := zGT_mem 152 (by decide +kernel) (by decide +kernel)
theorem zw153 : Cond.initialized "BookBarge$Plugging" ∈ zGT := zGT_mem 153 (by decide +kernel) (by decide +kernel)
theorem zw154 : Cond.initialized "BookBargeModel" ∈ zGT := zGT_mem 154 (by decide +kernel) (by decide +kernel)
theorem zw155 : Cond.initialized "java/lang/Math" ∈ zGT := zGT_mem 155 (by decide +kernel) (by decide +kernel)
theorem zw156 : Cond.initialized "java/lang/System" ∈ zGT := zGT_mem 156 (by decide +kernel) (by decide +kernel)
theorem zw157 : Cond.initialized "java/util/Arrays" ∈ zGT := zGT_mem 157 (by decide +kernel) (by decide +kernel)
theorem zw162 : Cond.initialized "BookBarge$Rule" ∈ zGT := zGT_mem 162 (by decide +kernel) (by decide +kernel)
theorem zw168 : Cond.methodLink RX11 1 objectInit ∈ zGT := zGT_mem 168 (by decide +kernel) (by decide +kernel)
theorem zw169 : Cond.instanceMethod objectInit ∈ zGT := zGT_mem 169 (by decide +kernel) (by decide +kernel)
theorem zw170 : Cond.code objectInit ⟨#[0xb1]⟩ 1 none ∈ zGT := zGT_mem 170 (by decide +kernel) (by decide +kernel)
theorem zw171 : Cond.classLink RX11 17 "BookBarge$World" ∈ zGT := zGT_mem 171 (by decide +kernel) (by decide +kernel)
theorem zw172 : Cond.instantiable "BookBarge$World" 1 ∈ zGT := zGT_mem 172 (by decide +kernel) (by decide +kernel)
theorem zw174 : Cond.instanceMethod ⟨"BookBarge$World", "<init>", "()V"⟩ ∈ zGT := zGT_mem 174 (by decide +kernel) (by decide +kernel)
theorem zw175 : Cond.code ⟨"BookBarge$World", "<init>", "()V"⟩ cX10_init 1 (none : Option FieldType) ∈ zGT := zGT_mem 175 (by decide +kernel) (by decide +kernel)
theorem zw176 : Cond.methodLink RX10 3 objectInit ∈ zGT := zGT_mem 176 (by decide +kernel) (by decide +kernel)
theorem zw177 : Cond.fieldLink RX10 11 "BookBarge$World" "cells" "[I" ∈ zGT := zGT_mem 177 (by decide +kernel) (by decide +kernel)
theorem zw178 : Cond.fieldLink RX6 18 "BookBarge$World" "cells" "[I" ∈ zGT := zGT_mem 178 (by decide +kernel) (by decide +kernel)
theorem zw179 : Cond.fieldLink RX11 121 "BookBarge$World" "cells" "[I" ∈ zGT := zGT_mem 179 (by decide +kernel) (by decide +kernel)
theorem zw180 : Cond.fieldLink RX1 91 "BookBarge$World" "cells" "[I" ∈ zGT := zGT_mem 180 (by decide +kernel) (by decide +kernel)
theorem zw184 : Cond.arrayClass .int ∈ zGT := zGT_mem 184 (by decide +kernel) (by decide +kernel)
theorem zw186 : Cond.classLink RX11 28 "BookBarge$Rule" ∈ zGT := zGT_mem 186 (by decide +kernel) (by decide +kernel)
theorem zw188 : Cond.classLink RX11 46 "BookBarge$RiverParser" ∈ zGT := zGT_mem 188 (by decide +kernel) (by decide +kernel)
theorem zw189 : Cond.instantiable "BookBarge$RiverParser" 7 ∈ zGT := zGT_mem 189 (by decide +kernel) (by decide +kernel)
theorem zw191 : Cond.instanceMethod ⟨"BookBarge$RiverParser", "<init>", "()V"⟩ ∈ zGT := zGT_mem 191 (by decide +kernel) (by decide +kernel)
theorem zw192 : Cond.code ⟨"BookBarge$RiverParser", "<init>", "()V"⟩ cX6_init 1 (none : Option FieldType) ∈ zGT := zGT_mem 192 (by decide +kernel) (by decide +kernel)
theorem zw194 : Cond.instanceMethod ⟨"BookBarge$Scanner", "<init>", "()V"⟩ ∈ zGT := zGT_mem 194 (by decide +kernel) (by decide +kernel)
theorem zw195 : Cond.code ⟨"BookBarge$Scanner", "<init>", "()V"⟩ cX9_init 1 (none : Option FieldType) ∈ zGT := zGT_mem 195 (by decide +kernel) (by decide +kernel)
theorem zw196 : Cond.methodLink RX9 3 objectInit ∈ zGT := zGT_mem 196 (by decide +kernel) (by decide +kernel)
theorem zw197 : Cond.classLink RX6 9 "BookBarge$World" ∈ zGT := zGT_mem 197 (by decide +kernel) (by decide +kernel)
theorem zw199 : Cond.fieldLink RX6 12 "BookBarge$RiverParser" "told" "LBookBarge$World;" ∈ zGT := zGT_mem 199 (by decide +kernel) (by decide +kernel)
theorem zw200 : Cond.fieldLink RX11 114 "BookBarge$RiverParser" "told" "LBookBarge$World;" ∈ zGT := zGT_mem 200 (by decide +kernel) (by decide +kernel)
theorem zw201 : Cond.fieldLink RX6 22 "BookBarge$RiverParser" "cells" "[I" ∈ zGT := zGT_mem 201 (by decide +kernel) (by decide +kernel)
theorem zw202 : Cond.fieldLink RX9 9 "BookBarge$Scanner" "text" "[I" ∈ zGT := zGT_mem 202 (by decide +kernel) (by decide +kernel)
theorem zw203 : Cond.fieldLink RX9 15 "BookBarge$Scanner" "length" "I" ∈ zGT := zGT_mem 203 (by decide +kernel) (by decide +kernel)
theorem zw204 : Cond.fieldLink RX9 19 "BookBarge$Scanner" "place" "I" ∈ zGT := zGT_mem 204 (by decide +kernel) (by decide +kernel)
theorem zw205 : Cond.fieldLink RX8 48 "BookBarge$RuleParser" "place" "I" ∈ zGT := zGT_mem 205 (by decide +kernel) (by decide +kernel)
theorem zw206 : Cond.sameField "BookBarge$RuleParser" "BookBarge$Scanner" "place" "I" ∈ zGT := zGT_mem 206 (by decide +kernel) (by decide +kernel)
theorem zw207 : Cond.fieldLink RX6 48 "BookBarge$RiverParser" "place" "I" ∈ zGT := zGT_mem 207 (by decide +kernel) (by decide +kernel)
theorem zw208 : Cond.sameField "BookBarge$RiverParser" "BookBarge$Scanner" "place" "I" ∈ zGT := zGT_mem 208 (by decide +kernel) (by decide +kernel)
theorem zw209 : Cond.fieldLink RX9 22 "BookBarge$Scanner" "number" "I" ∈ zGT := zGT_mem 209 (by decide +kernel) (by decide +kernel)
theorem zw210 : Cond.fieldLink RX8 79 "BookBarge$RuleParser" "number" "I" ∈ zGT := zGT_mem 210 (by decide +kernel) (by decide +kernel)
theorem zw211 : Cond.sameField "BookBarge$RuleParser" "BookBarge$Scanner" "number" "I" ∈ zGT := zGT_mem 211 (by decide +kernel) (by decide +kernel)
theorem zw212 : Cond.fieldLink RX6 94 "BookBarge$RiverParser" "number" "I" ∈ zGT := zGT_mem 212 (by decide +kernel) (by decide +kernel)
theorem zw213 : Cond.sameField "BookBarge$RiverParser" "BookBarge$Scanner" "number" "I" ∈ zGT := zGT_mem 213 (by decide +kernel) (by decide +kernel)
theorem zw214 : Cond.fieldLink RX9 25 "BookBarge$Scanner" "fault" "I" ∈ zGT := zGT_mem 214 (by decide +kernel) (by decide +kernel)
theorem zw215 : Cond.fieldLink RX6 36 "BookBarge$RiverParser" "fault" "I" ∈ zGT := zGT_mem 215 (by decide +kernel) (by decide +kernel)
theorem zw216 : Cond.sameField "BookBarge$RiverParser" "BookBarge$Scanner" "fault" "I" ∈ zGT := zGT_mem 216 (by decide +kernel) (by decide +kernel)
theorem zw217 : Cond.fieldLink RX8 38 "BookBarge$RuleParser" "fault" "I" ∈ zGT := zGT_mem 217 (by decide +kernel) (by decide +kernel)
theorem zw218 : Cond.sameField "BookBarge$RuleParser" "BookBarge$Scanner" "fault" "I" ∈ zGT := zGT_mem 218 (by decide +kernel) (by decide +kernel)
theorem zw234 : Cond.classLink RX11 53 "BookBarge$RuleParser" ∈ zGT := zGT_mem 234 (by decide +kernel) (by decide +kernel)
theorem zw235 : Cond.instantiable "BookBarge$RuleParser" 10 ∈ zGT := zGT_mem 235 (by decide +kernel) (by decide +kernel)
theorem zw237 : Cond.instanceMethod ⟨"BookBarge$RuleParser", "<init>", "()V"⟩ ∈ zGT := zGT_mem 237 (by decide +kernel) (by decide +kernel)
theorem zw238 : Cond.code ⟨"BookBarge$RuleParser", "<init>", "()V"⟩ cX8_init 1 (none : Option FieldType) ∈ zGT := zGT_mem 238 (by decide +kernel) (by decide +kernel)
theorem zw240 : Cond.fieldLink RX8 9 "BookBarge$RuleParser" "code" "[I" ∈ zGT := zGT_mem 240 (by decide +kernel) (by decide +kernel)
theorem zw241 : Cond.fieldLink RX8 15 "BookBarge$RuleParser" "codeLength" "I" ∈ zGT := zGT_mem 241 (by decide +kernel) (by decide +kernel)
theorem zw242 : Cond.fieldLink RX8 21 "BookBarge$RuleParser" "clauses" "[I" ∈ zGT := zGT_mem 242 (by decide +kernel) (by decide +kernel)
theorem zw243 : Cond.fieldLink RX8 24 "BookBarge$RuleParser" "clauseCount" "I" ∈ zGT := zGT_mem 243 (by decide +kernel) (by decide +kernel)
theorem zw244 : Cond.fieldLink RX8 27 "BookBarge$RuleParser" "parts" "I" ∈ zGT := zGT_mem 244 (by decide +kernel) (by decide +kernel)
theorem zw261 : Cond.classLink RX11 60 "BookBarge$Journey" ∈ zGT := zGT_mem 261 (by decide +kernel) (by decide +kernel)
theorem zw262 : Cond.instantiable "BookBarge$Journey" 10 ∈ zGT := zGT_mem 262 (by decide +kernel) (by decide +kernel)
theorem zw264 : Cond.instanceMethod ⟨"BookBarge$Journey", "<init>", "()V"⟩ ∈ zGT := zGT_mem 264 (by decide +kernel) (by decide +kernel)
theorem zw265 : Cond.code ⟨"BookBarge$Journey", "<init>", "()V"⟩ cX1_init 1 (none : Option FieldType) ∈ zGT := zGT_mem 265 (by decide +kernel) (by decide +kernel)
theorem zw266 : Cond.methodLink RX1 3 objectInit ∈ zGT := zGT_mem 266 (by decide +kernel) (by decide +kernel)
theorem zw267 : Cond.classLink RX1 9 "BookBarge$World" ∈ zGT := zGT_mem 267 (by decide +kernel) (by decide +kernel)
theorem zw269 : Cond.fieldLink RX1 12 "BookBarge$Journey" "trip" "LBookBarge$World;" ∈ zGT := zGT_mem 269 (by decide +kernel) (by decide +kernel)
theorem zw270 : Cond.fieldLink RX11 293 "BookBarge$Journey" "trip" "LBookBarge$World;" ∈ zGT := zGT_mem 270 (by decide +kernel) (by decide +kernel)
theorem zw271 : Cond.fieldLink RX1 18 "BookBarge$Journey" "words" "[J" ∈ zGT := zGT_mem 271 (by decide +kernel) (by decide +kernel)
theorem zw272 : Cond.fieldLink RX1 22 "BookBarge$Journey" "world" "LBookBarge$World;" ∈ zGT := zGT_mem 272 (by decide +kernel) (by decide +kernel)
theorem zw273 : Cond.fieldLink RX1 25 "BookBarge$Journey" "rule" "LBookBarge$Rule;" ∈ zGT := zGT_mem 273 (by decide +kernel) (by decide +kernel)
theorem zw274 : Cond.fieldLink RX1 29 "BookBarge$Journey" "barge" "I" ∈ zGT := zGT_mem 274 (by decide +kernel) (by decide +kernel)
theorem zw275 : Cond.fieldLink RX1 33 "BookBarge$Journey" "keenest" "I" ∈ zGT := zGT_mem 275 (by decide +kernel) (by decide +kernel)
theorem zw276 : Cond.fieldLink RX1 36 "BookBarge$Journey" "x" "I" ∈ zGT := zGT_mem 276 (by decide +kernel) (by decide +kernel)
theorem zw277 : Cond.fieldLink RX1 39 "BookBarge$Journey" "lent" "I" ∈ zGT := zGT_mem 277 (by decide +kernel) (by decide +kernel)
theorem zw278 : Cond.fieldLink RX11 303 "BookBarge$Journey" "lent" "I" ∈ zGT := zGT_mem 278 (by decide +kernel) (by decide +kernel)
theorem zw279 : Cond.fieldLink RX1 42 "BookBarge$Journey" "ashore" "I" ∈ zGT := zGT_mem 279 (by decide +kernel) (by decide +kernel)
theorem zw280 : Cond.fieldLink RX11 306 "BookBarge$Journey" "ashore" "I" ∈ zGT := zGT_mem 280 (by decide +kernel) (by decide +kernel)
theorem zw281 : Cond.fieldLink RX1 45 "BookBarge$Journey" "arrived" "I" ∈ zGT := zGT_mem 281 (by decide +kernel) (by decide +kernel)
theorem zw282 : Cond.fieldLink RX11 300 "BookBarge$Journey" "arrived" "I" ∈ zGT := zGT_mem 282 (by decide +kernel) (by decide +kernel)
theorem zw304 : Cond.arrayClass .long ∈ zGT := zGT_mem 304 (by decide +kernel) (by decide +kernel)
theorem zw305 : Cond.classLink RX11 67 "BookBarge$Leaving" ∈ zGT := zGT_mem 305 (by decide +kernel) (by decide +kernel)
theorem zw306 : Cond.instantiable "BookBarge$Leaving" 9 ∈ zGT := zGT_mem 306 (by decide +kernel) (by decide +kernel)
theorem zw308 : Cond.instanceMethod ⟨"BookBarge$Leaving", "<init>", "()V"⟩ ∈ zGT := zGT_mem 308 (by decide +kernel) (by decide +kernel)
theorem zw309 : Cond.code ⟨"BookBarge$Leaving", "<init>", "()V"⟩ cX2_init 1 (none : Option FieldType) ∈ zGT := zGT_mem 309 (by decide +kernel) (by decide +kernel)
theorem zw310 : Cond.methodLink RX2 3 objectInit ∈ zGT := zGT_mem 310 (by decide +kernel) (by decide +kernel)
theorem zw311 : Cond.fieldLink RX2 11 "BookBarge$Leaving" "heavy" "[I" ∈ zGT := zGT_mem 311 (by decide +kernel) (by decide +kernel)
theorem zw312 : Cond.fieldLink RX2 17 "BookBarge$Leaving" "turn" "[I" ∈ zGT := zGT_mem 312 (by decide +kernel) (by decide +kernel)
theorem zw313 : Cond.fieldLink RX2 20 "BookBarge$Leaving" "worthOf" "[I" ∈ zGT := zGT_mem 313 (by decide +kernel) (by decide +kernel)
theorem zw314 : Cond.fieldLink RX2 23 "BookBarge$Leaving" "stone" "I" ∈ zGT := zGT_mem 314 (by decide +kernel) (by decide +kernel)
theorem zw315 : Cond.fieldLink RX2 27 "BookBarge$Leaving" "lean" "I" ∈ zGT := zGT_mem 315 (by decide +kernel) (by decide +kernel)
theorem zw316 : Cond.fieldLink RX2 30 "BookBarge$Leaving" "depth" "I" ∈ zGT := zGT_mem 316 (by decide +kernel) (by decide +kernel)
theorem zw317 : Cond.fieldLink RX2 33 "BookBarge$Leaving" "bestSize" "I" ∈ zGT := zGT_mem 317 (by decide +kernel) (by decide +kernel)
theorem zw318 : Cond.fieldLink RX2 36 "BookBarge$Leaving" "bestWorth" "I" ∈ zGT := zGT_mem 318 (by decide +kernel) (by decide +kernel)
theorem zw319 : Cond.fieldLink RX11 250 "BookBarge$Leaving" "bestWorth" "I" ∈ zGT := zGT_mem 319 (by decide +kernel) (by decide +kernel)
theorem zw320 : Cond.fieldLink RX2 39 "BookBarge$Leaving" "bestSet" "I" ∈ zGT := zGT_mem 320 (by decide +kernel) (by decide +kernel)
theorem zw321 : Cond.fieldLink RX11 253 "BookBarge$Leaving" "bestSet" "I" ∈ zGT := zGT_mem 321 (by decide +kernel) (by decide +kernel)
theorem zw341 : Cond.classLink RX11 74 "BookBarge$Lending" ∈ zGT := zGT_mem 341 (by decide +kernel) (by decide +kernel)
theorem zw342 : Cond.instantiable "BookBarge$Lending" 17 ∈ zGT := zGT_mem 342 (by decide +kernel) (by decide +kernel)
theorem zw344 : Cond.instanceMethod ⟨"BookBarge$Lending", "<init>", "()V"⟩ ∈ zGT := zGT_mem 344 (by decide +kernel) (by decide +kernel)
theorem zw345 : Cond.code ⟨"BookBarge$Lending", "<init>", "()V"⟩ cX3_init 1 (none : Option FieldType) ∈ zGT := zGT_mem 345 (by decide +kernel) (by decide +kernel)
theorem zw346 : Cond.methodLink RX3 3 objectInit ∈ zGT := zGT_mem 346 (by decide +kernel) (by decide +kernel)
theorem zw347 : Cond.fieldLink RX3 11 "BookBarge$Lending" "gains" "[I" ∈ zGT := zGT_mem 347 (by decide +kernel) (by decide +kernel)
theorem zw348 : Cond.fieldLink RX3 17 "BookBarge$Lending" "atMost" "[I" ∈ zGT := zGT_mem 348 (by decide +kernel) (by decide +kernel)
theorem zw349 : Cond.fieldLink RX3 20 "BookBarge$Lending" "home" "[I" ∈ zGT := zGT_mem 349 (by decide +kernel) (by decide +kernel)
theorem zw350 : Cond.fieldLink RX3 23 "BookBarge$Lending" "heavy" "[I" ∈ zGT := zGT_mem 350 (by decide +kernel) (by decide +kernel)
theorem zw351 : Cond.fieldLink RX3 26 "BookBarge$Lending" "turn" "[I" ∈ zGT := zGT_mem 351 (by decide +kernel) (by decide +kernel)
theorem zw352 : Cond.fieldLink RX3 29 "BookBarge$Lending" "depths" "[I" ∈ zGT := zGT_mem 352 (by decide +kernel) (by decide +kernel)
theorem zw353 : Cond.fieldLink RX3 32 "BookBarge$Lending" "lessLoad" "[I" ∈ zGT := zGT_mem 353 (by decide +kernel) (by decide +kernel)
theorem zw354 : Cond.fieldLink RX3 35 "BookBarge$Lending" "lessTilt" "[I" ∈ zGT := zGT_mem 354 (by decide +kernel) (by decide +kernel)
theorem zw355 : Cond.fieldLink RX3 38 "BookBarge$Lending" "row" "[I" ∈ zGT := zGT_mem 355 (by decide +kernel) (by decide +kernel)
theorem zw356 : Cond.fieldLink RX3 41 "BookBarge$Lending" "best" "[I" ∈ zGT := zGT_mem 356 (by decide +kernel) (by decide +kernel)
theorem zw357 : Cond.fieldLink RX11 265 "BookBarge$Lending" "best" "[I" ∈ zGT := zGT_mem 357 (by decide +kernel) (by decide +kernel)
theorem zw358 : Cond.fieldLink RX3 44 "BookBarge$Lending" "bestCoins" "I" ∈ zGT := zGT_mem 358 (by decide +kernel) (by decide +kernel)
theorem zw359 : Cond.fieldLink RX3 48 "BookBarge$Lending" "first" "I" ∈ zGT := zGT_mem 359 (by decide +kernel) (by decide +kernel)
theorem zw360 : Cond.fieldLink RX3 51 "BookBarge$Lending" "last" "I" ∈ zGT := zGT_mem 360 (by decide +kernel) (by decide +kernel)
theorem zw361 : Cond.fieldLink RX3 54 "BookBarge$Lending" "load" "I" ∈ zGT := zGT_mem 361 (by decide +kernel) (by decide +kernel)
theorem zw362 : Cond.fieldLink RX3 57 "BookBarge$Lending" "tilt" "I" ∈ zGT := zGT_mem 362 (by decide +kernel) (by decide +kernel)
theorem zw363 : Cond.fieldLink RX3 60 "BookBarge$Lending" "stone" "I" ∈ zGT := zGT_mem 363 (by decide +kernel) (by decide +kernel)
theorem zw364 : Cond.fieldLink RX3 63 "BookBarge$Lending" "lean" "I" ∈ zGT := zGT_mem 364 (by decide +kernel) (by decide +kernel)
theorem zw400 : Cond.classLink RX11 81 "BookBarge$Meeting" ∈ zGT := zGT_mem 400 (by decide +kernel) (by decide +kernel)
theorem zw401 : Cond.instantiable "BookBarge$Meeting" 11 ∈ zGT := zGT_mem 401 (by decide +kernel) (by decide +kernel)
theorem zw403 : Cond.instanceMethod ⟨"BookBarge$Meeting", "<init>", "()V"⟩ ∈ zGT := zGT_mem 403 (by decide +kernel) (by decide +kernel)
theorem zw404 : Cond.code ⟨"BookBarge$Meeting", "<init>", "()V"⟩ cX4_init 1 (none : Option FieldType) ∈ zGT := zGT_mem 404 (by decide +kernel) (by decide +kernel)
theorem zw405 : Cond.methodLink RX4 3 objectInit ∈ zGT := zGT_mem 405 (by decide +kernel) (by decide +kernel)
theorem zw406 : Cond.fieldLink RX4 11 "BookBarge$Meeting" "heavy" "[I" ∈ zGT := zGT_mem 406 (by decide +kernel) (by decide +kernel)
theorem zw407 : Cond.fieldLink RX4 17 "BookBarge$Meeting" "turn0" "[I" ∈ zGT := zGT_mem 407 (by decide +kernel) (by decide +kernel)
theorem zw408 : Cond.fieldLink RX4 20 "BookBarge$Meeting" "turn1" "[I" ∈ zGT := zGT_mem 408 (by decide +kernel) (by decide +kernel)
theorem zw409 : Cond.fieldLink RX4 23 "BookBarge$Meeting" "stone0" "I" ∈ zGT := zGT_mem 409 (by decide +kernel) (by decide +kernel)
theorem zw410 : Cond.fieldLink RX4 27 "BookBarge$Meeting" "lean0" "I" ∈ zGT := zGT_mem 410 (by decide +kernel) (by decide +kernel)
theorem zw411 : Cond.fieldLink RX4 30 "BookBarge$Meeting" "depth0" "I" ∈ zGT := zGT_mem 411 (by decide +kernel) (by decide +kernel)
theorem zw412 : Cond.fieldLink RX4 33 "BookBarge$Meeting" "stone1" "I" ∈ zGT := zGT_mem 412 (by decide +kernel) (by decide +kernel)
theorem zw413 : Cond.fieldLink RX4 36 "BookBarge$Meeting" "lean1" "I" ∈ zGT := zGT_mem 413 (by decide +kernel) (by decide +kernel)
theorem zw414 : Cond.fieldLink RX4 39 "BookBarge$Meeting" "depth1" "I" ∈ zGT := zGT_mem 414 (by decide +kernel) (by decide +kernel)
theorem zw415 : Cond.fieldLink RX4 42 "BookBarge$Meeting" "bestSize" "I" ∈ zGT := zGT_mem 415 (by decide +kernel) (by decide +kernel)
theorem zw416 : Cond.fieldLink RX4 45 "BookBarge$Meeting" "bestSet" "I" ∈ zGT := zGT_mem 416 (by decide +kernel) (by decide +kernel)
theorem zw417 : Cond.fieldLink RX11 275 "BookBarge$Meeting" "bestSet" "I" ∈ zGT := zGT_mem 417 (by decide +kernel) (by decide +kernel)
theorem zw441 : Cond.classLink RX11 88 "BookBarge$Cargo" ∈ zGT := zGT_mem 441 (by decide +kernel) (by decide +kernel)
theorem zw442 : Cond.instantiable "BookBarge$Cargo" 11 ∈ zGT := zGT_mem 442 (by decide +kernel) (by decide +kernel)
theorem zw444 : Cond.instanceMethod ⟨"BookBarge$Cargo", "<init>", "()V"⟩ ∈ zGT := zGT_mem 444 (by decide +kernel) (by decide +kernel)
theorem zw445 : Cond.code ⟨"BookBarge$Cargo", "<init>", "()V"⟩ cX0_init 1 (none : Option FieldType) ∈ zGT := zGT_mem 445 (by decide +kernel) (by decide +kernel)
theorem zw446 : Cond.methodLink RX0 1 objectInit ∈ zGT := zGT_mem 446 (by decide +kernel) (by decide +kernel)
theorem zw447 : Cond.fieldLink RX0 9 "BookBarge$Cargo" "heavy" "[I" ∈ zGT := zGT_mem 447 (by decide +kernel) (by decide +kernel)
theorem zw448 : Cond.fieldLink RX0 15 "BookBarge$Cargo" "turn" "[I" ∈ zGT := zGT_mem 448 (by decide +kernel) (by decide +kernel)
theorem zw449 : Cond.fieldLink RX0 18 "BookBarge$Cargo" "stone" "I" ∈ zGT := zGT_mem 449 (by decide +kernel) (by decide +kernel)
theorem zw450 : Cond.fieldLink RX0 22 "BookBarge$Cargo" "lean" "I" ∈ zGT := zGT_mem 450 (by decide +kernel) (by decide +kernel)
theorem zw451 : Cond.fieldLink RX0 25 "BookBarge$Cargo" "draught" "I" ∈ zGT := zGT_mem 451 (by decide +kernel) (by decide +kernel)
theorem zw452 : Cond.fieldLink RX0 28 "BookBarge$Cargo" "tiltWanted" "I" ∈ zGT := zGT_mem 452 (by decide +kernel) (by decide +kernel)
theorem zw453 : Cond.fieldLink RX0 31 "BookBarge$Cargo" "isAnyTilt" "Z" ∈ zGT := zGT_mem 453 (by decide +kernel) (by decide +kernel)
theorem zw454 : Cond.fieldLink RX0 35 "BookBarge$Cargo" "some" "I" ∈ zGT := zGT_mem 454 (by decide +kernel) (by decide +kernel)
theorem zw455 : Cond.fieldLink RX0 38 "BookBarge$Cargo" "found" "I" ∈ zGT := zGT_mem 455 (by decide +kernel) (by decide +kernel)
theorem zw456 : Cond.fieldLink RX11 279 "BookBarge$Cargo" "found" "I" ∈ zGT := zGT_mem 456 (by decide +kernel) (by decide +kernel)
theorem zw457 : Cond.fieldLink RX0 41 "BookBarge$Cargo" "inAll" "I" ∈ zGT := zGT_mem 457 (by decide +kernel) (by decide +kernel)
theorem zw458 : Cond.fieldLink RX11 282 "BookBarge$Cargo" "inAll" "I" ∈ zGT := zGT_mem 458 (by decide +kernel) (by decide +kernel)
theorem zw459 : Cond.fieldLink RX0 44 "BookBarge$Cargo" "inNone" "I" ∈ zGT := zGT_mem 459 (by decide +kernel) (by decide +kernel)
theorem zw460 : Cond.fieldLink RX11 285 "BookBarge$Cargo" "inNone" "I" ∈ zGT := zGT_mem 460 (by decide +kernel) (by decide +kernel)
theorem zw484 : Cond.classLink RX11 95 "BookBarge$Plugging" ∈ zGT := zGT_mem 484 (by decide +kernel) (by decide +kernel)
theorem zw485 : Cond.instantiable "BookBarge$Plugging" 6 ∈ zGT := zGT_mem 485 (by decide +kernel) (by decide +kernel)
theorem zw487 : Cond.instanceMethod ⟨"BookBarge$Plugging", "<init>", "()V"⟩ ∈ zGT := zGT_mem 487 (by decide +kernel) (by decide +kernel)
theorem zw488 : Cond.code ⟨"BookBarge$Plugging", "<init>", "()V"⟩ cX5_init 1 (none : Option FieldType) ∈ zGT := zGT_mem 488 (by decide +kernel) (by decide +kernel)
theorem zw489 : Cond.methodLink RX5 3 objectInit ∈ zGT := zGT_mem 489 (by decide +kernel) (by decide +kernel)
theorem zw490 : Cond.fieldLink RX5 11 "BookBarge$Plugging" "isNeeded" "[Z" ∈ zGT := zGT_mem 490 (by decide +kernel) (by decide +kernel)
theorem zw491 : Cond.fieldLink RX5 17 "BookBarge$Plugging" "fitting" "[I" ∈ zGT := zGT_mem 491 (by decide +kernel) (by decide +kernel)
theorem zw492 : Cond.fieldLink RX5 21 "BookBarge$Plugging" "worthOf" "[I" ∈ zGT := zGT_mem 492 (by decide +kernel) (by decide +kernel)
theorem zw493 : Cond.fieldLink RX5 24 "BookBarge$Plugging" "row" "[I" ∈ zGT := zGT_mem 493 (by decide +kernel) (by decide +kernel)
theorem zw494 : Cond.fieldLink RX5 27 "BookBarge$Plugging" "best" "[I" ∈ zGT := zGT_mem 494 (by decide +kernel) (by decide +kernel)
theorem zw495 : Cond.fieldLink RX11 292 "BookBarge$Plugging" "best" "[I" ∈ zGT := zGT_mem 495 (by decide +kernel) (by decide +kernel)
theorem zw496 : Cond.fieldLink RX5 30 "BookBarge$Plugging" "bestWorth" "I" ∈ zGT := zGT_mem 496 (by decide +kernel) (by decide +kernel)
theorem zw497 : Cond.fieldLink RX11 291 "BookBarge$Plugging" "bestWorth" "I" ∈ zGT := zGT_mem 497 (by decide +kernel) (by decide +kernel)
theorem zw511 : Cond.arrayClass .boolean ∈ zGT := zGT_mem 511 (by decide +kernel) (by decide +kernel)
theorem zw512 : Cond.fieldLink RX11 9 "BookBarge" "tape" "[I" ∈ zGT := zGT_mem 512 (by decide +kernel) (by decide +kernel)
theorem zw513 : Cond.fieldLink RX11 13 "BookBarge" "tapeLength" "I" ∈ zGT := zGT_mem 513 (by decide +kernel) (by decide +kernel)
theorem zw514 : Cond.fieldLink RX11 20 "BookBarge" "world" "LBookBarge$World;" ∈ zGT := zGT_mem 514 (by decide +kernel) (by decide +kernel)
theorem zw515 : Cond.fieldLink RX11 24 "BookBarge" "images" "[LBookBarge$World;" ∈ zGT := zGT_mem 515 (by decide +kernel) (by decide +kernel)
theorem zw516 : Cond.fieldLink RX11 30 "BookBarge" "rules" "[LBookBarge$Rule;" ∈ zGT := zGT_mem 516 (by decide +kernel) (by decide +kernel)
theorem zw517 : Cond.fieldLink RX11 34 "BookBarge" "ruleCount" "I" ∈ zGT := zGT_mem 517 (by decide +kernel) (by decide +kernel)
theorem zw518 : Cond.fieldLink RX11 37 "BookBarge" "past" "[I" ∈ zGT := zGT_mem 518 (by decide +kernel) (by decide +kernel)
theorem zw519 : Cond.fieldLink RX11 40 "BookBarge" "pastNext" "I" ∈ zGT := zGT_mem 519 (by decide +kernel) (by decide +kernel)
theorem zw520 : Cond.fieldLink RX11 43 "BookBarge" "pastCount" "I" ∈ zGT := zGT_mem 520 (by decide +kernel) (by decide +kernel)
theorem zw521 : Cond.fieldLink RX11 49 "BookBarge" "riverParser" "LBookBarge$RiverParser;" ∈ zGT := zGT_mem 521 (by decide +kernel) (by decide +kernel)
theorem zw522 : Cond.fieldLink RX11 56 "BookBarge" "ruleParser" "LBookBarge$RuleParser;" ∈ zGT := zGT_mem 522 (by decide +kernel) (by decide +kernel)
theorem zw523 : Cond.fieldLink RX11 63 "BookBarge" "journey" "LBookBarge$Journey;" ∈ zGT := zGT_mem 523 (by decide +kernel) (by decide +kernel)
theorem zw524 : Cond.fieldLink RX11 70 "BookBarge" "leaving" "LBookBarge$Leaving;" ∈ zGT := zGT_mem 524 (by decide +kernel) (by decide +kernel)
theorem zw525 : Cond.fieldLink RX11 77 "BookBarge" "lender" "LBookBarge$Lending;" ∈ zGT := zGT_mem 525 (by decide +kernel) (by decide +kernel)
theorem zw526 : Cond.fieldLink RX11 84 "BookBarge" "meeter" "LBookBarge$Meeting;" ∈ zGT := zGT_mem 526 (by decide +kernel) (by decide +kernel)
theorem zw527 : Cond.fieldLink RX11 91 "BookBarge" "cargo" "LBookBarge$Cargo;" ∈ zGT := zGT_mem 527 (by decide +kernel) (by decide +kernel)
theorem zw528 : Cond.fieldLink RX11 98 "BookBarge" "plugging" "LBookBarge$Plugging;" ∈ zGT := zGT_mem 528 (by decide +kernel) (by decide +kernel)
theorem zw568 : Cond.methodLink RX11 102 ⟨"BookBarge", "appendFour", "(I)V"⟩ ∈ zGT := zGT_mem 568 (by decide +kernel) (by decide +kernel)
theorem zw570 : Cond.instanceMethod ⟨"BookBarge", "appendFour", "(I)V"⟩ ∈ zGT := zGT_mem 570 (by decide +kernel) (by decide +kernel)
theorem zw571 : Cond.code ⟨"BookBarge", "appendFour", "(I)V"⟩ cX11_appendFour 3 (none : Option FieldType) ∈ zGT := zGT_mem 571 (by decide +kernel) (by decide +kernel)
theorem zw580 : Cond.methodLink RX11 106 ⟨"BookBarge$RiverParser", "parse", "([II)I"⟩ ∈ zGT := zGT_mem 580 (by decide +kernel) (by decide +kernel)
theorem zw581 : Cond.instanceMethod ⟨"BookBarge$RiverParser", "parse", "([II)I"⟩ ∈ zGT := zGT_mem 581 (by decide +kernel) (by decide +kernel)
theorem zw582 : Cond.selects "BookBarge$RiverParser" ⟨"BookBarge$RiverParser", "parse", "([II)I"⟩ ⟨"BookBarge$RiverParser", "parse", "([II)I"⟩ ∈ zGT := zGT_mem 582 (by decide +kernel) (by decide +kernel)
theorem zw583 : Cond.code ⟨"BookBarge$RiverParser", "parse", "([II)I"⟩ cX6_parse 5 (some FieldType.int) ∈ zGT := zGT_mem 583 (by decide +kernel) (by decide +kernel)
theorem zw584 : Cond.methodLink RX6 23 ⟨"BookBarge$RiverParser", "open", "([II)V"⟩ ∈ zGT := zGT_mem 584 (by decide +kernel) (by decide +kernel)
theorem zw585 : Cond.sameMethod "BookBarge$RiverParser" "BookBarge$Scanner" "open" "([II)V" ∈ zGT := zGT_mem 585 (by decide +kernel) (by decide +kernel)
theorem zw587 : Cond.selects "BookBarge$RiverParser" ⟨"BookBarge$RiverParser", "open", "([II)V"⟩ ⟨"BookBarge$Scanner", "open", "([II)V"⟩ ∈ zGT := zGT_mem 587 (by decide +kernel) (by decide +kernel)
theorem zw588 : Cond.instanceMethod ⟨"BookBarge$Scanner", "open", "([II)V"⟩ ∈ zGT := zGT_mem 588 (by decide +kernel) (by decide +kernel)
theorem zw589 : Cond.code ⟨"BookBarge$Scanner", "open", "([II)V"⟩ cX9_open 3 (none : Option FieldType) ∈ zGT := zGT_mem 589 (by decide +kernel) (by decide +kernel)
theorem zw590 : Cond.methodLink RX9 28 Lib.Math.min.name ∈ zGT := zGT_mem 590 (by decide +kernel) (by decide +kernel)
theorem zw591 : Cond.static Lib.Math.min.name ∈ zGT := zGT_mem 591 (by decide +kernel) (by decide +kernel)
theorem zw592 : Cond.code Lib.Math.min.name Lib.Math.min.code 2 (some .int) ∈ zGT := zGT_mem 592 (by decide +kernel) (by decide +kernel)
theorem zw593 : Cond.methodLink RX9 34 Lib.Math.max.name ∈ zGT := zGT_mem 593 (by decide +kernel) (by decide +kernel)
theorem zw594 : Cond.static Lib.Math.max.name ∈ zGT := zGT_mem 594 (by decide +kernel) (by decide +kernel)
theorem zw595 : Cond.code Lib.Math.max.name Lib.Math.max.code 2 (some .int) ∈ zGT := zGT_mem 595 (by decide +kernel) (by decide +kernel)
theorem zw596 : Cond.methodLink RX9 37 arraycopyName ∈ zGT := zGT_mem 596 (by decide +kernel) (by decide +kernel)
theorem zw597 : Cond.static arraycopyName ∈ zGT := zGT_mem 597 (by decide +kernel) (by decide +kernel)
theorem zw598 : Cond.native arraycopyName ∈ zGT := zGT_mem 598 (by decide +kernel) (by decide +kernel)
theorem zw599 : Cond.methodLink RX9 43 ⟨"BookBarge$Scanner", "skipBlanks", "()V"⟩ ∈ zGT := zGT_mem 599 (by decide +kernel) (by decide +kernel)
theorem zw600 : Cond.instanceMethod ⟨"BookBarge$Scanner", "skipBlanks", "()V"⟩ ∈ zGT := zGT_mem 600 (by decide +kernel) (by decide +kernel)
theorem zw601 : Cond.sameMethod "BookBarge$Scanner" "BookBarge$Scanner" "skipBlanks" "()V" ∈ zGT := zGT_mem 601 (by decide +kernel) (by decide +kernel)
theorem zw602 : Cond.selects "BookBarge$RiverParser" ⟨"BookBarge$Scanner", "skipBlanks", "()V"⟩ ⟨"BookBarge$Scanner", "skipBlanks", "()V"⟩ ∈ zGT := zGT_mem 602 (by decide +kernel) (by decide +kernel)
theorem zw603 : Cond.selects "BookBarge$RuleParser" ⟨"BookBarge$Scanner", "skipBlanks", "()V"⟩ ⟨"BookBarge$Scanner", "skipBlanks", "()V"⟩ ∈ zGT := zGT_mem 603 (by decide +kernel) (by decide +kernel)
theorem zw604 : Cond.code ⟨"BookBarge$Scanner", "skipBlanks", "()V"⟩ cX9_skipBlanks 1 (none : Option FieldType) ∈ zGT := zGT_mem 604 (by decide +kernel) (by decide +kernel)
theorem zw605 : Cond.methodLink RX6 27 ⟨"java/util/Arrays", "fill", "([II)V"⟩ ∈ zGT := zGT_mem 605 (by decide +kernel) (by decide +kernel)
theorem zw606 : Cond.static ⟨"java/util/Arrays", "fill", "([II)V"⟩ ∈ zGT := zGT_mem 606 (by decide +kernel) (by decide +kernel)
theorem zw607 : Cond.code ⟨"java/util/Arrays", "fill", "([II)V"⟩ cJ7_fill_53178 4 (none : Option FieldType) ∈ zGT := zGT_mem 607 (by decide +kernel) (by decide +kernel)
theorem zw608 : Cond.methodLink RX6 32 ⟨"BookBarge$RiverParser", "readClause", "(I)Z"⟩ ∈ zGT := zGT_mem 608 (by decide +kernel) (by decide +kernel)
theorem zw610 : Cond.instanceMethod ⟨"BookBarge$RiverParser", "readClause", "(I)Z"⟩ ∈ zGT := zGT_mem 610 (by decide +kernel) (by decide +kernel)
theorem zw611 : Cond.code ⟨"BookBarge$RiverParser", "readClause", "(I)Z"⟩ cX6_readClause 4 (some FieldType.boolean) ∈ zGT := zGT_mem 611 (by decide +kernel) (by decide +kernel)
theorem zw613 : Cond.methodLink RX6 63 ⟨"BookBarge$RiverParser", "wordAmong", "(Ljava/lang/String;)I"⟩ ∈ zGT := zGT_mem 613 (by decide +kernel) (by decide +kernel)
theorem zw614 : Cond.sameMethod "BookBarge$RiverParser" "BookBarge$Scanner" "wordAmong" "(Ljava/lang/String;)I" ∈ zGT := zGT_mem 614 (by decide +kernel) (by decide +kernel)
theorem zw616 : Cond.selects "BookBarge$RiverParser" ⟨"BookBarge$RiverParser", "wordAmong", "(Ljava/lang/String;)I"⟩ ⟨"BookBarge$Scanner", "wordAmong", "(Ljava/lang/String;)I"⟩ ∈ zGT := zGT_mem 616 (by decide +kernel) (by decide +kernel)
theorem zw617 : Cond.instanceMethod ⟨"BookBarge$Scanner", "wordAmong", "(Ljava/lang/String;)I"⟩ ∈ zGT := zGT_mem 617 (by decide +kernel) (by decide +kernel)
theorem zw618 : Cond.code ⟨"BookBarge$Scanner", "wordAmong", "(Ljava/lang/String;)I"⟩ cX9_wordAmong 7 (some FieldType.int) ∈ zGT := zGT_mem 618 (by decide +kernel) (by decide +kernel)
theorem zw619 : Cond.methodLink RX9 64 ⟨"BookBarge$Scanner", "wordEnd", "()I"⟩ ∈ zGT := zGT_mem 619 (by decide +kernel) (by decide +kernel)
theorem zw621 : Cond.instanceMethod ⟨"BookBarge$Scanner", "wordEnd", "()I"⟩ ∈ zGT := zGT_mem 621 (by decide +kernel) (by decide +kernel)
theorem zw622 : Cond.code ⟨"BookBarge$Scanner", "wordEnd", "()I"⟩ cX9_wordEnd 2 (some FieldType.int) ∈ zGT := zGT_mem 622 (by decide +kernel) (by decide +kernel)
theorem zw623 : Cond.methodLink RX9 67 yJ0_length_8abf5 ∈ zGT := zGT_mem 623 (by decide +kernel) (by decide +kernel)
theorem zw633 : Cond.methodLink RX9 71 yJ0_charAt_5068e ∈ zGT := zGT_mem 633 (by decide +kernel) (by decide +kernel)
theorem zw671 : Cond.methodLink RX6 51 ⟨"BookBarge$RiverParser", "wrong", "(II)Z"⟩ ∈ zGT := zGT_mem 671 (by decide +kernel) (by decide +kernel)
theorem zw672 : Cond.sameMethod "BookBarge$RiverParser" "BookBarge$Scanner" "wrong" "(II)Z" ∈ zGT := zGT_mem 672 (by decide +kernel) (by decide +kernel)
theorem zw674 : Cond.selects "BookBarge$RiverParser" ⟨"BookBarge$RiverParser", "wrong", "(II)Z"⟩ ⟨"BookBarge$Scanner", "wrong", "(II)Z"⟩ ∈ zGT := zGT_mem 674 (by decide +kernel) (by decide +kernel)
theorem zw675 : Cond.instanceMethod ⟨"BookBarge$Scanner", "wrong", "(II)Z"⟩ ∈ zGT := zGT_mem 675 (by decide +kernel) (by decide +kernel)
theorem zw676 : Cond.code ⟨"BookBarge$Scanner", "wrong", "(II)Z"⟩ cX9_wrong 3 (some FieldType.boolean) ∈ zGT := zGT_mem 676 (by decide +kernel) (by decide +kernel)
theorem zw677 : Cond.methodLink RX6 67 ⟨"BookBarge$RiverParser", "hasPlaceFor", "(II)Z"⟩ ∈ zGT := zGT_mem 677 (by decide +kernel) (by decide +kernel)
theorem zw679 : Cond.instanceMethod ⟨"BookBarge$RiverParser", "hasPlaceFor", "(II)Z"⟩ ∈ zGT := zGT_mem 679 (by decide +kernel) (by decide +kernel)
theorem zw680 : Cond.code ⟨"BookBarge$RiverParser", "hasPlaceFor", "(II)Z"⟩ cX6_hasPlaceFor 3 (some FieldType.boolean) ∈ zGT := zGT_mem 680 (by decide +kernel) (by decide +kernel)
theorem zw681 : Cond.methodLink RX6 70 ⟨"BookBarge$RiverParser", "takeWord", "()V"⟩ ∈ zGT := zGT_mem 681 (by decide +kernel) (by decide +kernel)
theorem zw682 : Cond.sameMethod "BookBarge$RiverParser" "BookBarge$Scanner" "takeWord" "()V" ∈ zGT := zGT_mem 682 (by decide +kernel) (by decide +kernel)
theorem zw684 : Cond.selects "BookBarge$RiverParser" ⟨"BookBarge$RiverParser", "takeWord", "()V"⟩ ⟨"BookBarge$Scanner", "takeWord", "()V"⟩ ∈ zGT := zGT_mem 684 (by decide +kernel) (by decide +kernel)
theorem zw685 : Cond.instanceMethod ⟨"BookBarge$Scanner", "takeWord", "()V"⟩ ∈ zGT := zGT_mem 685 (by decide +kernel) (by decide +kernel)
theorem zw686 : Cond.code ⟨"BookBarge$Scanner", "takeWord", "()V"⟩ cX9_takeWord 1 (none : Option FieldType) ∈ zGT := zGT_mem 686 (by decide +kernel) (by decide +kernel)
theorem zw687 : Cond.methodLink RX6 73 ⟨"BookBarge$RiverParser", "readBarge", "()Z"⟩ ∈ zGT := zGT_mem 687 (by decide +kernel) (by decide +kernel)
theorem zw689 : Cond.instanceMethod ⟨"BookBarge$RiverParser", "readBarge", "()Z"⟩ ∈ zGT := zGT_mem 689 (by decide +kernel) (by decide +kernel)
theorem zw690 : Cond.code ⟨"BookBarge$RiverParser", "readBarge", "()Z"⟩ cX6_readBarge 2 (some FieldType.boolean) ∈ zGT := zGT_mem 690 (by decide +kernel) (by decide +kernel)
theorem zw691 : Cond.methodLink RX6 97 ⟨"BookBarge$RiverParser", "readInto", "(III)Z"⟩ ∈ zGT := zGT_mem 691 (by decide +kernel) (by decide +kernel)
theorem zw693 : Cond.instanceMethod ⟨"BookBarge$RiverParser", "readInto", "(III)Z"⟩ ∈ zGT := zGT_mem 693 (by decide +kernel) (by decide +kernel)
theorem zw694 : Cond.code ⟨"BookBarge$RiverParser", "readInto", "(III)Z"⟩ cX6_readInto 4 (some FieldType.boolean) ∈ zGT := zGT_mem 694 (by decide +kernel) (by decide +kernel)
theorem zw695 : Cond.methodLink RX6 91 ⟨"BookBarge$RiverParser", "readNumber", "(II)Z"⟩ ∈ zGT := zGT_mem 695 (by decide +kernel) (by decide +kernel)
theorem zw696 : Cond.sameMethod "BookBarge$RiverParser" "BookBarge$Scanner" "readNumber" "(II)Z" ∈ zGT := zGT_mem 696 (by decide +kernel) (by decide +kernel)
theorem zw698 : Cond.selects "BookBarge$RiverParser" ⟨"BookBarge$RiverParser", "readNumber", "(II)Z"⟩ ⟨"BookBarge$Scanner", "readNumber", "(II)Z"⟩ ∈ zGT := zGT_mem 698 (by decide +kernel) (by decide +kernel)
theorem zw699 : Cond.instanceMethod ⟨"BookBarge$Scanner", "readNumber", "(II)Z"⟩ ∈ zGT := zGT_mem 699 (by decide +kernel) (by decide +kernel)
theorem zw700 : Cond.code ⟨"BookBarge$Scanner", "readNumber", "(II)Z"⟩ cX9_readNumber 5 (some FieldType.boolean) ∈ zGT := zGT_mem 700 (by decide +kernel) (by decide +kernel)
theorem zw701 : Cond.methodLink RX9 56 ⟨"BookBarge$Scanner", "isAtDigit", "()Z"⟩ ∈ zGT := zGT_mem 701 (by decide +kernel) (by decide +kernel)
theorem zw702 : Cond.instanceMethod ⟨"BookBarge$Scanner", "isAtDigit", "()Z"⟩ ∈ zGT := zGT_mem 702 (by decide +kernel) (by decide +kernel)
theorem zw703 : Cond.sameMethod "BookBarge$Scanner" "BookBarge$Scanner" "isAtDigit" "()Z" ∈ zGT := zGT_mem 703 (by decide +kernel) (by decide +kernel)
theorem zw704 : Cond.selects "BookBarge$RiverParser" ⟨"BookBarge$Scanner", "isAtDigit", "()Z"⟩ ⟨"BookBarge$Scanner", "isAtDigit", "()Z"⟩ ∈ zGT := zGT_mem 704 (by decide +kernel) (by decide +kernel)
theorem zw705 : Cond.selects "BookBarge$RuleParser" ⟨"BookBarge$Scanner", "isAtDigit", "()Z"⟩ ⟨"BookBarge$Scanner", "isAtDigit", "()Z"⟩ ∈ zGT := zGT_mem 705 (by decide +kernel) (by decide +kernel)
theorem zw706 : Cond.code ⟨"BookBarge$Scanner", "isAtDigit", "()Z"⟩ cX9_isAtDigit 1 (some FieldType.boolean) ∈ zGT := zGT_mem 706 (by decide +kernel) (by decide +kernel)
theorem zw707 : Cond.methodLink RX9 60 ⟨"BookBarge$Scanner", "wrong", "(II)Z"⟩ ∈ zGT := zGT_mem 707 (by decide +kernel) (by decide +kernel)
theorem zw708 : Cond.methodLink RX6 76 ⟨"BookBarge$RiverParser", "readBook", "()Z"⟩ ∈ zGT := zGT_mem 708 (by decide +kernel) (by decide +kernel)
theorem zw710 : Cond.instanceMethod ⟨"BookBarge$RiverParser", "readBook", "()Z"⟩ ∈ zGT := zGT_mem 710 (by decide +kernel) (by decide +kernel)
theorem zw711 : Cond.code ⟨"BookBarge$RiverParser", "readBook", "()Z"⟩ cX6_readBook 3 (some FieldType.boolean) ∈ zGT := zGT_mem 711 (by decide +kernel) (by decide +kernel)
theorem zw712 : Cond.methodLink RX6 101 ⟨"BookBarge$World", "cell", "(II)I"⟩ ∈ zGT := zGT_mem 712 (by decide +kernel) (by decide +kernel)
theorem zw713 : Cond.instanceMethod ⟨"BookBarge$World", "cell", "(II)I"⟩ ∈ zGT := zGT_mem 713 (by decide +kernel) (by decide +kernel)
theorem zw714 : Cond.selects "BookBarge$World" ⟨"BookBarge$World", "cell", "(II)I"⟩ ⟨"BookBarge$World", "cell", "(II)I"⟩ ∈ zGT := zGT_mem 714 (by decide +kernel) (by decide +kernel)
theorem zw715 : Cond.code ⟨"BookBarge$World", "cell", "(II)I"⟩ cX10_cell 4 (some FieldType.int) ∈ zGT := zGT_mem 715 (by decide +kernel) (by decide +kernel)
theorem zw716 : Cond.methodLink RX6 79 ⟨"BookBarge$RiverParser", "readStop", "()Z"⟩ ∈ zGT := zGT_mem 716 (by decide +kernel) (by decide +kernel)
theorem zw718 : Cond.instanceMethod ⟨"BookBarge$RiverParser", "readStop", "()Z"⟩ ∈ zGT := zGT_mem 718 (by decide +kernel) (by decide +kernel)
theorem zw719 : Cond.code ⟨"BookBarge$RiverParser", "readStop", "()Z"⟩ cX6_readStop 3 (some FieldType.boolean) ∈ zGT := zGT_mem 719 (by decide +kernel) (by decide +kernel)
theorem zw720 : Cond.methodLink RX6 58 ⟨"java/util/Arrays", "fill", "([IIII)V"⟩ ∈ zGT := zGT_mem 720 (by decide +kernel) (by decide +kernel)
theorem zw721 : Cond.static ⟨"java/util/Arrays", "fill", "([IIII)V"⟩ ∈ zGT := zGT_mem 721 (by decide +kernel) (by decide +kernel)
theorem zw722 : Cond.code ⟨"java/util/Arrays", "fill", "([IIII)V"⟩ cJ7_fill_fda19 5 (none : Option FieldType) ∈ zGT := zGT_mem 722 (by decide +kernel) (by decide +kernel)
theorem zw723 : Cond.methodLink "java/util/Arrays" 13 ⟨"java/util/Arrays", "rangeCheck", "(III)V"⟩ ∈ zGT := zGT_mem 723 (by decide +kernel) (by decide +kernel)
theorem zw724 : Cond.static ⟨"java/util/Arrays", "rangeCheck", "(III)V"⟩ ∈ zGT := zGT_mem 724 (by decide +kernel) (by decide +kernel)
theorem zw725 : Cond.code ⟨"java/util/Arrays", "rangeCheck", "(III)V"⟩ cJ7_rangeCheck_23922 3 (none : Option FieldType) ∈ zGT := zGT_mem 725 (by decide +kernel) (by decide +kernel)
theorem zw726 : Cond.methodLink RX6 105 ⟨"BookBarge$RiverParser", "isAtDigit", "()Z"⟩ ∈ zGT := zGT_mem 726 (by decide +kernel) (by decide +kernel)
theorem zw727 : Cond.sameMethod "BookBarge$RiverParser" "BookBarge$Scanner" "isAtDigit" "()Z" ∈ zGT := zGT_mem 727 (by decide +kernel) (by decide +kernel)
theorem zw729 : Cond.selects "BookBarge$RiverParser" ⟨"BookBarge$RiverParser", "isAtDigit", "()Z"⟩ ⟨"BookBarge$Scanner", "isAtDigit", "()Z"⟩ ∈ zGT := zGT_mem 729 (by decide +kernel) (by decide +kernel)
theorem zw730 : Cond.methodLink RX6 82 ⟨"BookBarge$RiverParser", "readReader", "()Z"⟩ ∈ zGT := zGT_mem 730 (by decide +kernel) (by decide +kernel)
theorem zw732 : Cond.instanceMethod ⟨"BookBarge$RiverParser", "readReader", "()Z"⟩ ∈ zGT := zGT_mem 732 (by decide +kernel) (by decide +kernel)
theorem zw733 : Cond.code ⟨"BookBarge$RiverParser", "readReader", "()Z"⟩ cX6_readReader 2 (some FieldType.boolean) ∈ zGT := zGT_mem 733 (by decide +kernel) (by decide +kernel)
theorem zw734 : Cond.methodLink RX6 85 ⟨"BookBarge$RiverParser", "readWish", "()Z"⟩ ∈ zGT := zGT_mem 734 (by decide +kernel) (by decide +kernel)
theorem zw736 : Cond.instanceMethod ⟨"BookBarge$RiverParser", "readWish", "()Z"⟩ ∈ zGT := zGT_mem 736 (by decide +kernel) (by decide +kernel)
theorem zw737 : Cond.code ⟨"BookBarge$RiverParser", "readWish", "()Z"⟩ cX6_readWish 2 (some FieldType.boolean) ∈ zGT := zGT_mem 737 (by decide +kernel) (by decide +kernel)
theorem zw738 : Cond.methodLink RX6 88 ⟨"BookBarge$RiverParser", "readHole", "()Z"⟩ ∈ zGT := zGT_mem 738 (by decide +kernel) (by decide +kernel)
theorem zw740 : Cond.instanceMethod ⟨"BookBarge$RiverParser", "readHole", "()Z"⟩ ∈ zGT := zGT_mem 740 (by decide +kernel) (by decide +kernel)
theorem zw741 : Cond.code ⟨"BookBarge$RiverParser", "readHole", "()Z"⟩ cX6_readHole 2 (some FieldType.boolean) ∈ zGT := zGT_mem 741 (by decide +kernel) (by decide +kernel)
theorem zw742 : Cond.methodLink RX6 40 ⟨"BookBarge$RiverParser", "tookSign", "(C)Z"⟩ ∈ zGT := zGT_mem 742 (by decide +kernel) (by decide +kernel)
theorem zw743 : Cond.sameMethod "BookBarge$RiverParser" "BookBarge$Scanner" "tookSign" "(C)Z" ∈ zGT := zGT_mem 743 (by decide +kernel) (by decide +kernel)
theorem zw745 : Cond.selects "BookBarge$RiverParser" ⟨"BookBarge$RiverParser", "tookSign", "(C)Z"⟩ ⟨"BookBarge$Scanner", "tookSign", "(C)Z"⟩ ∈ zGT := zGT_mem 745 (by decide +kernel) (by decide +kernel)
theorem zw746 : Cond.instanceMethod ⟨"BookBarge$Scanner", "tookSign", "(C)Z"⟩ ∈ zGT := zGT_mem 746 (by decide +kernel) (by decide +kernel)
theorem zw747 : Cond.code ⟨"BookBarge$Scanner", "tookSign", "(C)Z"⟩ cX9_tookSign 2 (some FieldType.boolean) ∈ zGT := zGT_mem 747 (by decide +kernel) (by decide +kernel)
theorem zw748 : Cond.methodLink RX9 49 ⟨"BookBarge$Scanner", "sign", "()I"⟩ ∈ zGT := zGT_mem 748 (by decide +kernel) (by decide +kernel)
theorem zw749 : Cond.instanceMethod ⟨"BookBarge$Scanner", "sign", "()I"⟩ ∈ zGT := zGT_mem 749 (by decide +kernel) (by decide +kernel)
theorem zw750 : Cond.sameMethod "BookBarge$Scanner" "BookBarge$Scanner" "sign" "()I" ∈ zGT := zGT_mem 750 (by decide +kernel) (by decide +kernel)
theorem zw751 : Cond.selects "BookBarge$RiverParser" ⟨"BookBarge$Scanner", "sign", "()I"⟩ ⟨"BookBarge$Scanner", "sign", "()I"⟩ ∈ zGT := zGT_mem 751 (by decide +kernel) (by decide +kernel)
theorem zw752 : Cond.selects "BookBarge$RuleParser" ⟨"BookBarge$Scanner", "sign", "()I"⟩ ⟨"BookBarge$Scanner", "sign", "()I"⟩ ∈ zGT := zGT_mem 752 (by decide +kernel) (by decide +kernel)
theorem zw753 : Cond.code ⟨"BookBarge$Scanner", "sign", "()I"⟩ cX9_sign 1 (some FieldType.int) ∈ zGT := zGT_mem 753 (by decide +kernel) (by decide +kernel)
theorem zw754 : Cond.methodLink RX9 53 ⟨"BookBarge$Scanner", "takeSign", "()V"⟩ ∈ zGT := zGT_mem 754 (by decide +kernel) (by decide +kernel)
theorem zw755 : Cond.instanceMethod ⟨"BookBarge$Scanner", "takeSign", "()V"⟩ ∈ zGT := zGT_mem 755 (by decide +kernel) (by decide +kernel)
theorem zw756 : Cond.sameMethod "BookBarge$Scanner" "BookBarge$Scanner" "takeSign" "()V" ∈ zGT := zGT_mem 756 (by decide +kernel) (by decide +kernel)
theorem zw757 : Cond.selects "BookBarge$RiverParser" ⟨"BookBarge$Scanner", "takeSign", "()V"⟩ ⟨"BookBarge$Scanner", "takeSign", "()V"⟩ ∈ zGT := zGT_mem 757 (by decide +kernel) (by decide +kernel)
theorem zw758 : Cond.selects "BookBarge$RuleParser" ⟨"BookBarge$Scanner", "takeSign", "()V"⟩ ⟨"BookBarge$Scanner", "takeSign", "()V"⟩ ∈ zGT := zGT_mem 758 (by decide +kernel) (by decide +kernel)
theorem zw759 : Cond.code ⟨"BookBarge$Scanner", "takeSign", "()V"⟩ cX9_takeSign 1 (none : Option FieldType) ∈ zGT := zGT_mem 759 (by decide +kernel) (by decide +kernel)
theorem zw760 : Cond.methodLink RX9 46 ⟨"BookBarge$Scanner", "takeByte", "()V"⟩ ∈ zGT := zGT_mem 760 (by decide +kernel) (by decide +kernel)
theorem zw761 : Cond.instanceMethod ⟨"BookBarge$Scanner", "takeByte", "()V"⟩ ∈ zGT := zGT_mem 761 (by decide +kernel) (by decide +kernel)
theorem zw762 : Cond.sameMethod "BookBarge$Scanner" "BookBarge$Scanner" "takeByte" "()V" ∈ zGT := zGT_mem 762 (by decide +kernel) (by decide +kernel)
theorem zw763 : Cond.selects "BookBarge$RiverParser" ⟨"BookBarge$Scanner", "takeByte", "()V"⟩ ⟨"BookBarge$Scanner", "takeByte", "()V"⟩ ∈ zGT := zGT_mem 763 (by decide +kernel) (by decide +kernel)
theorem zw764 : Cond.selects "BookBarge$RuleParser" ⟨"BookBarge$Scanner", "takeByte", "()V"⟩ ⟨"BookBarge$Scanner", "takeByte", "()V"⟩ ∈ zGT := zGT_mem 764 (by decide +kernel) (by decide +kernel)
theorem zw765 : Cond.code ⟨"BookBarge$Scanner", "takeByte", "()V"⟩ cX9_takeByte 1 (none : Option FieldType) ∈ zGT := zGT_mem 765 (by decide +kernel) (by decide +kernel)
theorem zw766 : Cond.methodLink RX6 44 ⟨"BookBarge$RiverParser", "isAtEnd", "()Z"⟩ ∈ zGT := zGT_mem 766 (by decide +kernel) (by decide +kernel)
theorem zw767 : Cond.sameMethod "BookBarge$RiverParser" "BookBarge$Scanner" "isAtEnd" "()Z" ∈ zGT := zGT_mem 767 (by decide +kernel) (by decide +kernel)
theorem zw769 : Cond.selects "BookBarge$RiverParser" ⟨"BookBarge$RiverParser", "isAtEnd", "()Z"⟩ ⟨"BookBarge$Scanner", "isAtEnd", "()Z"⟩ ∈ zGT := zGT_mem 769 (by decide +kernel) (by decide +kernel)
theorem zw770 : Cond.instanceMethod ⟨"BookBarge$Scanner", "isAtEnd", "()Z"⟩ ∈ zGT := zGT_mem 770 (by decide +kernel) (by decide +kernel)
theorem zw771 : Cond.code ⟨"BookBarge$Scanner", "isAtEnd", "()Z"⟩ cX9_isAtEnd 1 (some FieldType.boolean) ∈ zGT := zGT_mem 771 (by decide +kernel) (by decide +kernel)
theorem zw772 : Cond.methodLink RX6 55 ⟨"BookBarge$RiverParser", "settle", "()V"⟩ ∈ zGT := zGT_mem 772 (by decide +kernel) (by decide +kernel)
theorem zw774 : Cond.instanceMethod ⟨"BookBarge$RiverParser", "settle", "()V"⟩ ∈ zGT := zGT_mem 774 (by decide +kernel) (by decide +kernel)
theorem zw775 : Cond.code ⟨"BookBarge$RiverParser", "settle", "()V"⟩ cX6_settle 1 (none : Option FieldType) ∈ zGT := zGT_mem 775 (by decide +kernel) (by decide +kernel)
theorem zw776 : Cond.methodLink RX11 110 ⟨"BookBarge$World", "cell", "(II)I"⟩ ∈ zGT := zGT_mem 776 (by decide +kernel) (by decide +kernel)
theorem zw777 : Cond.methodLink RX11 117 ⟨"BookBarge$World", "copy", "(LBookBarge$World;)V"⟩ ∈ zGT := zGT_mem 777 (by decide +kernel) (by decide +kernel)
theorem zw778 : Cond.instanceMethod ⟨"BookBarge$World", "copy", "(LBookBarge$World;)V"⟩ ∈ zGT := zGT_mem 778 (by decide +kernel) (by decide +kernel)
theorem zw779 : Cond.selects "BookBarge$World" ⟨"BookBarge$World", "copy", "(LBookBarge$World;)V"⟩ ⟨"BookBarge$World", "copy", "(LBookBarge$World;)V"⟩ ∈ zGT := zGT_mem 779 (by decide +kernel) (by decide +kernel)
theorem zw780 : Cond.code ⟨"BookBarge$World", "copy", "(LBookBarge$World;)V"⟩ cX10_copy 2 (none : Option FieldType) ∈ zGT := zGT_mem 780 (by decide +kernel) (by decide +kernel)
theorem zw781 : Cond.methodLink RX10 15 arraycopyName ∈ zGT := zGT_mem 781 (by decide +kernel) (by decide +kernel)
theorem zw782 : Cond.methodLink RX11 124 ⟨"BookBarge", "forgetActs", "()V"⟩ ∈ zGT := zGT_mem 782 (by decide +kernel) (by decide +kernel)
theorem zw784 : Cond.instanceMethod ⟨"BookBarge", "forgetActs", "()V"⟩ ∈ zGT := zGT_mem 784 (by decide +kernel) (by decide +kernel)
theorem zw785 : Cond.code ⟨"BookBarge", "forgetActs", "()V"⟩ cX11_forgetActs 1 (none : Option FieldType) ∈ zGT := zGT_mem 785 (by decide +kernel) (by decide +kernel)
theorem zw786 : Cond.arrayClass .byte ∈ zGT := zGT_mem 786 (by decide +kernel) (by decide +kernel)
theorem zw791 : Cond.methodLink RX11 127 ⟨"BookBarge$RuleParser", "parse", "([II)I"⟩ ∈ zGT := zGT_mem 791 (by decide +kernel) (by decide +kernel)
theorem zw792 : Cond.instanceMethod ⟨"BookBarge$RuleParser", "parse", "([II)I"⟩ ∈ zGT := zGT_mem 792 (by decide +kernel) (by decide +kernel)
theorem zw793 : Cond.selects "BookBarge$RuleParser" ⟨"BookBarge$RuleParser", "parse", "([II)I"⟩ ⟨"BookBarge$RuleParser", "parse", "([II)I"⟩ ∈ zGT := zGT_mem 793 (by decide +kernel) (by decide +kernel)
theorem zw794 : Cond.code ⟨"BookBarge$RuleParser", "parse", "([II)I"⟩ cX8_parse 5 (some FieldType.int) ∈ zGT := zGT_mem 794 (by decide +kernel) (by decide +kernel)
theorem zw795 : Cond.methodLink RX8 30 ⟨"BookBarge$RuleParser", "open", "([II)V"⟩ ∈ zGT := zGT_mem 795 (by decide +kernel) (by decide +kernel)
theorem zw796 : Cond.sameMethod "BookBarge$RuleParser" "BookBarge$Scanner" "open" "([II)V" ∈ zGT := zGT_mem 796 (by decide +kernel) (by decide +kernel)
theorem zw797 : Cond.selects "BookBarge$RuleParser" ⟨"BookBarge$RuleParser", "open", "([II)V"⟩ ⟨"BookBarge$Scanner", "open", "([II)V"⟩ ∈ zGT := zGT_mem 797 (by decide +kernel) (by decide +kernel)
theorem zw798 : Cond.methodLink RX8 34 ⟨"BookBarge$RuleParser", "readClause", "()Z"⟩ ∈ zGT := zGT_mem 798 (by decide +kernel) (by decide +kernel)
theorem zw800 : Cond.instanceMethod ⟨"BookBarge$RuleParser", "readClause", "()Z"⟩ ∈ zGT := zGT_mem 800 (by decide +kernel) (by decide +kernel)
theorem zw801 : Cond.code ⟨"BookBarge$RuleParser", "readClause", "()Z"⟩ cX8_readClause 5 (some FieldType.boolean) ∈ zGT := zGT_mem 801 (by decide +kernel) (by decide +kernel)
theorem zw803 : Cond.methodLink RX8 66 ⟨"BookBarge$RuleParser", "wordAmong", "(Ljava/lang/String;)I"⟩ ∈ zGT := zGT_mem 803 (by decide +kernel) (by decide +kernel)
theorem zw804 : Cond.sameMethod "BookBarge$RuleParser" "BookBarge$Scanner" "wordAmong" "(Ljava/lang/String;)I" ∈ zGT := zGT_mem 804 (by decide +kernel) (by decide +kernel)
theorem zw805 : Cond.selects "BookBarge$RuleParser" ⟨"BookBarge$RuleParser", "wordAmong", "(Ljava/lang/String;)I"⟩ ⟨"BookBarge$Scanner", "wordAmong", "(Ljava/lang/String;)I"⟩ ∈ zGT := zGT_mem 805 (by decide +kernel) (by decide +kernel)
theorem zw806 : Cond.methodLink RX8 51 ⟨"BookBarge$RuleParser", "wrong", "(II)Z"⟩ ∈ zGT := zGT_mem 806 (by decide +kernel) (by decide +kernel)
theorem zw807 : Cond.sameMethod "BookBarge$RuleParser" "BookBarge$Scanner" "wrong" "(II)Z" ∈ zGT := zGT_mem 807 (by decide +kernel) (by decide +kernel)
theorem zw808 : Cond.selects "BookBarge$RuleParser" ⟨"BookBarge$RuleParser", "wrong", "(II)Z"⟩ ⟨"BookBarge$Scanner", "wrong", "(II)Z"⟩ ∈ zGT := zGT_mem 808 (by decide +kernel) (by decide +kernel)
theorem zw809 : Cond.methodLink RX8 70 ⟨"BookBarge$RuleParser", "takeWord", "()V"⟩ ∈ zGT := zGT_mem 809 (by decide +kernel) (by decide +kernel)
theorem zw810 : Cond.sameMethod "BookBarge$RuleParser" "BookBarge$Scanner" "takeWord" "()V" ∈ zGT := zGT_mem 810 (by decide +kernel) (by decide +kernel)
theorem zw811 : Cond.selects "BookBarge$RuleParser" ⟨"BookBarge$RuleParser", "takeWord", "()V"⟩ ⟨"BookBarge$Scanner", "takeWord", "()V"⟩ ∈ zGT := zGT_mem 811 (by decide +kernel) (by decide +kernel)
theorem zw812 : Cond.methodLink RX8 73 ⟨"BookBarge$RuleParser", "readSum", "()Z"⟩ ∈ zGT := zGT_mem 812 (by decide +kernel) (by decide +kernel)
theorem zw814 : Cond.instanceMethod ⟨"BookBarge$RuleParser", "readSum", "()Z"⟩ ∈ zGT := zGT_mem 814 (by decide +kernel) (by decide +kernel)
theorem zw815 : Cond.code ⟨"BookBarge$RuleParser", "readSum", "()Z"⟩ cX8_readSum 7 (some FieldType.boolean) ∈ zGT := zGT_mem 815 (by decide +kernel) (by decide +kernel)
theorem zw816 : Cond.methodLink RX8 132 ⟨"BookBarge$RuleParser", "readValue", "()Z"⟩ ∈ zGT := zGT_mem 816 (by decide +kernel) (by decide +kernel)
theorem zw818 : Cond.instanceMethod ⟨"BookBarge$RuleParser", "readValue", "()Z"⟩ ∈ zGT := zGT_mem 818 (by decide +kernel) (by decide +kernel)
theorem zw819 : Cond.code ⟨"BookBarge$RuleParser", "readValue", "()Z"⟩ cX8_readValue 3 (some FieldType.boolean) ∈ zGT := zGT_mem 819 (by decide +kernel) (by decide +kernel)
theorem zw820 : Cond.methodLink RX8 139 ⟨"BookBarge$RuleParser", "isAtDigit", "()Z"⟩ ∈ zGT := zGT_mem 820 (by decide +kernel) (by decide +kernel)
theorem zw821 : Cond.sameMethod "BookBarge$RuleParser" "BookBarge$Scanner" "isAtDigit" "()Z" ∈ zGT := zGT_mem 821 (by decide +kernel) (by decide +kernel)
theorem zw822 : Cond.selects "BookBarge$RuleParser" ⟨"BookBarge$RuleParser", "isAtDigit", "()Z"⟩ ⟨"BookBarge$Scanner", "isAtDigit", "()Z"⟩ ∈ zGT := zGT_mem 822 (by decide +kernel) (by decide +kernel)
theorem zw823 : Cond.constant RX8 142 99999 ∈ zGT := zGT_mem 823 (by decide +kernel) (by decide +kernel)
theorem zw824 : Cond.methodLink RX8 76 ⟨"BookBarge$RuleParser", "readNumber", "(II)Z"⟩ ∈ zGT := zGT_mem 824 (by decide +kernel) (by decide +kernel)
theorem zw825 : Cond.sameMethod "BookBarge$RuleParser" "BookBarge$Scanner" "readNumber" "(II)Z" ∈ zGT := zGT_mem 825 (by decide +kernel) (by decide +kernel)
theorem zw826 : Cond.selects "BookBarge$RuleParser" ⟨"BookBarge$RuleParser", "readNumber", "(II)Z"⟩ ⟨"BookBarge$Scanner", "readNumber", "(II)Z"⟩ ∈ zGT := zGT_mem 826 (by decide +kernel) (by decide +kernel)
theorem zw827 : Cond.methodLink RX8 96 ⟨"BookBarge$RuleParser", "put", "(I)V"⟩ ∈ zGT := zGT_mem 827 (by decide +kernel) (by decide +kernel)
theorem zw829 : Cond.instanceMethod ⟨"BookBarge$RuleParser", "put", "(I)V"⟩ ∈ zGT := zGT_mem 829 (by decide +kernel) (by decide +kernel)
theorem zw830 : Cond.code ⟨"BookBarge$RuleParser", "put", "(I)V"⟩ cX8_put 2 (none : Option FieldType) ∈ zGT := zGT_mem 830 (by decide +kernel) (by decide +kernel)
theorem zw831 : Cond.methodLink RX8 118 ⟨"BookBarge$RuleParser", "countPart", "(I)Z"⟩ ∈ zGT := zGT_mem 831 (by decide +kernel) (by decide +kernel)
theorem zw833 : Cond.instanceMethod ⟨"BookBarge$RuleParser", "countPart", "(I)Z"⟩ ∈ zGT := zGT_mem 833 (by decide +kernel) (by decide +kernel)
theorem zw834 : Cond.code ⟨"BookBarge$RuleParser", "countPart", "(I)Z"⟩ cX8_countPart 2 (some FieldType.boolean) ∈ zGT := zGT_mem 834 (by decide +kernel) (by decide +kernel)
theorem zw836 : Cond.constant RX8 145 100000 ∈ zGT := zGT_mem 836 (by decide +kernel) (by decide +kernel)
theorem zw837 : Cond.methodLink RX8 107 ⟨"BookBarge$RuleParser", "sign", "()I"⟩ ∈ zGT := zGT_mem 837 (by decide +kernel) (by decide +kernel)
theorem zw838 : Cond.sameMethod "BookBarge$RuleParser" "BookBarge$Scanner" "sign" "()I" ∈ zGT := zGT_mem 838 (by decide +kernel) (by decide +kernel)
theorem zw840 : Cond.selects "BookBarge$RuleParser" ⟨"BookBarge$RuleParser", "sign", "()I"⟩ ⟨"BookBarge$Scanner", "sign", "()I"⟩ ∈ zGT := zGT_mem 840 (by decide +kernel) (by decide +kernel)
theorem zw841 : Cond.methodLink RX8 112 ⟨"BookBarge$RuleParser", "takeSign", "()V"⟩ ∈ zGT := zGT_mem 841 (by decide +kernel) (by decide +kernel)
theorem zw842 : Cond.sameMethod "BookBarge$RuleParser" "BookBarge$Scanner" "takeSign" "()V" ∈ zGT := zGT_mem 842 (by decide +kernel) (by decide +kernel)
theorem zw844 : Cond.selects "BookBarge$RuleParser" ⟨"BookBarge$RuleParser", "takeSign", "()V"⟩ ⟨"BookBarge$Scanner", "takeSign", "()V"⟩ ∈ zGT := zGT_mem 844 (by decide +kernel) (by decide +kernel)
theorem zw845 : Cond.constant RX8 135 200002 ∈ zGT := zGT_mem 845 (by decide +kernel) (by decide +kernel)
theorem zw846 : Cond.constant RX8 136 200003 ∈ zGT := zGT_mem 846 (by decide +kernel) (by decide +kernel)
theorem zw847 : Cond.constant RX8 137 200000 ∈ zGT := zGT_mem 847 (by decide +kernel) (by decide +kernel)
theorem zw848 : Cond.constant RX8 138 200001 ∈ zGT := zGT_mem 848 (by decide +kernel) (by decide +kernel)
theorem zw850 : Cond.methodLink RX8 84 ⟨"BookBarge$RuleParser", "tookWord", "(Ljava/lang/String;)Z"⟩ ∈ zGT := zGT_mem 850 (by decide +kernel) (by decide +kernel)
theorem zw851 : Cond.sameMethod "BookBarge$RuleParser" "BookBarge$Scanner" "tookWord" "(Ljava/lang/String;)Z" ∈ zGT := zGT_mem 851 (by decide +kernel) (by decide +kernel)
theorem zw853 : Cond.selects "BookBarge$RuleParser" ⟨"BookBarge$RuleParser", "tookWord", "(Ljava/lang/String;)Z"⟩ ⟨"BookBarge$Scanner", "tookWord", "(Ljava/lang/String;)Z"⟩ ∈ zGT := zGT_mem 853 (by decide +kernel) (by decide +kernel)
theorem zw854 : Cond.instanceMethod ⟨"BookBarge$Scanner", "tookWord", "(Ljava/lang/String;)Z"⟩ ∈ zGT := zGT_mem 854 (by decide +kernel) (by decide +kernel)
theorem zw855 : Cond.code ⟨"BookBarge$Scanner", "tookWord", "(Ljava/lang/String;)Z"⟩ cX9_tookWord 2 (some FieldType.boolean) ∈ zGT := zGT_mem 855 (by decide +kernel) (by decide +kernel)
theorem zw856 : Cond.methodLink RX9 75 ⟨"BookBarge$Scanner", "wordAmong", "(Ljava/lang/String;)I"⟩ ∈ zGT := zGT_mem 856 (by decide +kernel) (by decide +kernel)
theorem zw857 : Cond.methodLink RX9 79 ⟨"BookBarge$Scanner", "takeWord", "()V"⟩ ∈ zGT := zGT_mem 857 (by decide +kernel) (by decide +kernel)
theorem zw858 : Cond.methodLink RX8 88 ⟨"BookBarge$RuleParser", "readTest", "(I)Z"⟩ ∈ zGT := zGT_mem 858 (by decide +kernel) (by decide +kernel)
theorem zw860 : Cond.instanceMethod ⟨"BookBarge$RuleParser", "readTest", "(I)Z"⟩ ∈ zGT := zGT_mem 860 (by decide +kernel) (by decide +kernel)
theorem zw861 : Cond.code ⟨"BookBarge$RuleParser", "readTest", "(I)Z"⟩ cX8_readTest 5 (some FieldType.boolean) ∈ zGT := zGT_mem 861 (by decide +kernel) (by decide +kernel)
theorem zw862 : Cond.methodLink RX8 92 ⟨"BookBarge$RuleParser", "readFact", "(I)Z"⟩ ∈ zGT := zGT_mem 862 (by decide +kernel) (by decide +kernel)
theorem zw864 : Cond.instanceMethod ⟨"BookBarge$RuleParser", "readFact", "(I)Z"⟩ ∈ zGT := zGT_mem 864 (by decide +kernel) (by decide +kernel)
theorem zw865 : Cond.code ⟨"BookBarge$RuleParser", "readFact", "(I)Z"⟩ cX8_readFact 6 (some FieldType.boolean) ∈ zGT := zGT_mem 865 (by decide +kernel) (by decide +kernel)
theorem zw867 : Cond.constant RX8 111 200011 ∈ zGT := zGT_mem 867 (by decide +kernel) (by decide +kernel)
theorem zw868 : Cond.methodLink RX8 41 ⟨"BookBarge$RuleParser", "tookSign", "(C)Z"⟩ ∈ zGT := zGT_mem 868 (by decide +kernel) (by decide +kernel)
theorem zw869 : Cond.sameMethod "BookBarge$RuleParser" "BookBarge$Scanner" "tookSign" "(C)Z" ∈ zGT := zGT_mem 869 (by decide +kernel) (by decide +kernel)
theorem zw870 : Cond.selects "BookBarge$RuleParser" ⟨"BookBarge$RuleParser", "tookSign", "(C)Z"⟩ ⟨"BookBarge$Scanner", "tookSign", "(C)Z"⟩ ∈ zGT := zGT_mem 870 (by decide +kernel) (by decide +kernel)
theorem zw871 : Cond.methodLink RX8 115 ⟨"BookBarge$RuleParser", "takeComparison", "()I"⟩ ∈ zGT := zGT_mem 871 (by decide +kernel) (by decide +kernel)
theorem zw873 : Cond.instanceMethod ⟨"BookBarge$RuleParser", "takeComparison", "()I"⟩ ∈ zGT := zGT_mem 873 (by decide +kernel) (by decide +kernel)
theorem zw874 : Cond.code ⟨"BookBarge$RuleParser", "takeComparison", "()I"⟩ cX8_takeComparison 3 (some FieldType.int) ∈ zGT := zGT_mem 874 (by decide +kernel) (by decide +kernel)
theorem zw875 : Cond.methodLink RX8 121 ⟨"BookBarge$RuleParser", "takeByte", "()V"⟩ ∈ zGT := zGT_mem 875 (by decide +kernel) (by decide +kernel)
theorem zw876 : Cond.sameMethod "BookBarge$RuleParser" "BookBarge$Scanner" "takeByte" "()V" ∈ zGT := zGT_mem 876 (by decide +kernel) (by decide +kernel)
theorem zw878 : Cond.selects "BookBarge$RuleParser" ⟨"BookBarge$RuleParser", "takeByte", "()V"⟩ ⟨"BookBarge$Scanner", "takeByte", "()V"⟩ ∈ zGT := zGT_mem 878 (by decide +kernel) (by decide +kernel)
theorem zw879 : Cond.methodLink RX8 124 ⟨"BookBarge$RuleParser", "skipBlanks", "()V"⟩ ∈ zGT := zGT_mem 879 (by decide +kernel) (by decide +kernel)
theorem zw880 : Cond.sameMethod "BookBarge$RuleParser" "BookBarge$Scanner" "skipBlanks" "()V" ∈ zGT := zGT_mem 880 (by decide +kernel) (by decide +kernel)
theorem zw882 : Cond.selects "BookBarge$RuleParser" ⟨"BookBarge$RuleParser", "skipBlanks", "()V"⟩ ⟨"BookBarge$Scanner", "skipBlanks", "()V"⟩ ∈ zGT := zGT_mem 882 (by decide +kernel) (by decide +kernel)
theorem zw883 : Cond.constant RX8 127 200006 ∈ zGT := zGT_mem 883 (by decide +kernel) (by decide +kernel)
theorem zw884 : Cond.constant RX8 128 200005 ∈ zGT := zGT_mem 884 (by decide +kernel) (by decide +kernel)
theorem zw885 : Cond.constant RX8 129 200004 ∈ zGT := zGT_mem 885 (by decide +kernel) (by decide +kernel)
theorem zw886 : Cond.constant RX8 130 200007 ∈ zGT := zGT_mem 886 (by decide +kernel) (by decide +kernel)
theorem zw887 : Cond.constant RX8 131 200008 ∈ zGT := zGT_mem 887 (by decide +kernel) (by decide +kernel)
theorem zw888 : Cond.constant RX8 95 200009 ∈ zGT := zGT_mem 888 (by decide +kernel) (by decide +kernel)
theorem zw890 : Cond.constant RX8 102 200010 ∈ zGT := zGT_mem 890 (by decide +kernel) (by decide +kernel)
theorem zw892 : Cond.methodLink RX8 45 ⟨"BookBarge$RuleParser", "isAtEnd", "()Z"⟩ ∈ zGT := zGT_mem 892 (by decide +kernel) (by decide +kernel)
theorem zw893 : Cond.sameMethod "BookBarge$RuleParser" "BookBarge$Scanner" "isAtEnd" "()Z" ∈ zGT := zGT_mem 893 (by decide +kernel) (by decide +kernel)
theorem zw894 : Cond.selects "BookBarge$RuleParser" ⟨"BookBarge$RuleParser", "isAtEnd", "()Z"⟩ ⟨"BookBarge$Scanner", "isAtEnd", "()Z"⟩ ∈ zGT := zGT_mem 894 (by decide +kernel) (by decide +kernel)
theorem zw895 : Cond.methodLink RX11 128 ⟨"BookBarge$RuleParser", "made", "()LBookBarge$Rule;"⟩ ∈ zGT := zGT_mem 895 (by decide +kernel) (by decide +kernel)
theorem zw896 : Cond.instanceMethod ⟨"BookBarge$RuleParser", "made", "()LBookBarge$Rule;"⟩ ∈ zGT := zGT_mem 896 (by decide +kernel) (by decide +kernel)
theorem zw897 : Cond.selects "BookBarge$RuleParser" ⟨"BookBarge$RuleParser", "made", "()LBookBarge$Rule;"⟩ ⟨"BookBarge$RuleParser", "made", "()LBookBarge$Rule;"⟩ ∈ zGT := zGT_mem 897 (by decide +kernel) (by decide +kernel)
theorem zw898 : Cond.code ⟨"BookBarge$RuleParser", "made", "()LBookBarge$Rule;"⟩ cX8_made 1 (some (FieldType.object "BookBarge$Rule")) ∈ zGT := zGT_mem 898 (by decide +kernel) (by decide +kernel)
theorem zw899 : Cond.classLink RX8 19 "BookBarge$Rule" ∈ zGT := zGT_mem 899 (by decide +kernel) (by decide +kernel)
theorem zw900 : Cond.instantiable "BookBarge$Rule" 3 ∈ zGT := zGT_mem 900 (by decide +kernel) (by decide +kernel)
theorem zw901 : Cond.methodLink RX8 55 ⟨"java/util/Arrays", "copyOf", "([II)[I"⟩ ∈ zGT := zGT_mem 901 (by decide +kernel) (by decide +kernel)
theorem zw902 : Cond.static ⟨"java/util/Arrays", "copyOf", "([II)[I"⟩ ∈ zGT := zGT_mem 902 (by decide +kernel) (by decide +kernel)
theorem zw903 : Cond.code ⟨"java/util/Arrays", "copyOf", "([II)[I"⟩ cJ7_copyOf_59c91 3 (some (FieldType.array FieldType.int)) ∈ zGT := zGT_mem 903 (by decide +kernel) (by decide +kernel)
theorem zw904 : Cond.methodLink "java/util/Arrays" 316 ⟨"[I", "clone", "()Ljava/lang/Object;"⟩ ∈ zGT := zGT_mem 904 (by decide +kernel) (by decide +kernel)
theorem zw905 : Cond.sameMethod "[I" "java/lang/Object" "clone" "()Ljava/lang/Object;" ∈ zGT := zGT_mem 905 (by decide +kernel) (by decide +kernel)
theorem zw906 : Cond.native ⟨"java/lang/Object", "clone", "()Ljava/lang/Object;"⟩ ∈ zGT := zGT_mem 906 (by decide +kernel) (by decide +kernel)
theorem zw907 : Cond.instanceMethod ⟨"java/lang/Object", "clone", "()Ljava/lang/Object;"⟩ ∈ zGT := zGT_mem 907 (by decide +kernel) (by decide +kernel)
theorem zw908 : Cond.selects "[I" ⟨"[I", "clone", "()Ljava/lang/Object;"⟩ ⟨"java/lang/Object", "clone", "()Ljava/lang/Object;"⟩ ∈ zGT := zGT_mem 908 (by decide +kernel) (by decide +kernel)
theorem zw910 : Cond.classLink "java/util/Arrays" 317 "[I" ∈ zGT := zGT_mem 910 (by decide +kernel) (by decide +kernel)
theorem zw911 : Cond.methodLink "java/util/Arrays" 304 Lib.Math.min.name ∈ zGT := zGT_mem 911 (by decide +kernel) (by decide +kernel)
theorem zw912 : Cond.methodLink "java/util/Arrays" 150 arraycopyName ∈ zGT := zGT_mem 912 (by decide +kernel) (by decide +kernel)
theorem zw913 : Cond.methodLink RX8 61 ⟨"BookBarge$Rule", "<init>", "([I[I)V"⟩ ∈ zGT := zGT_mem 913 (by decide +kernel) (by decide +kernel)
theorem zw914 : Cond.instanceMethod ⟨"BookBarge$Rule", "<init>", "([I[I)V"⟩ ∈ zGT := zGT_mem 914 (by decide +kernel) (by decide +kernel)
theorem zw915 : Cond.code ⟨"BookBarge$Rule", "<init>", "([I[I)V"⟩ cX7_init 3 (none : Option FieldType) ∈ zGT := zGT_mem 915 (by decide +kernel) (by decide +kernel)
theorem zw916 : Cond.methodLink RX7 3 objectInit ∈ zGT := zGT_mem 916 (by decide +kernel) (by decide +kernel)
theorem zw917 : Cond.fieldLink RX7 15 "BookBarge$Rule" "code" "[I" ∈ zGT := zGT_mem 917 (by decide +kernel) (by decide +kernel)
theorem zw918 : Cond.fieldLink RX7 19 "BookBarge$Rule" "clauses" "[I" ∈ zGT := zGT_mem 918 (by decide +kernel) (by decide +kernel)
theorem zw919 : Cond.fieldLink RX7 9 "BookBarge$Rule" "stack" "[J" ∈ zGT := zGT_mem 919 (by decide +kernel) (by decide +kernel)
theorem zw931 : Cond.methodLink RX11 132 ⟨"BookBarge$World", "hasBook", "(I)Z"⟩ ∈ zGT := zGT_mem 931 (by decide +kernel) (by decide +kernel)
theorem zw932 : Cond.instanceMethod ⟨"BookBarge$World", "hasBook", "(I)Z"⟩ ∈ zGT := zGT_mem 932 (by decide +kernel) (by decide +kernel)
theorem zw933 : Cond.selects "BookBarge$World" ⟨"BookBarge$World", "hasBook", "(I)Z"⟩ ⟨"BookBarge$World", "hasBook", "(I)Z"⟩ ∈ zGT := zGT_mem 933 (by decide +kernel) (by decide +kernel)
theorem zw934 : Cond.code ⟨"BookBarge$World", "hasBook", "(I)Z"⟩ cX10_hasBook 2 (some FieldType.boolean) ∈ zGT := zGT_mem 934 (by decide +kernel) (by decide +kernel)
theorem zw939 : Cond.methodLink RX11 136 ⟨"BookBarge$World", "hasStop", "(I)Z"⟩ ∈ zGT := zGT_mem 939 (by decide +kernel) (by decide +kernel)
theorem zw940 : Cond.instanceMethod ⟨"BookBarge$World", "hasStop", "(I)Z"⟩ ∈ zGT := zGT_mem 940 (by decide +kernel) (by decide +kernel)
theorem zw941 : Cond.selects "BookBarge$World" ⟨"BookBarge$World", "hasStop", "(I)Z"⟩ ⟨"BookBarge$World", "hasStop", "(I)Z"⟩ ∈ zGT := zGT_mem 941 (by decide +kernel) (by decide +kernel)
theorem zw942 : Cond.code ⟨"BookBarge$World", "hasStop", "(I)Z"⟩ cX10_hasStop 2 (some FieldType.boolean) ∈ zGT := zGT_mem 942 (by decide +kernel) (by decide +kernel)
theorem zw943 : Cond.methodLink RX11 139 ⟨"BookBarge$World", "depthOf", "(I)I"⟩ ∈ zGT := zGT_mem 943 (by decide +kernel) (by decide +kernel)
theorem zw944 : Cond.instanceMethod ⟨"BookBarge$World", "depthOf", "(I)I"⟩ ∈ zGT := zGT_mem 944 (by decide +kernel) (by decide +kernel)
theorem zw945 : Cond.selects "BookBarge$World" ⟨"BookBarge$World", "depthOf", "(I)I"⟩ ⟨"BookBarge$World", "depthOf", "(I)I"⟩ ∈ zGT := zGT_mem 945 (by decide +kernel) (by decide +kernel)
theorem zw946 : Cond.code ⟨"BookBarge$World", "depthOf", "(I)I"⟩ cX10_depthOf 2 (some FieldType.int) ∈ zGT := zGT_mem 946 (by decide +kernel) (by decide +kernel)
theorem zw947 : Cond.methodLink RX10 25 ⟨"BookBarge$World", "hasStop", "(I)Z"⟩ ∈ zGT := zGT_mem 947 (by decide +kernel) (by decide +kernel)
theorem zw948 : Cond.methodLink RX11 143 ⟨"BookBarge$World", "booksAt", "(I)I"⟩ ∈ zGT := zGT_mem 948 (by decide +kernel) (by decide +kernel)
theorem zw949 : Cond.instanceMethod ⟨"BookBarge$World", "booksAt", "(I)I"⟩ ∈ zGT := zGT_mem 949 (by decide +kernel) (by decide +kernel)
theorem zw950 : Cond.selects "BookBarge$World" ⟨"BookBarge$World", "booksAt", "(I)I"⟩ ⟨"BookBarge$World", "booksAt", "(I)I"⟩ ∈ zGT := zGT_mem 950 (by decide +kernel) (by decide +kernel)
theorem zw951 : Cond.code ⟨"BookBarge$World", "booksAt", "(I)I"⟩ cX10_booksAt 4 (some FieldType.int) ∈ zGT := zGT_mem 951 (by decide +kernel) (by decide +kernel)
theorem zw952 : Cond.methodLink RX11 146 ⟨"BookBarge", "passing", "(II)I"⟩ ∈ zGT := zGT_mem 952 (by decide +kernel) (by decide +kernel)
theorem zw954 : Cond.instanceMethod ⟨"BookBarge", "passing", "(II)I"⟩ ∈ zGT := zGT_mem 954 (by decide +kernel) (by decide +kernel)
theorem zw955 : Cond.code ⟨"BookBarge", "passing", "(II)I"⟩ cX11_passing 3 (some FieldType.int) ∈ zGT := zGT_mem 955 (by decide +kernel) (by decide +kernel)
theorem zw956 : Cond.methodLink RX11 152 ⟨"BookBarge$World", "hasBarge", "(I)Z"⟩ ∈ zGT := zGT_mem 956 (by decide +kernel) (by decide +kernel)
theorem zw957 : Cond.instanceMethod ⟨"BookBarge$World", "hasBarge", "(I)Z"⟩ ∈ zGT := zGT_mem 957 (by decide +kernel) (by decide +kernel)
theorem zw958 : Cond.selects "BookBarge$World" ⟨"BookBarge$World", "hasBarge", "(I)Z"⟩ ⟨"BookBarge$World", "hasBarge", "(I)Z"⟩ ∈ zGT := zGT_mem 958 (by decide +kernel) (by decide +kernel)
theorem zw959 : Cond.code ⟨"BookBarge$World", "hasBarge", "(I)Z"⟩ cX10_hasBarge 2 (some FieldType.boolean) ∈ zGT := zGT_mem 959 (by decide +kernel) (by decide +kernel)
theorem zw960 : Cond.methodLink RX11 155 ⟨"BookBarge$World", "passes", "(II)Z"⟩ ∈ zGT := zGT_mem 960 (by decide +kernel) (by decide +kernel)
theorem zw961 : Cond.instanceMethod ⟨"BookBarge$World", "passes", "(II)Z"⟩ ∈ zGT := zGT_mem 961 (by decide +kernel) (by decide +kernel)
theorem zw962 : Cond.selects "BookBarge$World" ⟨"BookBarge$World", "passes", "(II)Z"⟩ ⟨"BookBarge$World", "passes", "(II)Z"⟩ ∈ zGT := zGT_mem 962 (by decide +kernel) (by decide +kernel)
theorem zw963 : Cond.code ⟨"BookBarge$World", "passes", "(II)Z"⟩ cX10_passes 3 (some FieldType.boolean) ∈ zGT := zGT_mem 963 (by decide +kernel) (by decide +kernel)
theorem zw964 : Cond.methodLink RX10 51 ⟨"BookBarge$World", "depthOf", "(I)I"⟩ ∈ zGT := zGT_mem 964 (by decide +kernel) (by decide +kernel)
theorem zw965 : Cond.methodLink RX10 54 ⟨"BookBarge$World", "draughtOf", "(I)I"⟩ ∈ zGT := zGT_mem 965 (by decide +kernel) (by decide +kernel)
theorem zw966 : Cond.instanceMethod ⟨"BookBarge$World", "draughtOf", "(I)I"⟩ ∈ zGT := zGT_mem 966 (by decide +kernel) (by decide +kernel)
theorem zw967 : Cond.selects "BookBarge$World" ⟨"BookBarge$World", "draughtOf", "(I)I"⟩ ⟨"BookBarge$World", "draughtOf", "(I)I"⟩ ∈ zGT := zGT_mem 967 (by decide +kernel) (by decide +kernel)
theorem zw968 : Cond.code ⟨"BookBarge$World", "draughtOf", "(I)I"⟩ cX10_draughtOf 2 (some FieldType.int) ∈ zGT := zGT_mem 968 (by decide +kernel) (by decide +kernel)
theorem zw969 : Cond.methodLink RX10 41 ⟨"BookBarge$World", "loadOf", "(I)I"⟩ ∈ zGT := zGT_mem 969 (by decide +kernel) (by decide +kernel)
theorem zw970 : Cond.instanceMethod ⟨"BookBarge$World", "loadOf", "(I)I"⟩ ∈ zGT := zGT_mem 970 (by decide +kernel) (by decide +kernel)
theorem zw971 : Cond.selects "BookBarge$World" ⟨"BookBarge$World", "loadOf", "(I)I"⟩ ⟨"BookBarge$World", "loadOf", "(I)I"⟩ ∈ zGT := zGT_mem 971 (by decide +kernel) (by decide +kernel)
theorem zw972 : Cond.code ⟨"BookBarge$World", "loadOf", "(I)I"⟩ cX10_loadOf 4 (some FieldType.int) ∈ zGT := zGT_mem 972 (by decide +kernel) (by decide +kernel)
theorem zw973 : Cond.methodLink RX10 28 ⟨"BookBarge$World", "cell", "(II)I"⟩ ∈ zGT := zGT_mem 973 (by decide +kernel) (by decide +kernel)
theorem zw974 : Cond.methodLink RX10 44 ⟨"BookBarge$World", "tiltOf", "(I)I"⟩ ∈ zGT := zGT_mem 974 (by decide +kernel) (by decide +kernel)
theorem zw975 : Cond.instanceMethod ⟨"BookBarge$World", "tiltOf", "(I)I"⟩ ∈ zGT := zGT_mem 975 (by decide +kernel) (by decide +kernel)
theorem zw976 : Cond.selects "BookBarge$World" ⟨"BookBarge$World", "tiltOf", "(I)I"⟩ ⟨"BookBarge$World", "tiltOf", "(I)I"⟩ ∈ zGT := zGT_mem 976 (by decide +kernel) (by decide +kernel)
theorem zw977 : Cond.code ⟨"BookBarge$World", "tiltOf", "(I)I"⟩ cX10_tiltOf 5 (some FieldType.int) ∈ zGT := zGT_mem 977 (by decide +kernel) (by decide +kernel)
theorem zw978 : Cond.methodLink RX10 47 ⟨"BookBarge$World", "draughtBy", "(IIII)I"⟩ ∈ zGT := zGT_mem 978 (by decide +kernel) (by decide +kernel)
theorem zw979 : Cond.static ⟨"BookBarge$World", "draughtBy", "(IIII)I"⟩ ∈ zGT := zGT_mem 979 (by decide +kernel) (by decide +kernel)
theorem zw980 : Cond.code ⟨"BookBarge$World", "draughtBy", "(IIII)I"⟩ cX10_draughtBy 4 (some FieldType.int) ∈ zGT := zGT_mem 980 (by decide +kernel) (by decide +kernel)
theorem zw981 : Cond.methodLink RX10 37 Lib.Math.abs.name ∈ zGT := zGT_mem 981 (by decide +kernel) (by decide +kernel)
theorem zw982 : Cond.static Lib.Math.abs.name ∈ zGT := zGT_mem 982 (by decide +kernel) (by decide +kernel)
theorem zw983 : Cond.code Lib.Math.abs.name Lib.Math.abs.code 1 (some .int) ∈ zGT := zGT_mem 983 (by decide +kernel) (by decide +kernel)
theorem zw984 : Cond.methodLink RX11 149 ⟨"BookBarge$World", "readersAt", "(I)I"⟩ ∈ zGT := zGT_mem 984 (by decide +kernel) (by decide +kernel)
theorem zw985 : Cond.instanceMethod ⟨"BookBarge$World", "readersAt", "(I)I"⟩ ∈ zGT := zGT_mem 985 (by decide +kernel) (by decide +kernel)
theorem zw986 : Cond.selects "BookBarge$World" ⟨"BookBarge$World", "readersAt", "(I)I"⟩ ⟨"BookBarge$World", "readersAt", "(I)I"⟩ ∈ zGT := zGT_mem 986 (by decide +kernel) (by decide +kernel)
theorem zw987 : Cond.code ⟨"BookBarge$World", "readersAt", "(I)I"⟩ cX10_readersAt 4 (some FieldType.int) ∈ zGT := zGT_mem 987 (by decide +kernel) (by decide +kernel)
theorem zw992 : Cond.methodLink RX11 159 ⟨"BookBarge$World", "hasReader", "(I)Z"⟩ ∈ zGT := zGT_mem 992 (by decide +kernel) (by decide +kernel)
theorem zw993 : Cond.instanceMethod ⟨"BookBarge$World", "hasReader", "(I)Z"⟩ ∈ zGT := zGT_mem 993 (by decide +kernel) (by decide +kernel)
theorem zw994 : Cond.selects "BookBarge$World" ⟨"BookBarge$World", "hasReader", "(I)Z"⟩ ⟨"BookBarge$World", "hasReader", "(I)Z"⟩ ∈ zGT := zGT_mem 994 (by decide +kernel) (by decide +kernel)
theorem zw995 : Cond.code ⟨"BookBarge$World", "hasReader", "(I)Z"⟩ cX10_hasReader 2 (some FieldType.boolean) ∈ zGT := zGT_mem 995 (by decide +kernel) (by decide +kernel)
theorem zw1000 : Cond.methodLink RX11 162 ⟨"BookBarge$World", "coins", "(II)I"⟩ ∈ zGT := zGT_mem 1000 (by decide +kernel) (by decide +kernel)
theorem zw1001 : Cond.instanceMethod ⟨"BookBarge$World", "coins", "(II)I"⟩ ∈ zGT := zGT_mem 1001 (by decide +kernel) (by decide +kernel)
theorem zw1002 : Cond.selects "BookBarge$World" ⟨"BookBarge$World", "coins", "(II)I"⟩ ⟨"BookBarge$World", "coins", "(II)I"⟩ ∈ zGT := zGT_mem 1002 (by decide +kernel) (by decide +kernel)
theorem zw1003 : Cond.code ⟨"BookBarge$World", "coins", "(II)I"⟩ cX10_coins 3 (some FieldType.int) ∈ zGT := zGT_mem 1003 (by decide +kernel) (by decide +kernel)
theorem zw1008 : Cond.constant RX11 165 (-1000000) ∈ zGT := zGT_mem 1008 (by decide +kernel) (by decide +kernel)
theorem zw1009 : Cond.methodLink RX11 166 ⟨"BookBarge$World", "loadOf", "(I)I"⟩ ∈ zGT := zGT_mem 1009 (by decide +kernel) (by decide +kernel)
theorem zw1010 : Cond.methodLink RX11 169 ⟨"BookBarge$World", "tiltOf", "(I)I"⟩ ∈ zGT := zGT_mem 1010 (by decide +kernel) (by decide +kernel)
theorem zw1011 : Cond.methodLink RX11 172 ⟨"BookBarge$World", "draughtOf", "(I)I"⟩ ∈ zGT := zGT_mem 1011 (by decide +kernel) (by decide +kernel)
theorem zw1016 : Cond.methodLink RX11 175 ⟨"BookBarge$World", "bargeOf", "(I)I"⟩ ∈ zGT := zGT_mem 1016 (by decide +kernel) (by decide +kernel)
theorem zw1017 : Cond.instanceMethod ⟨"BookBarge$World", "bargeOf", "(I)I"⟩ ∈ zGT := zGT_mem 1017 (by decide +kernel) (by decide +kernel)
theorem zw1018 : Cond.selects "BookBarge$World" ⟨"BookBarge$World", "bargeOf", "(I)I"⟩ ⟨"BookBarge$World", "bargeOf", "(I)I"⟩ ∈ zGT := zGT_mem 1018 (by decide +kernel) (by decide +kernel)
theorem zw1019 : Cond.code ⟨"BookBarge$World", "bargeOf", "(I)I"⟩ cX10_bargeOf 3 (some FieldType.int) ∈ zGT := zGT_mem 1019 (by decide +kernel) (by decide +kernel)
theorem zw1020 : Cond.methodLink RX10 57 ⟨"BookBarge$World", "hasBook", "(I)Z"⟩ ∈ zGT := zGT_mem 1020 (by decide +kernel) (by decide +kernel)
theorem zw1021 : Cond.methodLink RX11 178 ⟨"BookBarge", "remember", "()V"⟩ ∈ zGT := zGT_mem 1021 (by decide +kernel) (by decide +kernel)
theorem zw1023 : Cond.instanceMethod ⟨"BookBarge", "remember", "()V"⟩ ∈ zGT := zGT_mem 1023 (by decide +kernel) (by decide +kernel)
theorem zw1024 : Cond.code ⟨"BookBarge", "remember", "()V"⟩ cX11_remember 1 (none : Option FieldType) ∈ zGT := zGT_mem 1024 (by decide +kernel) (by decide +kernel)
theorem zw1025 : Cond.methodLink RX11 227 arraycopyName ∈ zGT := zGT_mem 1025 (by decide +kernel) (by decide +kernel)
theorem zw1026 : Cond.methodLink RX11 181 ⟨"BookBarge$World", "putAshore", "(II)V"⟩ ∈ zGT := zGT_mem 1026 (by decide +kernel) (by decide +kernel)
theorem zw1027 : Cond.instanceMethod ⟨"BookBarge$World", "putAshore", "(II)V"⟩ ∈ zGT := zGT_mem 1027 (by decide +kernel) (by decide +kernel)
theorem zw1028 : Cond.selects "BookBarge$World" ⟨"BookBarge$World", "putAshore", "(II)V"⟩ ⟨"BookBarge$World", "putAshore", "(II)V"⟩ ∈ zGT := zGT_mem 1028 (by decide +kernel) (by decide +kernel)
theorem zw1029 : Cond.code ⟨"BookBarge$World", "putAshore", "(II)V"⟩ cX10_putAshore 3 (none : Option FieldType) ∈ zGT := zGT_mem 1029 (by decide +kernel) (by decide +kernel)
theorem zw1034 : Cond.methodLink RX11 185 ⟨"BookBarge$World", "waitsFor", "(II)Z"⟩ ∈ zGT := zGT_mem 1034 (by decide +kernel) (by decide +kernel)
theorem zw1035 : Cond.instanceMethod ⟨"BookBarge$World", "waitsFor", "(II)Z"⟩ ∈ zGT := zGT_mem 1035 (by decide +kernel) (by decide +kernel)
theorem zw1036 : Cond.selects "BookBarge$World" ⟨"BookBarge$World", "waitsFor", "(II)Z"⟩ ⟨"BookBarge$World", "waitsFor", "(II)Z"⟩ ∈ zGT := zGT_mem 1036 (by decide +kernel) (by decide +kernel)
theorem zw1037 : Cond.code ⟨"BookBarge$World", "waitsFor", "(II)Z"⟩ cX10_waitsFor 3 (some FieldType.boolean) ∈ zGT := zGT_mem 1037 (by decide +kernel) (by decide +kernel)
theorem zw1038 : Cond.methodLink RX10 60 ⟨"BookBarge$World", "hasReader", "(I)Z"⟩ ∈ zGT := zGT_mem 1038 (by decide +kernel) (by decide +kernel)
theorem zw1039 : Cond.methodLink RX11 188 ⟨"BookBarge$World", "giveTo", "(III)V"⟩ ∈ zGT := zGT_mem 1039 (by decide +kernel) (by decide +kernel)
theorem zw1040 : Cond.instanceMethod ⟨"BookBarge$World", "giveTo", "(III)V"⟩ ∈ zGT := zGT_mem 1040 (by decide +kernel) (by decide +kernel)
theorem zw1041 : Cond.selects "BookBarge$World" ⟨"BookBarge$World", "giveTo", "(III)V"⟩ ⟨"BookBarge$World", "giveTo", "(III)V"⟩ ∈ zGT := zGT_mem 1041 (by decide +kernel) (by decide +kernel)
theorem zw1042 : Cond.code ⟨"BookBarge$World", "giveTo", "(III)V"⟩ cX10_giveTo 4 (none : Option FieldType) ∈ zGT := zGT_mem 1042 (by decide +kernel) (by decide +kernel)
theorem zw1043 : Cond.methodLink RX10 21 ⟨"BookBarge$World", "hasBarge", "(I)Z"⟩ ∈ zGT := zGT_mem 1043 (by decide +kernel) (by decide +kernel)
theorem zw1044 : Cond.methodLink RX10 69 ⟨"BookBarge$World", "coins", "(II)I"⟩ ∈ zGT := zGT_mem 1044 (by decide +kernel) (by decide +kernel)
theorem zw1049 : Cond.methodLink RX11 192 ⟨"BookBarge$World", "hasShelf", "(II)Z"⟩ ∈ zGT := zGT_mem 1049 (by decide +kernel) (by decide +kernel)
theorem zw1050 : Cond.instanceMethod ⟨"BookBarge$World", "hasShelf", "(II)Z"⟩ ∈ zGT := zGT_mem 1050 (by decide +kernel) (by decide +kernel)
theorem zw1051 : Cond.selects "BookBarge$World" ⟨"BookBarge$World", "hasShelf", "(II)Z"⟩ ⟨"BookBarge$World", "hasShelf", "(II)Z"⟩ ∈ zGT := zGT_mem 1051 (by decide +kernel) (by decide +kernel)
theorem zw1052 : Cond.code ⟨"BookBarge$World", "hasShelf", "(II)Z"⟩ cX10_hasShelf 3 (some FieldType.boolean) ∈ zGT := zGT_mem 1052 (by decide +kernel) (by decide +kernel)
theorem zw1053 : Cond.methodLink RX11 195 ⟨"BookBarge$World", "canFetch", "(II)Z"⟩ ∈ zGT := zGT_mem 1053 (by decide +kernel) (by decide +kernel)
theorem zw1054 : Cond.instanceMethod ⟨"BookBarge$World", "canFetch", "(II)Z"⟩ ∈ zGT := zGT_mem 1054 (by decide +kernel) (by decide +kernel)
theorem zw1055 : Cond.selects "BookBarge$World" ⟨"BookBarge$World", "canFetch", "(II)Z"⟩ ⟨"BookBarge$World", "canFetch", "(II)Z"⟩ ∈ zGT := zGT_mem 1055 (by decide +kernel) (by decide +kernel)
theorem zw1056 : Cond.code ⟨"BookBarge$World", "canFetch", "(II)Z"⟩ cX10_canFetch 6 (some FieldType.boolean) ∈ zGT := zGT_mem 1056 (by decide +kernel) (by decide +kernel)
theorem zw1057 : Cond.methodLink RX11 198 ⟨"BookBarge$World", "takeIn", "(III)V"⟩ ∈ zGT := zGT_mem 1057 (by decide +kernel) (by decide +kernel)
theorem zw1058 : Cond.instanceMethod ⟨"BookBarge$World", "takeIn", "(III)V"⟩ ∈ zGT := zGT_mem 1058 (by decide +kernel) (by decide +kernel)
theorem zw1059 : Cond.selects "BookBarge$World" ⟨"BookBarge$World", "takeIn", "(III)V"⟩ ⟨"BookBarge$World", "takeIn", "(III)V"⟩ ∈ zGT := zGT_mem 1059 (by decide +kernel) (by decide +kernel)
theorem zw1060 : Cond.code ⟨"BookBarge$World", "takeIn", "(III)V"⟩ cX10_takeIn 5 (none : Option FieldType) ∈ zGT := zGT_mem 1060 (by decide +kernel) (by decide +kernel)
theorem zw1061 : Cond.methodLink RX10 32 Lib.Math.min.name ∈ zGT := zGT_mem 1061 (by decide +kernel) (by decide +kernel)
theorem zw1062 : Cond.methodLink RX10 72 ⟨"BookBarge$World", "putAboard", "(III)V"⟩ ∈ zGT := zGT_mem 1062 (by decide +kernel) (by decide +kernel)
theorem zw1063 : Cond.instanceMethod ⟨"BookBarge$World", "putAboard", "(III)V"⟩ ∈ zGT := zGT_mem 1063 (by decide +kernel) (by decide +kernel)
theorem zw1064 : Cond.selects "BookBarge$World" ⟨"BookBarge$World", "putAboard", "(III)V"⟩ ⟨"BookBarge$World", "putAboard", "(III)V"⟩ ∈ zGT := zGT_mem 1064 (by decide +kernel) (by decide +kernel)
theorem zw1065 : Cond.code ⟨"BookBarge$World", "putAboard", "(III)V"⟩ cX10_putAboard 4 (none : Option FieldType) ∈ zGT := zGT_mem 1065 (by decide +kernel) (by decide +kernel)
theorem zw1074 : Cond.methodLink RX11 201 ⟨"BookBarge$World", "bargesMeet", "()Z"⟩ ∈ zGT := zGT_mem 1074 (by decide +kernel) (by decide +kernel)
theorem zw1075 : Cond.instanceMethod ⟨"BookBarge$World", "bargesMeet", "()Z"⟩ ∈ zGT := zGT_mem 1075 (by decide +kernel) (by decide +kernel)
theorem zw1076 : Cond.selects "BookBarge$World" ⟨"BookBarge$World", "bargesMeet", "()Z"⟩ ⟨"BookBarge$World", "bargesMeet", "()Z"⟩ ∈ zGT := zGT_mem 1076 (by decide +kernel) (by decide +kernel)
theorem zw1077 : Cond.code ⟨"BookBarge$World", "bargesMeet", "()Z"⟩ cX10_bargesMeet 1 (some FieldType.boolean) ∈ zGT := zGT_mem 1077 (by decide +kernel) (by decide +kernel)
theorem zw1078 : Cond.methodLink RX11 205 ⟨"BookBarge$World", "putAboard", "(III)V"⟩ ∈ zGT := zGT_mem 1078 (by decide +kernel) (by decide +kernel)
theorem zw1087 : Cond.methodLink RX11 208 ⟨"BookBarge$World", "passNight", "()V"⟩ ∈ zGT := zGT_mem 1087 (by decide +kernel) (by decide +kernel)
theorem zw1088 : Cond.instanceMethod ⟨"BookBarge$World", "passNight", "()V"⟩ ∈ zGT := zGT_mem 1088 (by decide +kernel) (by decide +kernel)
theorem zw1089 : Cond.selects "BookBarge$World" ⟨"BookBarge$World", "passNight", "()V"⟩ ⟨"BookBarge$World", "passNight", "()V"⟩ ∈ zGT := zGT_mem 1089 (by decide +kernel) (by decide +kernel)
theorem zw1090 : Cond.code ⟨"BookBarge$World", "passNight", "()V"⟩ cX10_passNight 3 (none : Option FieldType) ∈ zGT := zGT_mem 1090 (by decide +kernel) (by decide +kernel)
theorem zw1091 : Cond.methodLink RX10 76 ⟨"BookBarge$World", "isOpen", "(I)Z"⟩ ∈ zGT := zGT_mem 1091 (by decide +kernel) (by decide +kernel)
theorem zw1092 : Cond.instanceMethod ⟨"BookBarge$World", "isOpen", "(I)Z"⟩ ∈ zGT := zGT_mem 1092 (by decide +kernel) (by decide +kernel)
theorem zw1093 : Cond.selects "BookBarge$World" ⟨"BookBarge$World", "isOpen", "(I)Z"⟩ ⟨"BookBarge$World", "isOpen", "(I)Z"⟩ ∈ zGT := zGT_mem 1093 (by decide +kernel) (by decide +kernel)
theorem zw1094 : Cond.code ⟨"BookBarge$World", "isOpen", "(I)Z"⟩ cX10_isOpen 2 (some FieldType.boolean) ∈ zGT := zGT_mem 1094 (by decide +kernel) (by decide +kernel)
theorem zw1095 : Cond.methodLink RX10 63 ⟨"BookBarge$World", "hasHole", "(I)Z"⟩ ∈ zGT := zGT_mem 1095 (by decide +kernel) (by decide +kernel)
theorem zw1096 : Cond.instanceMethod ⟨"BookBarge$World", "hasHole", "(I)Z"⟩ ∈ zGT := zGT_mem 1096 (by decide +kernel) (by decide +kernel)
theorem zw1097 : Cond.selects "BookBarge$World" ⟨"BookBarge$World", "hasHole", "(I)Z"⟩ ⟨"BookBarge$World", "hasHole", "(I)Z"⟩ ∈ zGT := zGT_mem 1097 (by decide +kernel) (by decide +kernel)
theorem zw1098 : Cond.code ⟨"BookBarge$World", "hasHole", "(I)Z"⟩ cX10_hasHole 2 (some FieldType.boolean) ∈ zGT := zGT_mem 1098 (by decide +kernel) (by decide +kernel)
theorem zw1103 : Cond.methodLink RX11 211 ⟨"BookBarge$World", "canRain", "()Z"⟩ ∈ zGT := zGT_mem 1103 (by decide +kernel) (by decide +kernel)
theorem zw1104 : Cond.instanceMethod ⟨"BookBarge$World", "canRain", "()Z"⟩ ∈ zGT := zGT_mem 1104 (by decide +kernel) (by decide +kernel)
theorem zw1105 : Cond.selects "BookBarge$World" ⟨"BookBarge$World", "canRain", "()Z"⟩ ⟨"BookBarge$World", "canRain", "()Z"⟩ ∈ zGT := zGT_mem 1105 (by decide +kernel) (by decide +kernel)
theorem zw1106 : Cond.code ⟨"BookBarge$World", "canRain", "()Z"⟩ cX10_canRain 2 (some FieldType.boolean) ∈ zGT := zGT_mem 1106 (by decide +kernel) (by decide +kernel)
theorem zw1107 : Cond.methodLink RX10 79 ⟨"BookBarge$World", "canBeWetter", "(I)Z"⟩ ∈ zGT := zGT_mem 1107 (by decide +kernel) (by decide +kernel)
theorem zw1108 : Cond.instanceMethod ⟨"BookBarge$World", "canBeWetter", "(I)Z"⟩ ∈ zGT := zGT_mem 1108 (by decide +kernel) (by decide +kernel)
theorem zw1109 : Cond.selects "BookBarge$World" ⟨"BookBarge$World", "canBeWetter", "(I)Z"⟩ ⟨"BookBarge$World", "canBeWetter", "(I)Z"⟩ ∈ zGT := zGT_mem 1109 (by decide +kernel) (by decide +kernel)
theorem zw1110 : Cond.code ⟨"BookBarge$World", "canBeWetter", "(I)Z"⟩ cX10_canBeWetter 2 (some FieldType.boolean) ∈ zGT := zGT_mem 1110 (by decide +kernel) (by decide +kernel)
theorem zw1111 : Cond.methodLink RX10 66 ⟨"BookBarge$World", "bargeOf", "(I)I"⟩ ∈ zGT := zGT_mem 1111 (by decide +kernel) (by decide +kernel)
theorem zw1112 : Cond.methodLink RX11 214 ⟨"BookBarge$World", "wetAboard", "()I"⟩ ∈ zGT := zGT_mem 1112 (by decide +kernel) (by decide +kernel)
theorem zw1113 : Cond.instanceMethod ⟨"BookBarge$World", "wetAboard", "()I"⟩ ∈ zGT := zGT_mem 1113 (by decide +kernel) (by decide +kernel)
theorem zw1114 : Cond.selects "BookBarge$World" ⟨"BookBarge$World", "wetAboard", "()I"⟩ ⟨"BookBarge$World", "wetAboard", "()I"⟩ ∈ zGT := zGT_mem 1114 (by decide +kernel) (by decide +kernel)
theorem zw1115 : Cond.code ⟨"BookBarge$World", "wetAboard", "()I"⟩ cX10_wetAboard 3 (some FieldType.int) ∈ zGT := zGT_mem 1115 (by decide +kernel) (by decide +kernel)
theorem zw1124 : Cond.methodLink RX11 218 ⟨"BookBarge$World", "isOpen", "(I)Z"⟩ ∈ zGT := zGT_mem 1124 (by decide +kernel) (by decide +kernel)
theorem zw1125 : Cond.methodLink RX11 221 ⟨"BookBarge$World", "fits", "(II)Z"⟩ ∈ zGT := zGT_mem 1125 (by decide +kernel) (by decide +kernel)
theorem zw1126 : Cond.instanceMethod ⟨"BookBarge$World", "fits", "(II)Z"⟩ ∈ zGT := zGT_mem 1126 (by decide +kernel) (by decide +kernel)
theorem zw1127 : Cond.selects "BookBarge$World" ⟨"BookBarge$World", "fits", "(II)Z"⟩ ⟨"BookBarge$World", "fits", "(II)Z"⟩ ∈ zGT := zGT_mem 1127 (by decide +kernel) (by decide +kernel)
theorem zw1128 : Cond.code ⟨"BookBarge$World", "fits", "(II)Z"⟩ cX10_fits 4 (some FieldType.boolean) ∈ zGT := zGT_mem 1128 (by decide +kernel) (by decide +kernel)
theorem zw1133 : Cond.methodLink RX11 224 ⟨"BookBarge$World", "hasHole", "(I)Z"⟩ ∈ zGT := zGT_mem 1133 (by decide +kernel) (by decide +kernel)
theorem zw1142 : Cond.methodLink RX11 233 ⟨"BookBarge", "hasRule", "(I)Z"⟩ ∈ zGT := zGT_mem 1142 (by decide +kernel) (by decide +kernel)
theorem zw1144 : Cond.instanceMethod ⟨"BookBarge", "hasRule", "(I)Z"⟩ ∈ zGT := zGT_mem 1144 (by decide +kernel) (by decide +kernel)
theorem zw1145 : Cond.code ⟨"BookBarge", "hasRule", "(I)Z"⟩ cX11_hasRule 2 (some FieldType.boolean) ∈ zGT := zGT_mem 1145 (by decide +kernel) (by decide +kernel)
theorem zw1146 : Cond.methodLink RX11 236 ⟨"BookBarge$Journey", "begin", "(LBookBarge$World;LBookBarge$Rule;I)V"⟩ ∈ zGT := zGT_mem 1146 (by decide +kernel) (by decide +kernel)
theorem zw1147 : Cond.instanceMethod ⟨"BookBarge$Journey", "begin", "(LBookBarge$World;LBookBarge$Rule;I)V"⟩ ∈ zGT := zGT_mem 1147 (by decide +kernel) (by decide +kernel)
theorem zw1148 : Cond.selects "BookBarge$Journey" ⟨"BookBarge$Journey", "begin", "(LBookBarge$World;LBookBarge$Rule;I)V"⟩ ⟨"BookBarge$Journey", "begin", "(LBookBarge$World;LBookBarge$Rule;I)V"⟩ ∈ zGT := zGT_mem 1148 (by decide +kernel) (by decide +kernel)
theorem zw1149 : Cond.code ⟨"BookBarge$Journey", "begin", "(LBookBarge$World;LBookBarge$Rule;I)V"⟩ cX1_begin 4 (none : Option FieldType) ∈ zGT := zGT_mem 1149 (by decide +kernel) (by decide +kernel)
theorem zw1150 : Cond.methodLink RX11 240 ⟨"BookBarge$Journey", "goOneStop", "()Z"⟩ ∈ zGT := zGT_mem 1150 (by decide +kernel) (by decide +kernel)
theorem zw1151 : Cond.instanceMethod ⟨"BookBarge$Journey", "goOneStop", "()Z"⟩ ∈ zGT := zGT_mem 1151 (by decide +kernel) (by decide +kernel)
theorem zw1152 : Cond.selects "BookBarge$Journey" ⟨"BookBarge$Journey", "goOneStop", "()Z"⟩ ⟨"BookBarge$Journey", "goOneStop", "()Z"⟩ ∈ zGT := zGT_mem 1152 (by decide +kernel) (by decide +kernel)
theorem zw1153 : Cond.code ⟨"BookBarge$Journey", "goOneStop", "()Z"⟩ cX1_goOneStop 2 (some FieldType.boolean) ∈ zGT := zGT_mem 1153 (by decide +kernel) (by decide +kernel)
theorem zw1154 : Cond.methodLink RX1 72 ⟨"BookBarge$World", "hasBarge", "(I)Z"⟩ ∈ zGT := zGT_mem 1154 (by decide +kernel) (by decide +kernel)
theorem zw1155 : Cond.methodLink RX1 76 ⟨"BookBarge$Journey", "tellBarge", "()V"⟩ ∈ zGT := zGT_mem 1155 (by decide +kernel) (by decide +kernel)
theorem zw1157 : Cond.instanceMethod ⟨"BookBarge$Journey", "tellBarge", "()V"⟩ ∈ zGT := zGT_mem 1157 (by decide +kernel) (by decide +kernel)
theorem zw1158 : Cond.code ⟨"BookBarge$Journey", "tellBarge", "()V"⟩ cX1_tellBarge 1 (none : Option FieldType) ∈ zGT := zGT_mem 1158 (by decide +kernel) (by decide +kernel)
theorem zw1159 : Cond.methodLink RX1 52 ⟨"BookBarge$Journey", "here", "()I"⟩ ∈ zGT := zGT_mem 1159 (by decide +kernel) (by decide +kernel)
theorem zw1161 : Cond.instanceMethod ⟨"BookBarge$Journey", "here", "()I"⟩ ∈ zGT := zGT_mem 1161 (by decide +kernel) (by decide +kernel)
theorem zw1162 : Cond.code ⟨"BookBarge$Journey", "here", "()I"⟩ cX1_here 1 (some FieldType.int) ∈ zGT := zGT_mem 1162 (by decide +kernel) (by decide +kernel)
theorem zw1163 : Cond.methodLink RX1 48 ⟨"BookBarge$World", "cell", "(II)I"⟩ ∈ zGT := zGT_mem 1163 (by decide +kernel) (by decide +kernel)
theorem zw1164 : Cond.methodLink RX1 56 ⟨"BookBarge$World", "depthOf", "(I)I"⟩ ∈ zGT := zGT_mem 1164 (by decide +kernel) (by decide +kernel)
theorem zw1165 : Cond.methodLink RX1 60 ⟨"BookBarge$World", "draughtOf", "(I)I"⟩ ∈ zGT := zGT_mem 1165 (by decide +kernel) (by decide +kernel)
theorem zw1166 : Cond.methodLink RX1 79 ⟨"BookBarge$Journey", "fetchByRule", "()V"⟩ ∈ zGT := zGT_mem 1166 (by decide +kernel) (by decide +kernel)
theorem zw1168 : Cond.instanceMethod ⟨"BookBarge$Journey", "fetchByRule", "()V"⟩ ∈ zGT := zGT_mem 1168 (by decide +kernel) (by decide +kernel)
theorem zw1169 : Cond.code ⟨"BookBarge$Journey", "fetchByRule", "()V"⟩ cX1_fetchByRule 2 (none : Option FieldType) ∈ zGT := zGT_mem 1169 (by decide +kernel) (by decide +kernel)
theorem zw1170 : Cond.methodLink RX1 95 ⟨"BookBarge$World", "canFetch", "(II)Z"⟩ ∈ zGT := zGT_mem 1170 (by decide +kernel) (by decide +kernel)
theorem zw1171 : Cond.methodLink RX1 99 ⟨"BookBarge$Journey", "tellBook", "(I)V"⟩ ∈ zGT := zGT_mem 1171 (by decide +kernel) (by decide +kernel)
theorem zw1173 : Cond.instanceMethod ⟨"BookBarge$Journey", "tellBook", "(I)V"⟩ ∈ zGT := zGT_mem 1173 (by decide +kernel) (by decide +kernel)
theorem zw1174 : Cond.code ⟨"BookBarge$Journey", "tellBook", "(I)V"⟩ cX1_tellBook 2 (none : Option FieldType) ∈ zGT := zGT_mem 1174 (by decide +kernel) (by decide +kernel)
theorem zw1175 : Cond.methodLink RX1 63 ⟨"BookBarge$World", "heavy", "(I)I"⟩ ∈ zGT := zGT_mem 1175 (by decide +kernel) (by decide +kernel)
theorem zw1176 : Cond.instanceMethod ⟨"BookBarge$World", "heavy", "(I)I"⟩ ∈ zGT := zGT_mem 1176 (by decide +kernel) (by decide +kernel)
theorem zw1177 : Cond.selects "BookBarge$World" ⟨"BookBarge$World", "heavy", "(I)I"⟩ ⟨"BookBarge$World", "heavy", "(I)I"⟩ ∈ zGT := zGT_mem 1177 (by decide +kernel) (by decide +kernel)
theorem zw1178 : Cond.code ⟨"BookBarge$World", "heavy", "(I)I"⟩ cX10_heavy 2 (some FieldType.int) ∈ zGT := zGT_mem 1178 (by decide +kernel) (by decide +kernel)
theorem zw1179 : Cond.methodLink RX1 66 ⟨"BookBarge$World", "keenestReader", "(II)I"⟩ ∈ zGT := zGT_mem 1179 (by decide +kernel) (by decide +kernel)
theorem zw1180 : Cond.instanceMethod ⟨"BookBarge$World", "keenestReader", "(II)I"⟩ ∈ zGT := zGT_mem 1180 (by decide +kernel) (by decide +kernel)
theorem zw1181 : Cond.selects "BookBarge$World" ⟨"BookBarge$World", "keenestReader", "(II)I"⟩ ⟨"BookBarge$World", "keenestReader", "(II)I"⟩ ∈ zGT := zGT_mem 1181 (by decide +kernel) (by decide +kernel)
theorem zw1182 : Cond.code ⟨"BookBarge$World", "keenestReader", "(II)I"⟩ cX10_keenestReader 7 (some FieldType.int) ∈ zGT := zGT_mem 1182 (by decide +kernel) (by decide +kernel)
theorem zw1183 : Cond.methodLink RX1 69 ⟨"BookBarge$World", "coins", "(II)I"⟩ ∈ zGT := zGT_mem 1183 (by decide +kernel) (by decide +kernel)
theorem zw1184 : Cond.methodLink RX1 105 ⟨"BookBarge$Rule", "firstClause", "(II[J)I"⟩ ∈ zGT := zGT_mem 1184 (by decide +kernel) (by decide +kernel)
theorem zw1185 : Cond.instanceMethod ⟨"BookBarge$Rule", "firstClause", "(II[J)I"⟩ ∈ zGT := zGT_mem 1185 (by decide +kernel) (by decide +kernel)
theorem zw1186 : Cond.selects "BookBarge$Rule" ⟨"BookBarge$Rule", "firstClause", "(II[J)I"⟩ ⟨"BookBarge$Rule", "firstClause", "(II[J)I"⟩ ∈ zGT := zGT_mem 1186 (by decide +kernel) (by decide +kernel)
theorem zw1187 : Cond.code ⟨"BookBarge$Rule", "firstClause", "(II[J)I"⟩ cX7_firstClause 7 (some FieldType.int) ∈ zGT := zGT_mem 1187 (by decide +kernel) (by decide +kernel)
theorem zw1188 : Cond.methodLink RX7 22 ⟨"BookBarge$Rule", "part", "(II)I"⟩ ∈ zGT := zGT_mem 1188 (by decide +kernel) (by decide +kernel)
theorem zw1189 : Cond.instanceMethod ⟨"BookBarge$Rule", "part", "(II)I"⟩ ∈ zGT := zGT_mem 1189 (by decide +kernel) (by decide +kernel)
theorem zw1190 : Cond.selects "BookBarge$Rule" ⟨"BookBarge$Rule", "part", "(II)I"⟩ ⟨"BookBarge$Rule", "part", "(II)I"⟩ ∈ zGT := zGT_mem 1190 (by decide +kernel) (by decide +kernel)
theorem zw1191 : Cond.code ⟨"BookBarge$Rule", "part", "(II)I"⟩ cX7_part 4 (some FieldType.int) ∈ zGT := zGT_mem 1191 (by decide +kernel) (by decide +kernel)
theorem zw1192 : Cond.methodLink RX7 26 ⟨"BookBarge$Rule", "worked", "(II[J)J"⟩ ∈ zGT := zGT_mem 1192 (by decide +kernel) (by decide +kernel)
theorem zw1194 : Cond.instanceMethod ⟨"BookBarge$Rule", "worked", "(II[J)J"⟩ ∈ zGT := zGT_mem 1194 (by decide +kernel) (by decide +kernel)
theorem zw1195 : Cond.code ⟨"BookBarge$Rule", "worked", "(II[J)J"⟩ cX7_worked 8 (some FieldType.long) ∈ zGT := zGT_mem 1195 (by decide +kernel) (by decide +kernel)
theorem zw1196 : Cond.methodLink RX7 30 Lib.Math.max.name ∈ zGT := zGT_mem 1196 (by decide +kernel) (by decide +kernel)
theorem zw1197 : Cond.constant RX7 35 200000 ∈ zGT := zGT_mem 1197 (by decide +kernel) (by decide +kernel)
theorem zw1198 : Cond.constant RX7 36 100000 ∈ zGT := zGT_mem 1198 (by decide +kernel) (by decide +kernel)
theorem zw1199 : Cond.constant RX7 37 200011 ∈ zGT := zGT_mem 1199 (by decide +kernel) (by decide +kernel)
theorem zw1200 : Cond.methodLink RX7 38 ⟨"BookBarge$Rule", "joined", "(IJJ)J"⟩ ∈ zGT := zGT_mem 1200 (by decide +kernel) (by decide +kernel)
theorem zw1201 : Cond.static ⟨"BookBarge$Rule", "joined", "(IJJ)J"⟩ ∈ zGT := zGT_mem 1201 (by decide +kernel) (by decide +kernel)
theorem zw1202 : Cond.code ⟨"BookBarge$Rule", "joined", "(IJJ)J"⟩ cX7_joined 5 (some FieldType.long) ∈ zGT := zGT_mem 1202 (by decide +kernel) (by decide +kernel)
theorem zw1203 : Cond.methodLink RX1 109 ⟨"BookBarge$World", "shelfOf", "(II)I"⟩ ∈ zGT := zGT_mem 1203 (by decide +kernel) (by decide +kernel)
theorem zw1204 : Cond.instanceMethod ⟨"BookBarge$World", "shelfOf", "(II)I"⟩ ∈ zGT := zGT_mem 1204 (by decide +kernel) (by decide +kernel)
theorem zw1205 : Cond.selects "BookBarge$World" ⟨"BookBarge$World", "shelfOf", "(II)I"⟩ ⟨"BookBarge$World", "shelfOf", "(II)I"⟩ ∈ zGT := zGT_mem 1205 (by decide +kernel) (by decide +kernel)
theorem zw1206 : Cond.code ⟨"BookBarge$World", "shelfOf", "(II)I"⟩ cX10_shelfOf 3 (some FieldType.int) ∈ zGT := zGT_mem 1206 (by decide +kernel) (by decide +kernel)
theorem zw1207 : Cond.methodLink RX1 112 ⟨"BookBarge$World", "takeIn", "(III)V"⟩ ∈ zGT := zGT_mem 1207 (by decide +kernel) (by decide +kernel)
theorem zw1208 : Cond.methodLink RX1 82 ⟨"BookBarge$Journey", "shiftByRule", "()V"⟩ ∈ zGT := zGT_mem 1208 (by decide +kernel) (by decide +kernel)
theorem zw1210 : Cond.instanceMethod ⟨"BookBarge$Journey", "shiftByRule", "()V"⟩ ∈ zGT := zGT_mem 1210 (by decide +kernel) (by decide +kernel)
theorem zw1211 : Cond.code ⟨"BookBarge$Journey", "shiftByRule", "()V"⟩ cX1_shiftByRule 3 (none : Option FieldType) ∈ zGT := zGT_mem 1211 (by decide +kernel) (by decide +kernel)
theorem zw1212 : Cond.methodLink RX1 116 ⟨"BookBarge$World", "bargeOf", "(I)I"⟩ ∈ zGT := zGT_mem 1212 (by decide +kernel) (by decide +kernel)
theorem zw1213 : Cond.methodLink RX1 119 ⟨"BookBarge$Rule", "part", "(II)I"⟩ ∈ zGT := zGT_mem 1213 (by decide +kernel) (by decide +kernel)
theorem zw1214 : Cond.methodLink RX1 122 ⟨"BookBarge$World", "putAboard", "(III)V"⟩ ∈ zGT := zGT_mem 1214 (by decide +kernel) (by decide +kernel)
theorem zw1215 : Cond.methodLink RX1 85 ⟨"BookBarge$World", "hasStop", "(I)Z"⟩ ∈ zGT := zGT_mem 1215 (by decide +kernel) (by decide +kernel)
theorem zw1216 : Cond.methodLink RX1 88 ⟨"BookBarge$Journey", "lightenByRule", "(I)Z"⟩ ∈ zGT := zGT_mem 1216 (by decide +kernel) (by decide +kernel)
theorem zw1218 : Cond.instanceMethod ⟨"BookBarge$Journey", "lightenByRule", "(I)Z"⟩ ∈ zGT := zGT_mem 1218 (by decide +kernel) (by decide +kernel)
theorem zw1219 : Cond.code ⟨"BookBarge$Journey", "lightenByRule", "(I)Z"⟩ cX1_lightenByRule 4 (some FieldType.boolean) ∈ zGT := zGT_mem 1219 (by decide +kernel) (by decide +kernel)
theorem zw1220 : Cond.methodLink RX1 125 ⟨"BookBarge$Journey", "bookByRule", "()I"⟩ ∈ zGT := zGT_mem 1220 (by decide +kernel) (by decide +kernel)
theorem zw1222 : Cond.instanceMethod ⟨"BookBarge$Journey", "bookByRule", "()I"⟩ ∈ zGT := zGT_mem 1222 (by decide +kernel) (by decide +kernel)
theorem zw1223 : Cond.code ⟨"BookBarge$Journey", "bookByRule", "()I"⟩ cX1_bookByRule 8 (some FieldType.int) ∈ zGT := zGT_mem 1223 (by decide +kernel) (by decide +kernel)
theorem zw1224 : Cond.methodLink RX1 135 ⟨"BookBarge$Rule", "sum", "(I[J)J"⟩ ∈ zGT := zGT_mem 1224 (by decide +kernel) (by decide +kernel)
theorem zw1225 : Cond.instanceMethod ⟨"BookBarge$Rule", "sum", "(I[J)J"⟩ ∈ zGT := zGT_mem 1225 (by decide +kernel) (by decide +kernel)
theorem zw1226 : Cond.selects "BookBarge$Rule" ⟨"BookBarge$Rule", "sum", "(I[J)J"⟩ ⟨"BookBarge$Rule", "sum", "(I[J)J"⟩ ∈ zGT := zGT_mem 1226 (by decide +kernel) (by decide +kernel)
theorem zw1227 : Cond.code ⟨"BookBarge$Rule", "sum", "(I[J)J"⟩ cX7_sum 3 (some FieldType.long) ∈ zGT := zGT_mem 1227 (by decide +kernel) (by decide +kernel)
theorem zw1228 : Cond.methodLink RX1 128 ⟨"BookBarge$World", "giveTo", "(III)V"⟩ ∈ zGT := zGT_mem 1228 (by decide +kernel) (by decide +kernel)
theorem zw1229 : Cond.methodLink RX1 131 ⟨"BookBarge$World", "putAshore", "(II)V"⟩ ∈ zGT := zGT_mem 1229 (by decide +kernel) (by decide +kernel)
theorem zw1234 : Cond.methodLink RX11 243 ⟨"BookBarge$World", "isFrom", "(II)Z"⟩ ∈ zGT := zGT_mem 1234 (by decide +kernel) (by decide +kernel)
theorem zw1235 : Cond.instanceMethod ⟨"BookBarge$World", "isFrom", "(II)Z"⟩ ∈ zGT := zGT_mem 1235 (by decide +kernel) (by decide +kernel)
theorem zw1236 : Cond.selects "BookBarge$World" ⟨"BookBarge$World", "isFrom", "(II)Z"⟩ ⟨"BookBarge$World", "isFrom", "(II)Z"⟩ ∈ zGT := zGT_mem 1236 (by decide +kernel) (by decide +kernel)
theorem zw1237 : Cond.code ⟨"BookBarge$World", "isFrom", "(II)Z"⟩ cX10_isFrom 3 (some FieldType.boolean) ∈ zGT := zGT_mem 1237 (by decide +kernel) (by decide +kernel)
theorem zw1238 : Cond.methodLink RX11 246 ⟨"BookBarge$Leaving", "find", "(LBookBarge$World;II)Z"⟩ ∈ zGT := zGT_mem 1238 (by decide +kernel) (by decide +kernel)
theorem zw1239 : Cond.instanceMethod ⟨"BookBarge$Leaving", "find", "(LBookBarge$World;II)Z"⟩ ∈ zGT := zGT_mem 1239 (by decide +kernel) (by decide +kernel)
theorem zw1240 : Cond.selects "BookBarge$Leaving" ⟨"BookBarge$Leaving", "find", "(LBookBarge$World;II)Z"⟩ ⟨"BookBarge$Leaving", "find", "(LBookBarge$World;II)Z"⟩ ∈ zGT := zGT_mem 1240 (by decide +kernel) (by decide +kernel)
theorem zw1241 : Cond.code ⟨"BookBarge$Leaving", "find", "(LBookBarge$World;II)Z"⟩ cX2_find 5 (some FieldType.boolean) ∈ zGT := zGT_mem 1241 (by decide +kernel) (by decide +kernel)
theorem zw1242 : Cond.methodLink RX2 42 ⟨"BookBarge$World", "cell", "(II)I"⟩ ∈ zGT := zGT_mem 1242 (by decide +kernel) (by decide +kernel)
theorem zw1243 : Cond.constant RX2 46 1000000000 ∈ zGT := zGT_mem 1243 (by decide +kernel) (by decide +kernel)
theorem zw1244 : Cond.methodLink RX2 47 ⟨"BookBarge$World", "depthOf", "(I)I"⟩ ∈ zGT := zGT_mem 1244 (by decide +kernel) (by decide +kernel)
theorem zw1245 : Cond.methodLink RX2 51 Lib.Math.min.name ∈ zGT := zGT_mem 1245 (by decide +kernel) (by decide +kernel)
theorem zw1246 : Cond.methodLink RX2 56 ⟨"BookBarge$World", "bargeOf", "(I)I"⟩ ∈ zGT := zGT_mem 1246 (by decide +kernel) (by decide +kernel)
theorem zw1247 : Cond.methodLink RX2 59 ⟨"BookBarge$World", "heavy", "(I)I"⟩ ∈ zGT := zGT_mem 1247 (by decide +kernel) (by decide +kernel)
theorem zw1248 : Cond.methodLink RX2 61 ⟨"BookBarge$World", "arm", "(II)I"⟩ ∈ zGT := zGT_mem 1248 (by decide +kernel) (by decide +kernel)
theorem zw1249 : Cond.instanceMethod ⟨"BookBarge$World", "arm", "(II)I"⟩ ∈ zGT := zGT_mem 1249 (by decide +kernel) (by decide +kernel)
theorem zw1250 : Cond.selects "BookBarge$World" ⟨"BookBarge$World", "arm", "(II)I"⟩ ⟨"BookBarge$World", "arm", "(II)I"⟩ ∈ zGT := zGT_mem 1250 (by decide +kernel) (by decide +kernel)
theorem zw1251 : Cond.code ⟨"BookBarge$World", "arm", "(II)I"⟩ cX10_arm 3 (some FieldType.int) ∈ zGT := zGT_mem 1251 (by decide +kernel) (by decide +kernel)
theorem zw1252 : Cond.methodLink RX2 64 ⟨"BookBarge$World", "loadOf", "(I)I"⟩ ∈ zGT := zGT_mem 1252 (by decide +kernel) (by decide +kernel)
theorem zw1253 : Cond.methodLink RX2 67 ⟨"BookBarge$World", "tiltOf", "(I)I"⟩ ∈ zGT := zGT_mem 1253 (by decide +kernel) (by decide +kernel)
theorem zw1254 : Cond.methodLink RX2 70 ⟨"BookBarge$Leaving", "search", "(IIIIII)V"⟩ ∈ zGT := zGT_mem 1254 (by decide +kernel) (by decide +kernel)
theorem zw1256 : Cond.instanceMethod ⟨"BookBarge$Leaving", "search", "(IIIIII)V"⟩ ∈ zGT := zGT_mem 1256 (by decide +kernel) (by decide +kernel)
theorem zw1257 : Cond.code ⟨"BookBarge$Leaving", "search", "(IIIIII)V"⟩ cX2_search 7 (none : Option FieldType) ∈ zGT := zGT_mem 1257 (by decide +kernel) (by decide +kernel)
theorem zw1258 : Cond.methodLink RX2 74 ⟨"BookBarge$World", "draughtBy", "(IIII)I"⟩ ∈ zGT := zGT_mem 1258 (by decide +kernel) (by decide +kernel)
theorem zw1263 : Cond.methodLink RX11 256 ⟨"BookBarge$Lending", "mostCoins", "(LBookBarge$World;IIII)I"⟩ ∈ zGT := zGT_mem 1263 (by decide +kernel) (by decide +kernel)
theorem zw1264 : Cond.instanceMethod ⟨"BookBarge$Lending", "mostCoins", "(LBookBarge$World;IIII)I"⟩ ∈ zGT := zGT_mem 1264 (by decide +kernel) (by decide +kernel)
theorem zw1265 : Cond.selects "BookBarge$Lending" ⟨"BookBarge$Lending", "mostCoins", "(LBookBarge$World;IIII)I"⟩ ⟨"BookBarge$Lending", "mostCoins", "(LBookBarge$World;IIII)I"⟩ ∈ zGT := zGT_mem 1265 (by decide +kernel) (by decide +kernel)
theorem zw1266 : Cond.code ⟨"BookBarge$Lending", "mostCoins", "(LBookBarge$World;IIII)I"⟩ cX3_mostCoins 7 (some FieldType.int) ∈ zGT := zGT_mem 1266 (by decide +kernel) (by decide +kernel)
theorem zw1267 : Cond.methodLink RX3 66 ⟨"BookBarge$World", "cell", "(II)I"⟩ ∈ zGT := zGT_mem 1267 (by decide +kernel) (by decide +kernel)
theorem zw1268 : Cond.methodLink RX3 70 ⟨"BookBarge$World", "loadOf", "(I)I"⟩ ∈ zGT := zGT_mem 1268 (by decide +kernel) (by decide +kernel)
theorem zw1269 : Cond.methodLink RX3 74 ⟨"BookBarge$World", "tiltOf", "(I)I"⟩ ∈ zGT := zGT_mem 1269 (by decide +kernel) (by decide +kernel)
theorem zw1270 : Cond.methodLink RX3 77 ⟨"BookBarge$World", "depthOf", "(I)I"⟩ ∈ zGT := zGT_mem 1270 (by decide +kernel) (by decide +kernel)
theorem zw1271 : Cond.methodLink RX3 80 ⟨"BookBarge$World", "bargeOf", "(I)I"⟩ ∈ zGT := zGT_mem 1271 (by decide +kernel) (by decide +kernel)
theorem zw1272 : Cond.methodLink RX3 83 ⟨"BookBarge$World", "heavy", "(I)I"⟩ ∈ zGT := zGT_mem 1272 (by decide +kernel) (by decide +kernel)
theorem zw1273 : Cond.methodLink RX3 85 ⟨"BookBarge$World", "arm", "(II)I"⟩ ∈ zGT := zGT_mem 1273 (by decide +kernel) (by decide +kernel)
theorem zw1274 : Cond.methodLink RX3 88 ⟨"BookBarge$Lending", "noteGains", "(LBookBarge$World;IZ)I"⟩ ∈ zGT := zGT_mem 1274 (by decide +kernel) (by decide +kernel)
theorem zw1276 : Cond.instanceMethod ⟨"BookBarge$Lending", "noteGains", "(LBookBarge$World;IZ)I"⟩ ∈ zGT := zGT_mem 1276 (by decide +kernel) (by decide +kernel)
theorem zw1277 : Cond.code ⟨"BookBarge$Lending", "noteGains", "(LBookBarge$World;IZ)I"⟩ cX3_noteGains 9 (some FieldType.int) ∈ zGT := zGT_mem 1277 (by decide +kernel) (by decide +kernel)
theorem zw1278 : Cond.methodLink RX3 96 ⟨"BookBarge$World", "hasReader", "(I)Z"⟩ ∈ zGT := zGT_mem 1278 (by decide +kernel) (by decide +kernel)
theorem zw1279 : Cond.methodLink RX3 100 ⟨"BookBarge$World", "coins", "(II)I"⟩ ∈ zGT := zGT_mem 1279 (by decide +kernel) (by decide +kernel)
theorem zw1280 : Cond.methodLink RX3 103 Lib.Math.max.name ∈ zGT := zGT_mem 1280 (by decide +kernel) (by decide +kernel)
theorem zw1281 : Cond.methodLink RX3 92 ⟨"BookBarge$Lending", "search", "(III)V"⟩ ∈ zGT := zGT_mem 1281 (by decide +kernel) (by decide +kernel)
theorem zw1283 : Cond.instanceMethod ⟨"BookBarge$Lending", "search", "(III)V"⟩ ∈ zGT := zGT_mem 1283 (by decide +kernel) (by decide +kernel)
theorem zw1284 : Cond.code ⟨"BookBarge$Lending", "search", "(III)V"⟩ cX3_search 8 (none : Option FieldType) ∈ zGT := zGT_mem 1284 (by decide +kernel) (by decide +kernel)
theorem zw1285 : Cond.methodLink RX3 108 ⟨"BookBarge$Lending", "passesAll", "()Z"⟩ ∈ zGT := zGT_mem 1285 (by decide +kernel) (by decide +kernel)
theorem zw1287 : Cond.instanceMethod ⟨"BookBarge$Lending", "passesAll", "()Z"⟩ ∈ zGT := zGT_mem 1287 (by decide +kernel) (by decide +kernel)
theorem zw1288 : Cond.code ⟨"BookBarge$Lending", "passesAll", "()Z"⟩ cX3_passesAll 4 (some FieldType.boolean) ∈ zGT := zGT_mem 1288 (by decide +kernel) (by decide +kernel)
theorem zw1289 : Cond.methodLink RX3 118 ⟨"BookBarge$World", "draughtBy", "(IIII)I"⟩ ∈ zGT := zGT_mem 1289 (by decide +kernel) (by decide +kernel)
theorem zw1290 : Cond.methodLink RX3 112 arraycopyName ∈ zGT := zGT_mem 1290 (by decide +kernel) (by decide +kernel)
theorem zw1291 : Cond.methodLink RX11 260 Lib.Math.max.name ∈ zGT := zGT_mem 1291 (by decide +kernel) (by decide +kernel)
theorem zw1300 : Cond.methodLink RX11 268 ⟨"BookBarge$World", "roomOn", "(III)I"⟩ ∈ zGT := zGT_mem 1300 (by decide +kernel) (by decide +kernel)
theorem zw1301 : Cond.instanceMethod ⟨"BookBarge$World", "roomOn", "(III)I"⟩ ∈ zGT := zGT_mem 1301 (by decide +kernel) (by decide +kernel)
theorem zw1302 : Cond.selects "BookBarge$World" ⟨"BookBarge$World", "roomOn", "(III)I"⟩ ⟨"BookBarge$World", "roomOn", "(III)I"⟩ ∈ zGT := zGT_mem 1302 (by decide +kernel) (by decide +kernel)
theorem zw1303 : Cond.code ⟨"BookBarge$World", "roomOn", "(III)I"⟩ cX10_roomOn 10 (some FieldType.int) ∈ zGT := zGT_mem 1303 (by decide +kernel) (by decide +kernel)
theorem zw1304 : Cond.methodLink RX10 82 ⟨"BookBarge$World", "arm", "(II)I"⟩ ∈ zGT := zGT_mem 1304 (by decide +kernel) (by decide +kernel)
theorem zw1309 : Cond.methodLink RX11 272 ⟨"BookBarge$Meeting", "find", "(LBookBarge$World;)Z"⟩ ∈ zGT := zGT_mem 1309 (by decide +kernel) (by decide +kernel)
theorem zw1310 : Cond.instanceMethod ⟨"BookBarge$Meeting", "find", "(LBookBarge$World;)Z"⟩ ∈ zGT := zGT_mem 1310 (by decide +kernel) (by decide +kernel)
theorem zw1311 : Cond.selects "BookBarge$Meeting" ⟨"BookBarge$Meeting", "find", "(LBookBarge$World;)Z"⟩ ⟨"BookBarge$Meeting", "find", "(LBookBarge$World;)Z"⟩ ∈ zGT := zGT_mem 1311 (by decide +kernel) (by decide +kernel)
theorem zw1312 : Cond.code ⟨"BookBarge$Meeting", "find", "(LBookBarge$World;)Z"⟩ cX4_find 6 (some FieldType.boolean) ∈ zGT := zGT_mem 1312 (by decide +kernel) (by decide +kernel)
theorem zw1313 : Cond.methodLink RX4 48 ⟨"BookBarge$World", "cell", "(II)I"⟩ ∈ zGT := zGT_mem 1313 (by decide +kernel) (by decide +kernel)
theorem zw1314 : Cond.methodLink RX4 52 ⟨"BookBarge$World", "hasStop", "(I)Z"⟩ ∈ zGT := zGT_mem 1314 (by decide +kernel) (by decide +kernel)
theorem zw1315 : Cond.methodLink RX4 56 ⟨"BookBarge$World", "depthOf", "(I)I"⟩ ∈ zGT := zGT_mem 1315 (by decide +kernel) (by decide +kernel)
theorem zw1316 : Cond.constant RX4 60 1000000000 ∈ zGT := zGT_mem 1316 (by decide +kernel) (by decide +kernel)
theorem zw1317 : Cond.methodLink RX4 61 ⟨"BookBarge$World", "bargeOf", "(I)I"⟩ ∈ zGT := zGT_mem 1317 (by decide +kernel) (by decide +kernel)
theorem zw1318 : Cond.methodLink RX4 64 ⟨"BookBarge$World", "heavy", "(I)I"⟩ ∈ zGT := zGT_mem 1318 (by decide +kernel) (by decide +kernel)
theorem zw1319 : Cond.methodLink RX4 66 ⟨"BookBarge$World", "shelfOf", "(II)I"⟩ ∈ zGT := zGT_mem 1319 (by decide +kernel) (by decide +kernel)
theorem zw1320 : Cond.methodLink RX4 69 ⟨"BookBarge$World", "arm", "(II)I"⟩ ∈ zGT := zGT_mem 1320 (by decide +kernel) (by decide +kernel)
theorem zw1321 : Cond.methodLink RX4 72 ⟨"BookBarge$World", "loadOf", "(I)I"⟩ ∈ zGT := zGT_mem 1321 (by decide +kernel) (by decide +kernel)
theorem zw1322 : Cond.methodLink RX4 75 ⟨"BookBarge$World", "tiltOf", "(I)I"⟩ ∈ zGT := zGT_mem 1322 (by decide +kernel) (by decide +kernel)
theorem zw1323 : Cond.methodLink RX4 78 ⟨"BookBarge$Meeting", "search", "(IIIIIII)V"⟩ ∈ zGT := zGT_mem 1323 (by decide +kernel) (by decide +kernel)
theorem zw1325 : Cond.instanceMethod ⟨"BookBarge$Meeting", "search", "(IIIIIII)V"⟩ ∈ zGT := zGT_mem 1325 (by decide +kernel) (by decide +kernel)
theorem zw1326 : Cond.code ⟨"BookBarge$Meeting", "search", "(IIIIIII)V"⟩ cX4_search 8 (none : Option FieldType) ∈ zGT := zGT_mem 1326 (by decide +kernel) (by decide +kernel)
theorem zw1327 : Cond.methodLink RX4 82 ⟨"BookBarge$World", "draughtBy", "(IIII)I"⟩ ∈ zGT := zGT_mem 1327 (by decide +kernel) (by decide +kernel)
theorem zw1332 : Cond.methodLink RX11 276 ⟨"BookBarge$Cargo", "find", "(LBookBarge$World;IIIZ)V"⟩ ∈ zGT := zGT_mem 1332 (by decide +kernel) (by decide +kernel)
theorem zw1333 : Cond.instanceMethod ⟨"BookBarge$Cargo", "find", "(LBookBarge$World;IIIZ)V"⟩ ∈ zGT := zGT_mem 1333 (by decide +kernel) (by decide +kernel)
theorem zw1334 : Cond.selects "BookBarge$Cargo" ⟨"BookBarge$Cargo", "find", "(LBookBarge$World;IIIZ)V"⟩ ⟨"BookBarge$Cargo", "find", "(LBookBarge$World;IIIZ)V"⟩ ∈ zGT := zGT_mem 1334 (by decide +kernel) (by decide +kernel)
theorem zw1335 : Cond.code ⟨"BookBarge$Cargo", "find", "(LBookBarge$World;IIIZ)V"⟩ cX0_find 8 (none : Option FieldType) ∈ zGT := zGT_mem 1335 (by decide +kernel) (by decide +kernel)
theorem zw1336 : Cond.methodLink RX0 47 ⟨"BookBarge$World", "cell", "(II)I"⟩ ∈ zGT := zGT_mem 1336 (by decide +kernel) (by decide +kernel)
theorem zw1337 : Cond.methodLink RX0 51 ⟨"BookBarge$Cargo", "noteCandidates", "(LBookBarge$World;I)I"⟩ ∈ zGT := zGT_mem 1337 (by decide +kernel) (by decide +kernel)
theorem zw1339 : Cond.instanceMethod ⟨"BookBarge$Cargo", "noteCandidates", "(LBookBarge$World;I)I"⟩ ∈ zGT := zGT_mem 1339 (by decide +kernel) (by decide +kernel)
theorem zw1340 : Cond.code ⟨"BookBarge$Cargo", "noteCandidates", "(LBookBarge$World;I)I"⟩ cX0_noteCandidates 7 (some FieldType.int) ∈ zGT := zGT_mem 1340 (by decide +kernel) (by decide +kernel)
theorem zw1341 : Cond.methodLink RX0 59 ⟨"BookBarge$World", "hasBook", "(I)Z"⟩ ∈ zGT := zGT_mem 1341 (by decide +kernel) (by decide +kernel)
theorem zw1342 : Cond.methodLink RX0 63 ⟨"BookBarge$World", "bargeOf", "(I)I"⟩ ∈ zGT := zGT_mem 1342 (by decide +kernel) (by decide +kernel)
theorem zw1343 : Cond.methodLink RX0 67 ⟨"BookBarge$World", "heavy", "(I)I"⟩ ∈ zGT := zGT_mem 1343 (by decide +kernel) (by decide +kernel)
theorem zw1344 : Cond.methodLink RX0 69 ⟨"BookBarge$World", "shelfOf", "(II)I"⟩ ∈ zGT := zGT_mem 1344 (by decide +kernel) (by decide +kernel)
theorem zw1345 : Cond.methodLink RX0 72 ⟨"BookBarge$World", "arm", "(II)I"⟩ ∈ zGT := zGT_mem 1345 (by decide +kernel) (by decide +kernel)
theorem zw1346 : Cond.methodLink RX0 55 ⟨"BookBarge$Cargo", "search", "(IIII)V"⟩ ∈ zGT := zGT_mem 1346 (by decide +kernel) (by decide +kernel)
theorem zw1348 : Cond.instanceMethod ⟨"BookBarge$Cargo", "search", "(IIII)V"⟩ ∈ zGT := zGT_mem 1348 (by decide +kernel) (by decide +kernel)
theorem zw1349 : Cond.code ⟨"BookBarge$Cargo", "search", "(IIII)V"⟩ cX0_search 5 (none : Option FieldType) ∈ zGT := zGT_mem 1349 (by decide +kernel) (by decide +kernel)
theorem zw1350 : Cond.methodLink RX0 75 ⟨"BookBarge$World", "draughtBy", "(IIII)I"⟩ ∈ zGT := zGT_mem 1350 (by decide +kernel) (by decide +kernel)
theorem zw1355 : Cond.methodLink RX11 288 ⟨"BookBarge$Plugging", "find", "(LBookBarge$World;I)Z"⟩ ∈ zGT := zGT_mem 1355 (by decide +kernel) (by decide +kernel)
theorem zw1356 : Cond.instanceMethod ⟨"BookBarge$Plugging", "find", "(LBookBarge$World;I)Z"⟩ ∈ zGT := zGT_mem 1356 (by decide +kernel) (by decide +kernel)
theorem zw1357 : Cond.selects "BookBarge$Plugging" ⟨"BookBarge$Plugging", "find", "(LBookBarge$World;I)Z"⟩ ⟨"BookBarge$Plugging", "find", "(LBookBarge$World;I)Z"⟩ ∈ zGT := zGT_mem 1357 (by decide +kernel) (by decide +kernel)
theorem zw1358 : Cond.code ⟨"BookBarge$Plugging", "find", "(LBookBarge$World;I)Z"⟩ cX5_find 5 (some FieldType.boolean) ∈ zGT := zGT_mem 1358 (by decide +kernel) (by decide +kernel)
theorem zw1359 : Cond.methodLink RX5 34 ⟨"BookBarge$World", "isOpen", "(I)Z"⟩ ∈ zGT := zGT_mem 1359 (by decide +kernel) (by decide +kernel)
theorem zw1360 : Cond.methodLink RX5 38 ⟨"BookBarge$World", "cell", "(II)I"⟩ ∈ zGT := zGT_mem 1360 (by decide +kernel) (by decide +kernel)
theorem zw1361 : Cond.methodLink RX5 42 ⟨"BookBarge$World", "fits", "(II)Z"⟩ ∈ zGT := zGT_mem 1361 (by decide +kernel) (by decide +kernel)
theorem zw1362 : Cond.constant RX5 46 1000000000 ∈ zGT := zGT_mem 1362 (by decide +kernel) (by decide +kernel)
theorem zw1363 : Cond.methodLink RX5 47 ⟨"BookBarge$Plugging", "search", "(III)V"⟩ ∈ zGT := zGT_mem 1363 (by decide +kernel) (by decide +kernel)
theorem zw1365 : Cond.instanceMethod ⟨"BookBarge$Plugging", "search", "(III)V"⟩ ∈ zGT := zGT_mem 1365 (by decide +kernel) (by decide +kernel)
theorem zw1366 : Cond.code ⟨"BookBarge$Plugging", "search", "(III)V"⟩ cX5_search 5 (none : Option FieldType) ∈ zGT := zGT_mem 1366 (by decide +kernel) (by decide +kernel)
theorem zw1367 : Cond.methodLink RX5 51 arraycopyName ∈ zGT := zGT_mem 1367 (by decide +kernel) (by decide +kernel)
theorem zw1376 : Cond.methodLink RX11 296 ⟨"BookBarge$Journey", "drawVoyages", "(LBookBarge$World;III)V"⟩ ∈ zGT := zGT_mem 1376 (by decide +kernel) (by decide +kernel)
theorem zw1377 : Cond.instanceMethod ⟨"BookBarge$Journey", "drawVoyages", "(LBookBarge$World;III)V"⟩ ∈ zGT := zGT_mem 1377 (by decide +kernel) (by decide +kernel)
theorem zw1378 : Cond.selects "BookBarge$Journey" ⟨"BookBarge$Journey", "drawVoyages", "(LBookBarge$World;III)V"⟩ ⟨"BookBarge$Journey", "drawVoyages", "(LBookBarge$World;III)V"⟩ ∈ zGT := zGT_mem 1378 (by decide +kernel) (by decide +kernel)
theorem zw1379 : Cond.code ⟨"BookBarge$Journey", "drawVoyages", "(LBookBarge$World;III)V"⟩ cX1_drawVoyages 8 (none : Option FieldType) ∈ zGT := zGT_mem 1379 (by decide +kernel) (by decide +kernel)
theorem zw1380 : Cond.methodLink RX1 149 ⟨"BookBarge$World", "copy", "(LBookBarge$World;)V"⟩ ∈ zGT := zGT_mem 1380 (by decide +kernel) (by decide +kernel)
theorem zw1381 : Cond.methodLink RX1 153 ⟨"BookBarge$World", "passNight", "()V"⟩ ∈ zGT := zGT_mem 1381 (by decide +kernel) (by decide +kernel)
theorem zw1382 : Cond.methodLink RX1 146 ⟨"BookBarge$Journey", "draw", "()I"⟩ ∈ zGT := zGT_mem 1382 (by decide +kernel) (by decide +kernel)
theorem zw1384 : Cond.instanceMethod ⟨"BookBarge$Journey", "draw", "()I"⟩ ∈ zGT := zGT_mem 1384 (by decide +kernel) (by decide +kernel)
theorem zw1385 : Cond.code ⟨"BookBarge$Journey", "draw", "()I"⟩ cX1_draw 1 (some FieldType.int) ∈ zGT := zGT_mem 1385 (by decide +kernel) (by decide +kernel)
theorem zw1386 : Cond.constantLong RX1 139 1103515245 ∈ zGT := zGT_mem 1386 (by decide +kernel) (by decide +kernel)
theorem zw1387 : Cond.constantLong RX1 141 12345 ∈ zGT := zGT_mem 1387 (by decide +kernel) (by decide +kernel)
theorem zw1388 : Cond.constantLong RX1 143 2147483647 ∈ zGT := zGT_mem 1388 (by decide +kernel) (by decide +kernel)
theorem zw1389 : Cond.constant RX1 145 65536 ∈ zGT := zGT_mem 1389 (by decide +kernel) (by decide +kernel)
theorem zw1390 : Cond.methodLink RX1 156 ⟨"BookBarge$World", "wetAboard", "()I"⟩ ∈ zGT := zGT_mem 1390 (by decide +kernel) (by decide +kernel)
theorem zw1391 : Cond.methodLink RX1 159 ⟨"BookBarge$Journey", "gnaw", "()V"⟩ ∈ zGT := zGT_mem 1391 (by decide +kernel) (by decide +kernel)
theorem zw1393 : Cond.instanceMethod ⟨"BookBarge$Journey", "gnaw", "()V"⟩ ∈ zGT := zGT_mem 1393 (by decide +kernel) (by decide +kernel)
theorem zw1394 : Cond.code ⟨"BookBarge$Journey", "gnaw", "()V"⟩ cX1_gnaw 3 (none : Option FieldType) ∈ zGT := zGT_mem 1394 (by decide +kernel) (by decide +kernel)
theorem zw1395 : Cond.methodLink RX1 162 ⟨"BookBarge$Journey", "goOneStop", "()Z"⟩ ∈ zGT := zGT_mem 1395 (by decide +kernel) (by decide +kernel)
theorem zw1400 : Cond.methodLink RX11 309 ⟨"BookBarge$World", "booksBetween", "(II)I"⟩ ∈ zGT := zGT_mem 1400 (by decide +kernel) (by decide +kernel)
theorem zw1401 : Cond.instanceMethod ⟨"BookBarge$World", "booksBetween", "(II)I"⟩ ∈ zGT := zGT_mem 1401 (by decide +kernel) (by decide +kernel)
theorem zw1402 : Cond.selects "BookBarge$World" ⟨"BookBarge$World", "booksBetween", "(II)I"⟩ ⟨"BookBarge$World", "booksBetween", "(II)I"⟩ ∈ zGT := zGT_mem 1402 (by decide +kernel) (by decide +kernel)
theorem zw1403 : Cond.code ⟨"BookBarge$World", "booksBetween", "(II)I"⟩ cX10_booksBetween 5 (some FieldType.int) ∈ zGT := zGT_mem 1403 (by decide +kernel) (by decide +kernel)
theorem zw1417 : Cond.methodLink RX12 1 objectInit ∈ zGT := zGT_mem 1417 (by decide +kernel) (by decide +kernel)
theorem zw1418 : Cond.fieldLink RX12 7 "BookBargeModel" "tape" "[B" ∈ zGT := zGT_mem 1418 (by decide +kernel) (by decide +kernel)
theorem zw1419 : Cond.fieldLink RX12 73 "BookBargeModel" "taped" "I" ∈ zGT := zGT_mem 1419 (by decide +kernel) (by decide +kernel)
theorem zw1420 : Cond.fieldLink RX12 274 "BookBargeModel" "rules" "I" ∈ zGT := zGT_mem 1420 (by decide +kernel) (by decide +kernel)
theorem zw1421 : Cond.fieldLink RX12 13 "BookBargeModel" "sign" "[I" ∈ zGT := zGT_mem 1421 (by decide +kernel) (by decide +kernel)
theorem zw1422 : Cond.fieldLink RX12 17 "BookBargeModel" "length" "[I" ∈ zGT := zGT_mem 1422 (by decide +kernel) (by decide +kernel)
theorem zw1423 : Cond.fieldLink RX12 20 "BookBargeModel" "clause" "[I" ∈ zGT := zGT_mem 1423 (by decide +kernel) (by decide +kernel)
theorem zw1424 : Cond.fieldLink RX12 23 "BookBargeModel" "clauses" "[I" ∈ zGT := zGT_mem 1424 (by decide +kernel) (by decide +kernel)
theorem zw1425 : Cond.fieldLink RX12 26 "BookBargeModel" "read" "[I" ∈ zGT := zGT_mem 1425 (by decide +kernel) (by decide +kernel)
theorem zw1426 : Cond.fieldLink RX12 215 "BookBargeModel" "isBargeLine" "Z" ∈ zGT := zGT_mem 1426 (by decide +kernel) (by decide +kernel)
theorem zw1427 : Cond.fieldLink RX12 84 "BookBargeModel" "next" "I" ∈ zGT := zGT_mem 1427 (by decide +kernel) (by decide +kernel)
theorem zw1428 : Cond.fieldLink RX12 81 "BookBargeModel" "wrong" "I" ∈ zGT := zGT_mem 1428 (by decide +kernel) (by decide +kernel)
theorem zw1429 : Cond.fieldLink RX12 109 "BookBargeModel" "number" "I" ∈ zGT := zGT_mem 1429 (by decide +kernel) (by decide +kernel)
theorem zw1430 : Cond.fieldLink RX12 140 "BookBargeModel" "text" "I" ∈ zGT := zGT_mem 1430 (by decide +kernel) (by decide +kernel)
theorem zw1431 : Cond.fieldLink RX12 143 "BookBargeModel" "made" "I" ∈ zGT := zGT_mem 1431 (by decide +kernel) (by decide +kernel)
theorem zw1432 : Cond.fieldLink RX12 146 "BookBargeModel" "deep" "I" ∈ zGT := zGT_mem 1432 (by decide +kernel) (by decide +kernel)
theorem zw1433 : Cond.fieldLink RX12 262 "BookBargeModel" "lines" "I" ∈ zGT := zGT_mem 1433 (by decide +kernel) (by decide +kernel)
theorem zw1434 : Cond.fieldLink RX12 29 "BookBargeModel" "open" "[I" ∈ zGT := zGT_mem 1434 (by decide +kernel) (by decide +kernel)
theorem zw1435 : Cond.fieldLink RX12 149 "BookBargeModel" "opened" "I" ∈ zGT := zGT_mem 1435 (by decide +kernel) (by decide +kernel)
theorem zw1436 : Cond.fieldLink RX12 32 "BookBargeModel" "stack" "[J" ∈ zGT := zGT_mem 1436 (by decide +kernel) (by decide +kernel)
theorem zw1437 : Cond.fieldLink RX12 283 "BookBargeModel" "top" "I" ∈ zGT := zGT_mem 1437 (by decide +kernel) (by decide +kernel)
theorem zw1438 : Cond.fieldLink RX12 36 "BookBargeModel" "word" "[J" ∈ zGT := zGT_mem 1438 (by decide +kernel) (by decide +kernel)
theorem zw1439 : Cond.fieldLink RX12 39 "BookBargeModel" "said" "[I" ∈ zGT := zGT_mem 1439 (by decide +kernel) (by decide +kernel)
theorem zw1440 : Cond.fieldLink RX12 517 "BookBargeModel" "x" "I" ∈ zGT := zGT_mem 1440 (by decide +kernel) (by decide +kernel)
theorem zw1441 : Cond.fieldLink RX12 312 "BookBargeModel" "inches" "I" ∈ zGT := zGT_mem 1441 (by decide +kernel) (by decide +kernel)
theorem zw1442 : Cond.fieldLink RX12 42 "BookBargeModel" "wasSaid" "[I" ∈ zGT := zGT_mem 1442 (by decide +kernel) (by decide +kernel)
theorem zw1443 : Cond.fieldLink RX12 280 "BookBargeModel" "undone" "I" ∈ zGT := zGT_mem 1443 (by decide +kernel) (by decide +kernel)
theorem zw1444 : Cond.fieldLink RX12 453 "BookBargeModel" "lentNow" "I" ∈ zGT := zGT_mem 1444 (by decide +kernel) (by decide +kernel)
theorem zw1445 : Cond.fieldLink RX12 456 "BookBargeModel" "leftNow" "I" ∈ zGT := zGT_mem 1445 (by decide +kernel) (by decide +kernel)
theorem zw1446 : Cond.fieldLink RX12 45 "BookBargeModel" "lentTo" "[I" ∈ zGT := zGT_mem 1446 (by decide +kernel) (by decide +kernel)
theorem zw1447 : Cond.fieldLink RX12 48 "BookBargeModel" "bestLent" "[I" ∈ zGT := zGT_mem 1447 (by decide +kernel) (by decide +kernel)
theorem zw1448 : Cond.fieldLink RX12 486 "BookBargeModel" "bestCoins" "I" ∈ zGT := zGT_mem 1448 (by decide +kernel) (by decide +kernel)
theorem zw1449 : Cond.fieldLink RX12 51 "BookBargeModel" "openHole" "[I" ∈ zGT := zGT_mem 1449 (by decide +kernel) (by decide +kernel)
theorem zw1450 : Cond.fieldLink RX12 54 "BookBargeModel" "plugBy" "[I" ∈ zGT := zGT_mem 1450 (by decide +kernel) (by decide +kernel)
theorem zw1451 : Cond.fieldLink RX12 57 "BookBargeModel" "bestPlug" "[I" ∈ zGT := zGT_mem 1451 (by decide +kernel) (by decide +kernel)
theorem zw1452 : Cond.fieldLink RX12 60 "BookBargeModel" "kept" "[I" ∈ zGT := zGT_mem 1452 (by decide +kernel) (by decide +kernel)
theorem zw1453 : Cond.fieldLink RX12 520 "BookBargeModel" "drawX" "J" ∈ zGT := zGT_mem 1453 (by decide +kernel) (by decide +kernel)
theorem zw1454 : Cond.fieldLink RX12 63 "BookBargeModel" "images" "[I" ∈ zGT := zGT_mem 1454 (by decide +kernel) (by decide +kernel)
theorem zw1455 : Cond.fieldLink RX12 66 "BookBargeModel" "imageX" "[I" ∈ zGT := zGT_mem 1455 (by decide +kernel) (by decide +kernel)
theorem zw1456 : Cond.fieldLink RX12 69 "BookBargeModel" "isMade" "[Z" ∈ zGT := zGT_mem 1456 (by decide +kernel) (by decide +kernel)
theorem zw1540 : Cond.methodLink RX12 77 ⟨"BookBargeModel", "four", "(I)V"⟩ ∈ zGT := zGT_mem 1540 (by decide +kernel) (by decide +kernel)
theorem zw1542 : Cond.instanceMethod ⟨"BookBargeModel", "four", "(I)V"⟩ ∈ zGT := zGT_mem 1542 (by decide +kernel) (by decide +kernel)
theorem zw1543 : Cond.code ⟨"BookBargeModel", "four", "(I)V"⟩ cX12_four 3 (none : Option FieldType) ∈ zGT := zGT_mem 1543 (by decide +kernel) (by decide +kernel)
theorem zw1552 : Cond.methodLink RX12 277 ⟨"BookBargeModel", "readsAll", "()Z"⟩ ∈ zGT := zGT_mem 1552 (by decide +kernel) (by decide +kernel)
theorem zw1554 : Cond.instanceMethod ⟨"BookBargeModel", "readsAll", "()Z"⟩ ∈ zGT := zGT_mem 1554 (by decide +kernel) (by decide +kernel)
theorem zw1555 : Cond.code ⟨"BookBargeModel", "readsAll", "()Z"⟩ cX12_readsAll 2 (some FieldType.boolean) ∈ zGT := zGT_mem 1555 (by decide +kernel) (by decide +kernel)
theorem zw1556 : Cond.methodLink RX12 271 ⟨"BookBargeModel", "clauseHere", "()Z"⟩ ∈ zGT := zGT_mem 1556 (by decide +kernel) (by decide +kernel)
theorem zw1558 : Cond.instanceMethod ⟨"BookBargeModel", "clauseHere", "()Z"⟩ ∈ zGT := zGT_mem 1558 (by decide +kernel) (by decide +kernel)
theorem zw1559 : Cond.code ⟨"BookBargeModel", "clauseHere", "()Z"⟩ cX12_clauseHere 3 (some FieldType.boolean) ∈ zGT := zGT_mem 1559 (by decide +kernel) (by decide +kernel)
theorem zw1560 : Cond.methodLink RX12 87 ⟨"BookBargeModel", "see", "()I"⟩ ∈ zGT := zGT_mem 1560 (by decide +kernel) (by decide +kernel)
theorem zw1562 : Cond.instanceMethod ⟨"BookBargeModel", "see", "()I"⟩ ∈ zGT := zGT_mem 1562 (by decide +kernel) (by decide +kernel)
theorem zw1563 : Cond.code ⟨"BookBargeModel", "see", "()I"⟩ cX12_see 1 (some FieldType.int) ∈ zGT := zGT_mem 1563 (by decide +kernel) (by decide +kernel)
theorem zw1564 : Cond.methodLink RX12 256 ⟨"BookBargeModel", "isRiverWord", "()Z"⟩ ∈ zGT := zGT_mem 1564 (by decide +kernel) (by decide +kernel)
theorem zw1566 : Cond.instanceMethod ⟨"BookBargeModel", "isRiverWord", "()Z"⟩ ∈ zGT := zGT_mem 1566 (by decide +kernel) (by decide +kernel)
theorem zw1567 : Cond.code ⟨"BookBargeModel", "isRiverWord", "()Z"⟩ cX12_isRiverWord 1 (some FieldType.boolean) ∈ zGT := zGT_mem 1567 (by decide +kernel) (by decide +kernel)
theorem zw1568 : Cond.constantLong RX12 226 422541682533 ∈ zGT := zGT_mem 1568 (by decide +kernel) (by decide +kernel)
theorem zw1569 : Cond.methodLink RX12 95 ⟨"BookBargeModel", "isWord", "(J)Z"⟩ ∈ zGT := zGT_mem 1569 (by decide +kernel) (by decide +kernel)
theorem zw1571 : Cond.instanceMethod ⟨"BookBargeModel", "isWord", "(J)Z"⟩ ∈ zGT := zGT_mem 1571 (by decide +kernel) (by decide +kernel)
theorem zw1572 : Cond.code ⟨"BookBargeModel", "isWord", "(J)Z"⟩ cX12_isWord 6 (some FieldType.boolean) ∈ zGT := zGT_mem 1572 (by decide +kernel) (by decide +kernel)
theorem zw1573 : Cond.methodLink RX12 91 ⟨"BookBargeModel", "isLetter", "(I)Z"⟩ ∈ zGT := zGT_mem 1573 (by decide +kernel) (by decide +kernel)
theorem zw1575 : Cond.instanceMethod ⟨"BookBargeModel", "isLetter", "(I)Z"⟩ ∈ zGT := zGT_mem 1575 (by decide +kernel) (by decide +kernel)
theorem zw1576 : Cond.code ⟨"BookBargeModel", "isLetter", "(I)Z"⟩ cX12_isLetter 2 (some FieldType.boolean) ∈ zGT := zGT_mem 1576 (by decide +kernel) (by decide +kernel)
theorem zw1577 : Cond.constantLong RX12 116 1651470187 ∈ zGT := zGT_mem 1577 (by decide +kernel) (by decide +kernel)
theorem zw1578 : Cond.constantLong RX12 128 1937010544 ∈ zGT := zGT_mem 1578 (by decide +kernel) (by decide +kernel)
theorem zw1579 : Cond.constantLong RX12 237 125779751232882 ∈ zGT := zGT_mem 1579 (by decide +kernel) (by decide +kernel)
theorem zw1580 : Cond.constantLong RX12 126 2003399528 ∈ zGT := zGT_mem 1580 (by decide +kernel) (by decide +kernel)
theorem zw1581 : Cond.constantLong RX12 248 1752132709 ∈ zGT := zGT_mem 1581 (by decide +kernel) (by decide +kernel)
theorem zw1582 : Cond.methodLink RX12 259 ⟨"BookBargeModel", "doingSort", "()I"⟩ ∈ zGT := zGT_mem 1582 (by decide +kernel) (by decide +kernel)
theorem zw1584 : Cond.instanceMethod ⟨"BookBargeModel", "doingSort", "()I"⟩ ∈ zGT := zGT_mem 1584 (by decide +kernel) (by decide +kernel)
theorem zw1585 : Cond.code ⟨"BookBargeModel", "doingSort", "()I"⟩ cX12_doingSort 1 (some FieldType.int) ∈ zGT := zGT_mem 1585 (by decide +kernel) (by decide +kernel)
theorem zw1586 : Cond.constantLong RX12 250 1818586724 ∈ zGT := zGT_mem 1586 (by decide +kernel) (by decide +kernel)
theorem zw1587 : Cond.constantLong RX12 252 439788790632 ∈ zGT := zGT_mem 1587 (by decide +kernel) (by decide +kernel)
theorem zw1588 : Cond.constantLong RX12 254 495672977012 ∈ zGT := zGT_mem 1588 (by decide +kernel) (by decide +kernel)
theorem zw1589 : Cond.methodLink RX12 105 ⟨"BookBargeModel", "fails", "(II)Z"⟩ ∈ zGT := zGT_mem 1589 (by decide +kernel) (by decide +kernel)
theorem zw1591 : Cond.instanceMethod ⟨"BookBargeModel", "fails", "(II)Z"⟩ ∈ zGT := zGT_mem 1591 (by decide +kernel) (by decide +kernel)
theorem zw1592 : Cond.code ⟨"BookBargeModel", "fails", "(II)Z"⟩ cX12_fails 3 (some FieldType.boolean) ∈ zGT := zGT_mem 1592 (by decide +kernel) (by decide +kernel)
theorem zw1593 : Cond.methodLink RX12 265 ⟨"BookBargeModel", "riverLineHere", "(I)Z"⟩ ∈ zGT := zGT_mem 1593 (by decide +kernel) (by decide +kernel)
theorem zw1595 : Cond.instanceMethod ⟨"BookBargeModel", "riverLineHere", "(I)Z"⟩ ∈ zGT := zGT_mem 1595 (by decide +kernel) (by decide +kernel)
theorem zw1596 : Cond.code ⟨"BookBargeModel", "riverLineHere", "(I)Z"⟩ cX12_riverLineHere 2 (some FieldType.boolean) ∈ zGT := zGT_mem 1596 (by decide +kernel) (by decide +kernel)
theorem zw1597 : Cond.methodLink RX12 228 ⟨"BookBargeModel", "isBargeHere", "(I)Z"⟩ ∈ zGT := zGT_mem 1597 (by decide +kernel) (by decide +kernel)
theorem zw1599 : Cond.instanceMethod ⟨"BookBargeModel", "isBargeHere", "(I)Z"⟩ ∈ zGT := zGT_mem 1599 (by decide +kernel) (by decide +kernel)
theorem zw1600 : Cond.code ⟨"BookBargeModel", "isBargeHere", "(I)Z"⟩ cX12_isBargeHere 4 (some FieldType.boolean) ∈ zGT := zGT_mem 1600 (by decide +kernel) (by decide +kernel)
theorem zw1601 : Cond.methodLink RX12 99 ⟨"BookBargeModel", "passWord", "()V"⟩ ∈ zGT := zGT_mem 1601 (by decide +kernel) (by decide +kernel)
theorem zw1603 : Cond.instanceMethod ⟨"BookBargeModel", "passWord", "()V"⟩ ∈ zGT := zGT_mem 1603 (by decide +kernel) (by decide +kernel)
theorem zw1604 : Cond.code ⟨"BookBargeModel", "passWord", "()V"⟩ cX12_passWord 1 (none : Option FieldType) ∈ zGT := zGT_mem 1604 (by decide +kernel) (by decide +kernel)
theorem zw1605 : Cond.methodLink RX12 219 ⟨"BookBargeModel", "cellHere", "(III)Z"⟩ ∈ zGT := zGT_mem 1605 (by decide +kernel) (by decide +kernel)
theorem zw1607 : Cond.instanceMethod ⟨"BookBargeModel", "cellHere", "(III)Z"⟩ ∈ zGT := zGT_mem 1607 (by decide +kernel) (by decide +kernel)
theorem zw1608 : Cond.code ⟨"BookBargeModel", "cellHere", "(III)Z"⟩ cX12_cellHere 4 (some FieldType.boolean) ∈ zGT := zGT_mem 1608 (by decide +kernel) (by decide +kernel)
theorem zw1609 : Cond.methodLink RX12 161 ⟨"BookBargeModel", "numberHere", "(II)Z"⟩ ∈ zGT := zGT_mem 1609 (by decide +kernel) (by decide +kernel)
theorem zw1611 : Cond.instanceMethod ⟨"BookBargeModel", "numberHere", "(II)Z"⟩ ∈ zGT := zGT_mem 1611 (by decide +kernel) (by decide +kernel)
theorem zw1612 : Cond.code ⟨"BookBargeModel", "numberHere", "(II)Z"⟩ cX12_numberHere 5 (some FieldType.boolean) ∈ zGT := zGT_mem 1612 (by decide +kernel) (by decide +kernel)
theorem zw1613 : Cond.methodLink RX12 102 ⟨"BookBargeModel", "isDigit", "(I)Z"⟩ ∈ zGT := zGT_mem 1613 (by decide +kernel) (by decide +kernel)
theorem zw1615 : Cond.instanceMethod ⟨"BookBargeModel", "isDigit", "(I)Z"⟩ ∈ zGT := zGT_mem 1615 (by decide +kernel) (by decide +kernel)
theorem zw1616 : Cond.code ⟨"BookBargeModel", "isDigit", "(I)Z"⟩ cX12_isDigit 2 (some FieldType.boolean) ∈ zGT := zGT_mem 1616 (by decide +kernel) (by decide +kernel)
theorem zw1617 : Cond.methodLink RX12 112 ⟨"BookBargeModel", "in", "(JJJ)Z"⟩ ∈ zGT := zGT_mem 1617 (by decide +kernel) (by decide +kernel)
theorem zw1618 : Cond.static ⟨"BookBargeModel", "in", "(JJJ)Z"⟩ ∈ zGT := zGT_mem 1618 (by decide +kernel) (by decide +kernel)
theorem zw1619 : Cond.code ⟨"BookBargeModel", "in", "(JJJ)Z"⟩ cX12_in 6 (some FieldType.boolean) ∈ zGT := zGT_mem 1619 (by decide +kernel) (by decide +kernel)
theorem zw1620 : Cond.methodLink RX12 231 ⟨"BookBargeModel", "isBookHere", "(I)Z"⟩ ∈ zGT := zGT_mem 1620 (by decide +kernel) (by decide +kernel)
theorem zw1622 : Cond.instanceMethod ⟨"BookBargeModel", "isBookHere", "(I)Z"⟩ ∈ zGT := zGT_mem 1622 (by decide +kernel) (by decide +kernel)
theorem zw1623 : Cond.code ⟨"BookBargeModel", "isBookHere", "(I)Z"⟩ cX12_isBookHere 3 (some FieldType.boolean) ∈ zGT := zGT_mem 1623 (by decide +kernel) (by decide +kernel)
theorem zw1624 : Cond.methodLink RX12 234 ⟨"BookBargeModel", "isStopHere", "(I)Z"⟩ ∈ zGT := zGT_mem 1624 (by decide +kernel) (by decide +kernel)
theorem zw1626 : Cond.instanceMethod ⟨"BookBargeModel", "isStopHere", "(I)Z"⟩ ∈ zGT := zGT_mem 1626 (by decide +kernel) (by decide +kernel)
theorem zw1627 : Cond.code ⟨"BookBargeModel", "isStopHere", "(I)Z"⟩ cX12_isStopHere 3 (some FieldType.boolean) ∈ zGT := zGT_mem 1627 (by decide +kernel) (by decide +kernel)
theorem zw1628 : Cond.methodLink RX12 223 ⟨"BookBargeModel", "isDigitNext", "()Z"⟩ ∈ zGT := zGT_mem 1628 (by decide +kernel) (by decide +kernel)
theorem zw1630 : Cond.instanceMethod ⟨"BookBargeModel", "isDigitNext", "()Z"⟩ ∈ zGT := zGT_mem 1630 (by decide +kernel) (by decide +kernel)
theorem zw1631 : Cond.code ⟨"BookBargeModel", "isDigitNext", "()Z"⟩ cX12_isDigitNext 2 (some FieldType.boolean) ∈ zGT := zGT_mem 1631 (by decide +kernel) (by decide +kernel)
theorem zw1632 : Cond.methodLink RX12 239 ⟨"BookBargeModel", "isReaderHere", "(I)Z"⟩ ∈ zGT := zGT_mem 1632 (by decide +kernel) (by decide +kernel)
theorem zw1634 : Cond.instanceMethod ⟨"BookBargeModel", "isReaderHere", "(I)Z"⟩ ∈ zGT := zGT_mem 1634 (by decide +kernel) (by decide +kernel)
theorem zw1635 : Cond.code ⟨"BookBargeModel", "isReaderHere", "(I)Z"⟩ cX12_isReaderHere 4 (some FieldType.boolean) ∈ zGT := zGT_mem 1635 (by decide +kernel) (by decide +kernel)
theorem zw1636 : Cond.methodLink RX12 242 ⟨"BookBargeModel", "isWishHere", "()Z"⟩ ∈ zGT := zGT_mem 1636 (by decide +kernel) (by decide +kernel)
theorem zw1638 : Cond.instanceMethod ⟨"BookBargeModel", "isWishHere", "()Z"⟩ ∈ zGT := zGT_mem 1638 (by decide +kernel) (by decide +kernel)
theorem zw1639 : Cond.code ⟨"BookBargeModel", "isWishHere", "()Z"⟩ cX12_isWishHere 2 (some FieldType.boolean) ∈ zGT := zGT_mem 1639 (by decide +kernel) (by decide +kernel)
theorem zw1640 : Cond.methodLink RX12 245 ⟨"BookBargeModel", "isHoleHere", "(I)Z"⟩ ∈ zGT := zGT_mem 1640 (by decide +kernel) (by decide +kernel)
theorem zw1642 : Cond.instanceMethod ⟨"BookBargeModel", "isHoleHere", "(I)Z"⟩ ∈ zGT := zGT_mem 1642 (by decide +kernel) (by decide +kernel)
theorem zw1643 : Cond.code ⟨"BookBargeModel", "isHoleHere", "(I)Z"⟩ cX12_isHoleHere 3 (some FieldType.boolean) ∈ zGT := zGT_mem 1643 (by decide +kernel) (by decide +kernel)
theorem zw1644 : Cond.methodLink RX12 268 ⟨"BookBargeModel", "isDoingHere", "(I)Z"⟩ ∈ zGT := zGT_mem 1644 (by decide +kernel) (by decide +kernel)
theorem zw1646 : Cond.instanceMethod ⟨"BookBargeModel", "isDoingHere", "(I)Z"⟩ ∈ zGT := zGT_mem 1646 (by decide +kernel) (by decide +kernel)
theorem zw1647 : Cond.code ⟨"BookBargeModel", "isDoingHere", "(I)Z"⟩ cX12_isDoingHere 3 (some FieldType.boolean) ∈ zGT := zGT_mem 1647 (by decide +kernel) (by decide +kernel)
theorem zw1648 : Cond.methodLink RX12 177 ⟨"BookBargeModel", "sum", "()Z"⟩ ∈ zGT := zGT_mem 1648 (by decide +kernel) (by decide +kernel)
theorem zw1650 : Cond.instanceMethod ⟨"BookBargeModel", "sum", "()Z"⟩ ∈ zGT := zGT_mem 1650 (by decide +kernel) (by decide +kernel)
theorem zw1651 : Cond.code ⟨"BookBargeModel", "sum", "()Z"⟩ cX12_sum 2 (some FieldType.boolean) ∈ zGT := zGT_mem 1651 (by decide +kernel) (by decide +kernel)
theorem zw1652 : Cond.methodLink RX12 174 ⟨"BookBargeModel", "term", "()Z"⟩ ∈ zGT := zGT_mem 1652 (by decide +kernel) (by decide +kernel)
theorem zw1654 : Cond.instanceMethod ⟨"BookBargeModel", "term", "()Z"⟩ ∈ zGT := zGT_mem 1654 (by decide +kernel) (by decide +kernel)
theorem zw1655 : Cond.code ⟨"BookBargeModel", "term", "()Z"⟩ cX12_term 2 (some FieldType.boolean) ∈ zGT := zGT_mem 1655 (by decide +kernel) (by decide +kernel)
theorem zw1656 : Cond.methodLink RX12 170 ⟨"BookBargeModel", "value", "()Z"⟩ ∈ zGT := zGT_mem 1656 (by decide +kernel) (by decide +kernel)
theorem zw1658 : Cond.instanceMethod ⟨"BookBargeModel", "value", "()Z"⟩ ∈ zGT := zGT_mem 1658 (by decide +kernel) (by decide +kernel)
theorem zw1659 : Cond.code ⟨"BookBargeModel", "value", "()Z"⟩ cX12_value 3 (some FieldType.boolean) ∈ zGT := zGT_mem 1659 (by decide +kernel) (by decide +kernel)
theorem zw1660 : Cond.constant RX12 160 99999 ∈ zGT := zGT_mem 1660 (by decide +kernel) (by decide +kernel)
theorem zw1661 : Cond.methodLink RX12 164 ⟨"BookBargeModel", "makes", "(I)Z"⟩ ∈ zGT := zGT_mem 1661 (by decide +kernel) (by decide +kernel)
theorem zw1663 : Cond.instanceMethod ⟨"BookBargeModel", "makes", "(I)Z"⟩ ∈ zGT := zGT_mem 1663 (by decide +kernel) (by decide +kernel)
theorem zw1664 : Cond.code ⟨"BookBargeModel", "makes", "(I)Z"⟩ cX12_makes 2 (some FieldType.boolean) ∈ zGT := zGT_mem 1664 (by decide +kernel) (by decide +kernel)
theorem zw1665 : Cond.methodLink RX12 156 ⟨"BookBargeModel", "puts", "(II)V"⟩ ∈ zGT := zGT_mem 1665 (by decide +kernel) (by decide +kernel)
theorem zw1667 : Cond.instanceMethod ⟨"BookBargeModel", "puts", "(II)V"⟩ ∈ zGT := zGT_mem 1667 (by decide +kernel) (by decide +kernel)
theorem zw1668 : Cond.code ⟨"BookBargeModel", "puts", "(II)V"⟩ cX12_puts 3 (none : Option FieldType) ∈ zGT := zGT_mem 1668 (by decide +kernel) (by decide +kernel)
theorem zw1669 : Cond.methodLink RX12 167 ⟨"BookBargeModel", "wordHere", "()I"⟩ ∈ zGT := zGT_mem 1669 (by decide +kernel) (by decide +kernel)
theorem zw1671 : Cond.instanceMethod ⟨"BookBargeModel", "wordHere", "()I"⟩ ∈ zGT := zGT_mem 1671 (by decide +kernel) (by decide +kernel)
theorem zw1672 : Cond.code ⟨"BookBargeModel", "wordHere", "()I"⟩ cX12_wordHere 1 (some FieldType.int) ∈ zGT := zGT_mem 1672 (by decide +kernel) (by decide +kernel)
theorem zw1673 : Cond.constantLong RX12 118 131277443786868 ∈ zGT := zGT_mem 1673 (by decide +kernel) (by decide +kernel)
theorem zw1674 : Cond.constantLong RX12 120 495672716390 ∈ zGT := zGT_mem 1674 (by decide +kernel) (by decide +kernel)
theorem zw1675 : Cond.constantLong RX12 122 512970880104 ∈ zGT := zGT_mem 1675 (by decide +kernel) (by decide +kernel)
theorem zw1676 : Cond.constantLong RX12 124 1684106608 ∈ zGT := zGT_mem 1676 (by decide +kernel) (by decide +kernel)
theorem zw1677 : Cond.constantLong RX12 130 431198598248 ∈ zGT := zGT_mem 1677 (by decide +kernel) (by decide +kernel)
theorem zw1678 : Cond.constantLong RX12 132 28273260578170996 ∈ zGT := zGT_mem 1678 (by decide +kernel) (by decide +kernel)
theorem zw1679 : Cond.constantLong RX12 134 512736126322 ∈ zGT := zGT_mem 1679 (by decide +kernel) (by decide +kernel)
theorem zw1680 : Cond.constantLong RX12 136 465725124211 ∈ zGT := zGT_mem 1680 (by decide +kernel) (by decide +kernel)
theorem zw1681 : Cond.constantLong RX12 138 6578553 ∈ zGT := zGT_mem 1681 (by decide +kernel) (by decide +kernel)
theorem zw1682 : Cond.constantLong RX12 207 26982 ∈ zGT := zGT_mem 1682 (by decide +kernel) (by decide +kernel)
theorem zw1683 : Cond.methodLink RX12 209 ⟨"BookBargeModel", "takesWord", "(J)Z"⟩ ∈ zGT := zGT_mem 1683 (by decide +kernel) (by decide +kernel)
theorem zw1685 : Cond.instanceMethod ⟨"BookBargeModel", "takesWord", "(J)Z"⟩ ∈ zGT := zGT_mem 1685 (by decide +kernel) (by decide +kernel)
theorem zw1686 : Cond.code ⟨"BookBargeModel", "takesWord", "(J)Z"⟩ cX12_takesWord 3 (some FieldType.boolean) ∈ zGT := zGT_mem 1686 (by decide +kernel) (by decide +kernel)
theorem zw1687 : Cond.methodLink RX12 212 ⟨"BookBargeModel", "isTestHere", "(I)Z"⟩ ∈ zGT := zGT_mem 1687 (by decide +kernel) (by decide +kernel)
theorem zw1689 : Cond.instanceMethod ⟨"BookBargeModel", "isTestHere", "(I)Z"⟩ ∈ zGT := zGT_mem 1689 (by decide +kernel) (by decide +kernel)
theorem zw1690 : Cond.code ⟨"BookBargeModel", "isTestHere", "(I)Z"⟩ cX12_isTestHere 2 (some FieldType.boolean) ∈ zGT := zGT_mem 1690 (by decide +kernel) (by decide +kernel)
theorem zw1691 : Cond.methodLink RX12 204 ⟨"BookBargeModel", "tested", "()Z"⟩ ∈ zGT := zGT_mem 1691 (by decide +kernel) (by decide +kernel)
theorem zw1693 : Cond.instanceMethod ⟨"BookBargeModel", "tested", "()Z"⟩ ∈ zGT := zGT_mem 1693 (by decide +kernel) (by decide +kernel)
theorem zw1694 : Cond.code ⟨"BookBargeModel", "tested", "()Z"⟩ cX12_tested 3 (some FieldType.boolean) ∈ zGT := zGT_mem 1694 (by decide +kernel) (by decide +kernel)
theorem zw1695 : Cond.methodLink RX12 194 ⟨"BookBargeModel", "fact", "()Z"⟩ ∈ zGT := zGT_mem 1695 (by decide +kernel) (by decide +kernel)
theorem zw1697 : Cond.instanceMethod ⟨"BookBargeModel", "fact", "()Z"⟩ ∈ zGT := zGT_mem 1697 (by decide +kernel) (by decide +kernel)
theorem zw1698 : Cond.code ⟨"BookBargeModel", "fact", "()Z"⟩ cX12_fact 3 (some FieldType.boolean) ∈ zGT := zGT_mem 1698 (by decide +kernel) (by decide +kernel)
theorem zw1699 : Cond.constantLong RX12 180 7237492 ∈ zGT := zGT_mem 1699 (by decide +kernel) (by decide +kernel)
theorem zw1700 : Cond.methodLink RX12 182 ⟨"BookBargeModel", "opens", "(I)Z"⟩ ∈ zGT := zGT_mem 1700 (by decide +kernel) (by decide +kernel)
theorem zw1702 : Cond.instanceMethod ⟨"BookBargeModel", "opens", "(I)Z"⟩ ∈ zGT := zGT_mem 1702 (by decide +kernel) (by decide +kernel)
theorem zw1703 : Cond.code ⟨"BookBargeModel", "opens", "(I)Z"⟩ cX12_opens 2 (some FieldType.boolean) ∈ zGT := zGT_mem 1703 (by decide +kernel) (by decide +kernel)
theorem zw1704 : Cond.methodLink RX12 185 ⟨"BookBargeModel", "compare", "()Z"⟩ ∈ zGT := zGT_mem 1704 (by decide +kernel) (by decide +kernel)
theorem zw1706 : Cond.instanceMethod ⟨"BookBargeModel", "compare", "()Z"⟩ ∈ zGT := zGT_mem 1706 (by decide +kernel) (by decide +kernel)
theorem zw1707 : Cond.code ⟨"BookBargeModel", "compare", "()Z"⟩ cX12_compare 5 (some FieldType.boolean) ∈ zGT := zGT_mem 1707 (by decide +kernel) (by decide +kernel)
theorem zw1708 : Cond.methodLink RX12 197 ⟨"BookBargeModel", "closes", "()V"⟩ ∈ zGT := zGT_mem 1708 (by decide +kernel) (by decide +kernel)
theorem zw1710 : Cond.instanceMethod ⟨"BookBargeModel", "closes", "()V"⟩ ∈ zGT := zGT_mem 1710 (by decide +kernel) (by decide +kernel)
theorem zw1711 : Cond.code ⟨"BookBargeModel", "closes", "()V"⟩ cX12_closes 1 (none : Option FieldType) ∈ zGT := zGT_mem 1711 (by decide +kernel) (by decide +kernel)
theorem zw1712 : Cond.methodLink RX12 188 ⟨"BookBargeModel", "settles", "(I)V"⟩ ∈ zGT := zGT_mem 1712 (by decide +kernel) (by decide +kernel)
theorem zw1714 : Cond.instanceMethod ⟨"BookBargeModel", "settles", "(I)V"⟩ ∈ zGT := zGT_mem 1714 (by decide +kernel) (by decide +kernel)
theorem zw1715 : Cond.code ⟨"BookBargeModel", "settles", "(I)V"⟩ cX12_settles 2 (none : Option FieldType) ∈ zGT := zGT_mem 1715 (by decide +kernel) (by decide +kernel)
theorem zw1716 : Cond.methodLink RX12 152 ⟨"BookBargeModel", "strength", "(I)I"⟩ ∈ zGT := zGT_mem 1716 (by decide +kernel) (by decide +kernel)
theorem zw1717 : Cond.static ⟨"BookBargeModel", "strength", "(I)I"⟩ ∈ zGT := zGT_mem 1717 (by decide +kernel) (by decide +kernel)
theorem zw1718 : Cond.code ⟨"BookBargeModel", "strength", "(I)I"⟩ cX12_strength 1 (some FieldType.int) ∈ zGT := zGT_mem 1718 (by decide +kernel) (by decide +kernel)
theorem zw1719 : Cond.methodLink RX12 191 ⟨"BookBargeModel", "isInside", "()Z"⟩ ∈ zGT := zGT_mem 1719 (by decide +kernel) (by decide +kernel)
theorem zw1721 : Cond.instanceMethod ⟨"BookBargeModel", "isInside", "()Z"⟩ ∈ zGT := zGT_mem 1721 (by decide +kernel) (by decide +kernel)
theorem zw1722 : Cond.code ⟨"BookBargeModel", "isInside", "()Z"⟩ cX12_isInside 2 (some FieldType.boolean) ∈ zGT := zGT_mem 1722 (by decide +kernel) (by decide +kernel)
theorem zw1723 : Cond.constantLong RX12 200 6385252 ∈ zGT := zGT_mem 1723 (by decide +kernel) (by decide +kernel)
theorem zw1724 : Cond.constantLong RX12 202 28530 ∈ zGT := zGT_mem 1724 (by decide +kernel) (by decide +kernel)
theorem zw1733 : Cond.methodLink RX12 349 ⟨"BookBargeModel", "isBook", "(I)Z"⟩ ∈ zGT := zGT_mem 1733 (by decide +kernel) (by decide +kernel)
theorem zw1735 : Cond.instanceMethod ⟨"BookBargeModel", "isBook", "(I)Z"⟩ ∈ zGT := zGT_mem 1735 (by decide +kernel) (by decide +kernel)
theorem zw1736 : Cond.code ⟨"BookBargeModel", "isBook", "(I)Z"⟩ cX12_isBook 2 (some FieldType.boolean) ∈ zGT := zGT_mem 1736 (by decide +kernel) (by decide +kernel)
theorem zw1737 : Cond.constantLong RX12 352 6 ∈ zGT := zGT_mem 1737 (by decide +kernel) (by decide +kernel)
theorem zw1738 : Cond.methodLink RX12 302 ⟨"BookBargeModel", "bookOf", "(II)I"⟩ ∈ zGT := zGT_mem 1738 (by decide +kernel) (by decide +kernel)
theorem zw1740 : Cond.instanceMethod ⟨"BookBargeModel", "bookOf", "(II)I"⟩ ∈ zGT := zGT_mem 1740 (by decide +kernel) (by decide +kernel)
theorem zw1741 : Cond.code ⟨"BookBargeModel", "bookOf", "(II)I"⟩ cX12_bookOf 3 (some FieldType.int) ∈ zGT := zGT_mem 1741 (by decide +kernel) (by decide +kernel)
theorem zw1746 : Cond.methodLink RX12 354 ⟨"BookBargeModel", "isStop", "(I)Z"⟩ ∈ zGT := zGT_mem 1746 (by decide +kernel) (by decide +kernel)
theorem zw1748 : Cond.instanceMethod ⟨"BookBargeModel", "isStop", "(I)Z"⟩ ∈ zGT := zGT_mem 1748 (by decide +kernel) (by decide +kernel)
theorem zw1749 : Cond.code ⟨"BookBargeModel", "isStop", "(I)Z"⟩ cX12_isStop 2 (some FieldType.boolean) ∈ zGT := zGT_mem 1749 (by decide +kernel) (by decide +kernel)
theorem zw1750 : Cond.constantLong RX12 357 4 ∈ zGT := zGT_mem 1750 (by decide +kernel) (by decide +kernel)
theorem zw1751 : Cond.methodLink RX12 343 ⟨"BookBargeModel", "depthOf", "(I)I"⟩ ∈ zGT := zGT_mem 1751 (by decide +kernel) (by decide +kernel)
theorem zw1753 : Cond.instanceMethod ⟨"BookBargeModel", "depthOf", "(I)I"⟩ ∈ zGT := zGT_mem 1753 (by decide +kernel) (by decide +kernel)
theorem zw1754 : Cond.code ⟨"BookBargeModel", "depthOf", "(I)I"⟩ cX12_depthOf 5 (some FieldType.int) ∈ zGT := zGT_mem 1754 (by decide +kernel) (by decide +kernel)
theorem zw1755 : Cond.methodLink RX12 359 ⟨"BookBargeModel", "leftAt", "(I)I"⟩ ∈ zGT := zGT_mem 1755 (by decide +kernel) (by decide +kernel)
theorem zw1757 : Cond.instanceMethod ⟨"BookBargeModel", "leftAt", "(I)I"⟩ ∈ zGT := zGT_mem 1757 (by decide +kernel) (by decide +kernel)
theorem zw1758 : Cond.code ⟨"BookBargeModel", "leftAt", "(I)I"⟩ cX12_leftAt 4 (some FieldType.int) ∈ zGT := zGT_mem 1758 (by decide +kernel) (by decide +kernel)
theorem zw1759 : Cond.methodLink RX12 362 ⟨"BookBargeModel", "isBarge", "(I)Z"⟩ ∈ zGT := zGT_mem 1759 (by decide +kernel) (by decide +kernel)
theorem zw1761 : Cond.instanceMethod ⟨"BookBargeModel", "isBarge", "(I)Z"⟩ ∈ zGT := zGT_mem 1761 (by decide +kernel) (by decide +kernel)
theorem zw1762 : Cond.code ⟨"BookBargeModel", "isBarge", "(I)Z"⟩ cX12_isBarge 2 (some FieldType.boolean) ∈ zGT := zGT_mem 1762 (by decide +kernel) (by decide +kernel)
theorem zw1763 : Cond.methodLink RX12 365 ⟨"BookBargeModel", "passesNow", "(II)Z"⟩ ∈ zGT := zGT_mem 1763 (by decide +kernel) (by decide +kernel)
theorem zw1765 : Cond.instanceMethod ⟨"BookBargeModel", "passesNow", "(II)Z"⟩ ∈ zGT := zGT_mem 1765 (by decide +kernel) (by decide +kernel)
theorem zw1766 : Cond.code ⟨"BookBargeModel", "passesNow", "(II)Z"⟩ cX12_passesNow 3 (some FieldType.boolean) ∈ zGT := zGT_mem 1766 (by decide +kernel) (by decide +kernel)
theorem zw1767 : Cond.methodLink RX12 337 ⟨"BookBargeModel", "aboardOf", "(I)I"⟩ ∈ zGT := zGT_mem 1767 (by decide +kernel) (by decide +kernel)
theorem zw1769 : Cond.instanceMethod ⟨"BookBargeModel", "aboardOf", "(I)I"⟩ ∈ zGT := zGT_mem 1769 (by decide +kernel) (by decide +kernel)
theorem zw1770 : Cond.code ⟨"BookBargeModel", "aboardOf", "(I)I"⟩ cX12_aboardOf 4 (some FieldType.int) ∈ zGT := zGT_mem 1770 (by decide +kernel) (by decide +kernel)
theorem zw1771 : Cond.methodLink RX12 309 ⟨"BookBargeModel", "isAboard", "(II)Z"⟩ ∈ zGT := zGT_mem 1771 (by decide +kernel) (by decide +kernel)
theorem zw1773 : Cond.instanceMethod ⟨"BookBargeModel", "isAboard", "(II)Z"⟩ ∈ zGT := zGT_mem 1773 (by decide +kernel) (by decide +kernel)
theorem zw1774 : Cond.code ⟨"BookBargeModel", "isAboard", "(II)Z"⟩ cX12_isAboard 3 (some FieldType.boolean) ∈ zGT := zGT_mem 1774 (by decide +kernel) (by decide +kernel)
theorem zw1775 : Cond.methodLink RX12 346 ⟨"BookBargeModel", "passesBy", "(III)Z"⟩ ∈ zGT := zGT_mem 1775 (by decide +kernel) (by decide +kernel)
theorem zw1777 : Cond.instanceMethod ⟨"BookBargeModel", "passesBy", "(III)Z"⟩ ∈ zGT := zGT_mem 1777 (by decide +kernel) (by decide +kernel)
theorem zw1778 : Cond.code ⟨"BookBargeModel", "passesBy", "(III)Z"⟩ cX12_passesBy 4 (some FieldType.boolean) ∈ zGT := zGT_mem 1778 (by decide +kernel) (by decide +kernel)
theorem zw1779 : Cond.methodLink RX12 340 ⟨"BookBargeModel", "draughtBy", "(II)I"⟩ ∈ zGT := zGT_mem 1779 (by decide +kernel) (by decide +kernel)
theorem zw1781 : Cond.instanceMethod ⟨"BookBargeModel", "draughtBy", "(II)I"⟩ ∈ zGT := zGT_mem 1781 (by decide +kernel) (by decide +kernel)
theorem zw1782 : Cond.code ⟨"BookBargeModel", "draughtBy", "(II)I"⟩ cX12_draughtBy 3 (some FieldType.int) ∈ zGT := zGT_mem 1782 (by decide +kernel) (by decide +kernel)
theorem zw1783 : Cond.methodLink RX12 327 ⟨"BookBargeModel", "loadBy", "(II)I"⟩ ∈ zGT := zGT_mem 1783 (by decide +kernel) (by decide +kernel)
theorem zw1785 : Cond.instanceMethod ⟨"BookBargeModel", "loadBy", "(II)I"⟩ ∈ zGT := zGT_mem 1785 (by decide +kernel) (by decide +kernel)
theorem zw1786 : Cond.code ⟨"BookBargeModel", "loadBy", "(II)I"⟩ cX12_loadBy 5 (some FieldType.int) ∈ zGT := zGT_mem 1786 (by decide +kernel) (by decide +kernel)
theorem zw1787 : Cond.methodLink RX12 298 ⟨"BookBargeModel", "bargeOf", "(II)I"⟩ ∈ zGT := zGT_mem 1787 (by decide +kernel) (by decide +kernel)
theorem zw1789 : Cond.instanceMethod ⟨"BookBargeModel", "bargeOf", "(II)I"⟩ ∈ zGT := zGT_mem 1789 (by decide +kernel) (by decide +kernel)
theorem zw1790 : Cond.code ⟨"BookBargeModel", "bargeOf", "(II)I"⟩ cX12_bargeOf 3 (some FieldType.int) ∈ zGT := zGT_mem 1790 (by decide +kernel) (by decide +kernel)
theorem zw1791 : Cond.methodLink RX12 315 ⟨"BookBargeModel", "isOf", "(II)Z"⟩ ∈ zGT := zGT_mem 1791 (by decide +kernel) (by decide +kernel)
theorem zw1792 : Cond.static ⟨"BookBargeModel", "isOf", "(II)Z"⟩ ∈ zGT := zGT_mem 1792 (by decide +kernel) (by decide +kernel)
theorem zw1793 : Cond.code ⟨"BookBargeModel", "isOf", "(II)Z"⟩ cX12_isOf 2 (some FieldType.boolean) ∈ zGT := zGT_mem 1793 (by decide +kernel) (by decide +kernel)
theorem zw1794 : Cond.methodLink RX12 318 ⟨"BookBargeModel", "heavy", "(I)I"⟩ ∈ zGT := zGT_mem 1794 (by decide +kernel) (by decide +kernel)
theorem zw1796 : Cond.instanceMethod ⟨"BookBargeModel", "heavy", "(I)I"⟩ ∈ zGT := zGT_mem 1796 (by decide +kernel) (by decide +kernel)
theorem zw1797 : Cond.code ⟨"BookBargeModel", "heavy", "(I)I"⟩ cX12_heavy 2 (some FieldType.int) ∈ zGT := zGT_mem 1797 (by decide +kernel) (by decide +kernel)
theorem zw1798 : Cond.methodLink RX12 330 ⟨"BookBargeModel", "tiltBy", "(II)I"⟩ ∈ zGT := zGT_mem 1798 (by decide +kernel) (by decide +kernel)
theorem zw1800 : Cond.instanceMethod ⟨"BookBargeModel", "tiltBy", "(II)I"⟩ ∈ zGT := zGT_mem 1800 (by decide +kernel) (by decide +kernel)
theorem zw1801 : Cond.code ⟨"BookBargeModel", "tiltBy", "(II)I"⟩ cX12_tiltBy 5 (some FieldType.int) ∈ zGT := zGT_mem 1801 (by decide +kernel) (by decide +kernel)
theorem zw1802 : Cond.methodLink RX12 321 ⟨"BookBargeModel", "shelfIn", "(II)I"⟩ ∈ zGT := zGT_mem 1802 (by decide +kernel) (by decide +kernel)
theorem zw1804 : Cond.instanceMethod ⟨"BookBargeModel", "shelfIn", "(II)I"⟩ ∈ zGT := zGT_mem 1804 (by decide +kernel) (by decide +kernel)
theorem zw1805 : Cond.code ⟨"BookBargeModel", "shelfIn", "(II)I"⟩ cX12_shelfIn 3 (some FieldType.int) ∈ zGT := zGT_mem 1805 (by decide +kernel) (by decide +kernel)
theorem zw1806 : Cond.methodLink RX12 324 ⟨"BookBargeModel", "arm", "(II)I"⟩ ∈ zGT := zGT_mem 1806 (by decide +kernel) (by decide +kernel)
theorem zw1808 : Cond.instanceMethod ⟨"BookBargeModel", "arm", "(II)I"⟩ ∈ zGT := zGT_mem 1808 (by decide +kernel) (by decide +kernel)
theorem zw1809 : Cond.code ⟨"BookBargeModel", "arm", "(II)I"⟩ cX12_arm 3 (some FieldType.int) ∈ zGT := zGT_mem 1809 (by decide +kernel) (by decide +kernel)
theorem zw1810 : Cond.methodLink RX12 333 ⟨"BookBargeModel", "draughtOf", "(III)I"⟩ ∈ zGT := zGT_mem 1810 (by decide +kernel) (by decide +kernel)
theorem zw1812 : Cond.instanceMethod ⟨"BookBargeModel", "draughtOf", "(III)I"⟩ ∈ zGT := zGT_mem 1812 (by decide +kernel) (by decide +kernel)
theorem zw1813 : Cond.code ⟨"BookBargeModel", "draughtOf", "(III)I"⟩ cX12_draughtOf 5 (some FieldType.int) ∈ zGT := zGT_mem 1813 (by decide +kernel) (by decide +kernel)
theorem zw1814 : Cond.methodLink RX12 368 ⟨"BookBargeModel", "readerOf", "(II)I"⟩ ∈ zGT := zGT_mem 1814 (by decide +kernel) (by decide +kernel)
theorem zw1816 : Cond.instanceMethod ⟨"BookBargeModel", "readerOf", "(II)I"⟩ ∈ zGT := zGT_mem 1816 (by decide +kernel) (by decide +kernel)
theorem zw1817 : Cond.code ⟨"BookBargeModel", "readerOf", "(II)I"⟩ cX12_readerOf 3 (some FieldType.int) ∈ zGT := zGT_mem 1817 (by decide +kernel) (by decide +kernel)
theorem zw1822 : Cond.methodLink RX12 371 ⟨"BookBargeModel", "isReader", "(I)Z"⟩ ∈ zGT := zGT_mem 1822 (by decide +kernel) (by decide +kernel)
theorem zw1824 : Cond.instanceMethod ⟨"BookBargeModel", "isReader", "(I)Z"⟩ ∈ zGT := zGT_mem 1824 (by decide +kernel) (by decide +kernel)
theorem zw1825 : Cond.code ⟨"BookBargeModel", "isReader", "(I)Z"⟩ cX12_isReader 2 (some FieldType.boolean) ∈ zGT := zGT_mem 1825 (by decide +kernel) (by decide +kernel)
theorem zw1830 : Cond.methodLink RX12 374 ⟨"BookBargeModel", "wishOf", "(II)I"⟩ ∈ zGT := zGT_mem 1830 (by decide +kernel) (by decide +kernel)
theorem zw1832 : Cond.instanceMethod ⟨"BookBargeModel", "wishOf", "(II)I"⟩ ∈ zGT := zGT_mem 1832 (by decide +kernel) (by decide +kernel)
theorem zw1833 : Cond.code ⟨"BookBargeModel", "wishOf", "(II)I"⟩ cX12_wishOf 3 (some FieldType.int) ∈ zGT := zGT_mem 1833 (by decide +kernel) (by decide +kernel)
theorem zw1838 : Cond.methodLink RX12 377 ⟨"BookBargeModel", "isHole", "(I)Z"⟩ ∈ zGT := zGT_mem 1838 (by decide +kernel) (by decide +kernel)
theorem zw1840 : Cond.instanceMethod ⟨"BookBargeModel", "isHole", "(I)Z"⟩ ∈ zGT := zGT_mem 1840 (by decide +kernel) (by decide +kernel)
theorem zw1841 : Cond.code ⟨"BookBargeModel", "isHole", "(I)Z"⟩ cX12_isHole 2 (some FieldType.boolean) ∈ zGT := zGT_mem 1841 (by decide +kernel) (by decide +kernel)
theorem zw1842 : Cond.constantLong RX12 380 2 ∈ zGT := zGT_mem 1842 (by decide +kernel) (by decide +kernel)
theorem zw1843 : Cond.methodLink RX12 382 ⟨"BookBargeModel", "holeOf", "(II)I"⟩ ∈ zGT := zGT_mem 1843 (by decide +kernel) (by decide +kernel)
theorem zw1845 : Cond.instanceMethod ⟨"BookBargeModel", "holeOf", "(II)I"⟩ ∈ zGT := zGT_mem 1845 (by decide +kernel) (by decide +kernel)
theorem zw1846 : Cond.code ⟨"BookBargeModel", "holeOf", "(II)I"⟩ cX12_holeOf 3 (some FieldType.int) ∈ zGT := zGT_mem 1846 (by decide +kernel) (by decide +kernel)
theorem zw1851 : Cond.constant RX12 385 (-1000000) ∈ zGT := zGT_mem 1851 (by decide +kernel) (by decide +kernel)
theorem zw1852 : Cond.methodLink RX12 386 ⟨"BookBargeModel", "draughtNow", "(I)I"⟩ ∈ zGT := zGT_mem 1852 (by decide +kernel) (by decide +kernel)
theorem zw1854 : Cond.instanceMethod ⟨"BookBargeModel", "draughtNow", "(I)I"⟩ ∈ zGT := zGT_mem 1854 (by decide +kernel) (by decide +kernel)
theorem zw1855 : Cond.code ⟨"BookBargeModel", "draughtNow", "(I)I"⟩ cX12_draughtNow 2 (some FieldType.int) ∈ zGT := zGT_mem 1855 (by decide +kernel) (by decide +kernel)
theorem zw1856 : Cond.methodLink RX12 389 ⟨"BookBargeModel", "stopOf", "(I)I"⟩ ∈ zGT := zGT_mem 1856 (by decide +kernel) (by decide +kernel)
theorem zw1858 : Cond.instanceMethod ⟨"BookBargeModel", "stopOf", "(I)I"⟩ ∈ zGT := zGT_mem 1858 (by decide +kernel) (by decide +kernel)
theorem zw1859 : Cond.code ⟨"BookBargeModel", "stopOf", "(I)I"⟩ cX12_stopOf 2 (some FieldType.int) ∈ zGT := zGT_mem 1859 (by decide +kernel) (by decide +kernel)
theorem zw1868 : Cond.methodLink RX12 392 ⟨"BookBargeModel", "bargeWith", "(I)I"⟩ ∈ zGT := zGT_mem 1868 (by decide +kernel) (by decide +kernel)
theorem zw1870 : Cond.instanceMethod ⟨"BookBargeModel", "bargeWith", "(I)I"⟩ ∈ zGT := zGT_mem 1870 (by decide +kernel) (by decide +kernel)
theorem zw1871 : Cond.code ⟨"BookBargeModel", "bargeWith", "(I)I"⟩ cX12_bargeWith 2 (some FieldType.int) ∈ zGT := zGT_mem 1871 (by decide +kernel) (by decide +kernel)
theorem zw1872 : Cond.constantLong RX12 305 100 ∈ zGT := zGT_mem 1872 (by decide +kernel) (by decide +kernel)
theorem zw1873 : Cond.constantLong RX12 307 101 ∈ zGT := zGT_mem 1873 (by decide +kernel) (by decide +kernel)
theorem zw1874 : Cond.methodLink RX12 395 ⟨"BookBargeModel", "keepsAct", "()V"⟩ ∈ zGT := zGT_mem 1874 (by decide +kernel) (by decide +kernel)
theorem zw1876 : Cond.instanceMethod ⟨"BookBargeModel", "keepsAct", "()V"⟩ ∈ zGT := zGT_mem 1876 (by decide +kernel) (by decide +kernel)
theorem zw1877 : Cond.code ⟨"BookBargeModel", "keepsAct", "()V"⟩ cX12_keepsAct 2 (none : Option FieldType) ∈ zGT := zGT_mem 1877 (by decide +kernel) (by decide +kernel)
theorem zw1878 : Cond.methodLink RX12 398 ⟨"BookBargeModel", "stands", "(II)V"⟩ ∈ zGT := zGT_mem 1878 (by decide +kernel) (by decide +kernel)
theorem zw1880 : Cond.instanceMethod ⟨"BookBargeModel", "stands", "(II)V"⟩ ∈ zGT := zGT_mem 1880 (by decide +kernel) (by decide +kernel)
theorem zw1881 : Cond.code ⟨"BookBargeModel", "stands", "(II)V"⟩ cX12_stands 3 (none : Option FieldType) ∈ zGT := zGT_mem 1881 (by decide +kernel) (by decide +kernel)
theorem zw1886 : Cond.methodLink RX12 401 ⟨"BookBargeModel", "canLend", "(II)Z"⟩ ∈ zGT := zGT_mem 1886 (by decide +kernel) (by decide +kernel)
theorem zw1888 : Cond.instanceMethod ⟨"BookBargeModel", "canLend", "(II)Z"⟩ ∈ zGT := zGT_mem 1888 (by decide +kernel) (by decide +kernel)
theorem zw1889 : Cond.code ⟨"BookBargeModel", "canLend", "(II)Z"⟩ cX12_canLend 4 (some FieldType.boolean) ∈ zGT := zGT_mem 1889 (by decide +kernel) (by decide +kernel)
theorem zw1890 : Cond.methodLink RX12 404 ⟨"BookBargeModel", "lends", "(II)V"⟩ ∈ zGT := zGT_mem 1890 (by decide +kernel) (by decide +kernel)
theorem zw1892 : Cond.instanceMethod ⟨"BookBargeModel", "lends", "(II)V"⟩ ∈ zGT := zGT_mem 1892 (by decide +kernel) (by decide +kernel)
theorem zw1893 : Cond.code ⟨"BookBargeModel", "lends", "(II)V"⟩ cX12_lends 4 (none : Option FieldType) ∈ zGT := zGT_mem 1893 (by decide +kernel) (by decide +kernel)
theorem zw1898 : Cond.methodLink RX12 411 ⟨"BookBargeModel", "isShelf", "(II)Z"⟩ ∈ zGT := zGT_mem 1898 (by decide +kernel) (by decide +kernel)
theorem zw1900 : Cond.instanceMethod ⟨"BookBargeModel", "isShelf", "(II)Z"⟩ ∈ zGT := zGT_mem 1900 (by decide +kernel) (by decide +kernel)
theorem zw1901 : Cond.code ⟨"BookBargeModel", "isShelf", "(II)Z"⟩ cX12_isShelf 3 (some FieldType.boolean) ∈ zGT := zGT_mem 1901 (by decide +kernel) (by decide +kernel)
theorem zw1902 : Cond.methodLink RX12 414 ⟨"BookBargeModel", "canFetch", "(II)Z"⟩ ∈ zGT := zGT_mem 1902 (by decide +kernel) (by decide +kernel)
theorem zw1904 : Cond.instanceMethod ⟨"BookBargeModel", "canFetch", "(II)Z"⟩ ∈ zGT := zGT_mem 1904 (by decide +kernel) (by decide +kernel)
theorem zw1905 : Cond.code ⟨"BookBargeModel", "canFetch", "(II)Z"⟩ cX12_canFetch 4 (some FieldType.boolean) ∈ zGT := zGT_mem 1905 (by decide +kernel) (by decide +kernel)
theorem zw1906 : Cond.constantLong RX12 407 200 ∈ zGT := zGT_mem 1906 (by decide +kernel) (by decide +kernel)
theorem zw1907 : Cond.constantLong RX12 409 205 ∈ zGT := zGT_mem 1907 (by decide +kernel) (by decide +kernel)
theorem zw1908 : Cond.methodLink RX12 417 ⟨"BookBargeModel", "fetches", "(III)V"⟩ ∈ zGT := zGT_mem 1908 (by decide +kernel) (by decide +kernel)
theorem zw1910 : Cond.instanceMethod ⟨"BookBargeModel", "fetches", "(III)V"⟩ ∈ zGT := zGT_mem 1910 (by decide +kernel) (by decide +kernel)
theorem zw1911 : Cond.code ⟨"BookBargeModel", "fetches", "(III)V"⟩ cX12_fetches 7 (none : Option FieldType) ∈ zGT := zGT_mem 1911 (by decide +kernel) (by decide +kernel)
theorem zw1928 : Cond.methodLink RX12 421 ⟨"BookBargeModel", "nights", "()V"⟩ ∈ zGT := zGT_mem 1928 (by decide +kernel) (by decide +kernel)
theorem zw1930 : Cond.instanceMethod ⟨"BookBargeModel", "nights", "()V"⟩ ∈ zGT := zGT_mem 1930 (by decide +kernel) (by decide +kernel)
theorem zw1931 : Cond.code ⟨"BookBargeModel", "nights", "()V"⟩ cX12_nights 3 (none : Option FieldType) ∈ zGT := zGT_mem 1931 (by decide +kernel) (by decide +kernel)
theorem zw1936 : Cond.methodLink RX12 424 ⟨"BookBargeModel", "dry", "()I"⟩ ∈ zGT := zGT_mem 1936 (by decide +kernel) (by decide +kernel)
theorem zw1938 : Cond.instanceMethod ⟨"BookBargeModel", "dry", "()I"⟩ ∈ zGT := zGT_mem 1938 (by decide +kernel) (by decide +kernel)
theorem zw1939 : Cond.code ⟨"BookBargeModel", "dry", "()I"⟩ cX12_dry 3 (some FieldType.int) ∈ zGT := zGT_mem 1939 (by decide +kernel) (by decide +kernel)
theorem zw1940 : Cond.methodLink RX12 427 ⟨"BookBargeModel", "rains", "()V"⟩ ∈ zGT := zGT_mem 1940 (by decide +kernel) (by decide +kernel)
theorem zw1942 : Cond.instanceMethod ⟨"BookBargeModel", "rains", "()V"⟩ ∈ zGT := zGT_mem 1942 (by decide +kernel) (by decide +kernel)
theorem zw1943 : Cond.code ⟨"BookBargeModel", "rains", "()V"⟩ cX12_rains 2 (none : Option FieldType) ∈ zGT := zGT_mem 1943 (by decide +kernel) (by decide +kernel)
theorem zw1952 : Cond.methodLink RX12 430 ⟨"BookBargeModel", "couldPlug", "(II)Z"⟩ ∈ zGT := zGT_mem 1952 (by decide +kernel) (by decide +kernel)
theorem zw1954 : Cond.instanceMethod ⟨"BookBargeModel", "couldPlug", "(II)Z"⟩ ∈ zGT := zGT_mem 1954 (by decide +kernel) (by decide +kernel)
theorem zw1955 : Cond.code ⟨"BookBargeModel", "couldPlug", "(II)Z"⟩ cX12_couldPlug 3 (some FieldType.boolean) ∈ zGT := zGT_mem 1955 (by decide +kernel) (by decide +kernel)
theorem zw1960 : Cond.methodLink RX12 462 ⟨"BookBargeModel", "isRule", "(I)Z"⟩ ∈ zGT := zGT_mem 1960 (by decide +kernel) (by decide +kernel)
theorem zw1962 : Cond.instanceMethod ⟨"BookBargeModel", "isRule", "(I)Z"⟩ ∈ zGT := zGT_mem 1962 (by decide +kernel) (by decide +kernel)
theorem zw1963 : Cond.code ⟨"BookBargeModel", "isRule", "(I)Z"⟩ cX12_isRule 2 (some FieldType.boolean) ∈ zGT := zGT_mem 1963 (by decide +kernel) (by decide +kernel)
theorem zw1964 : Cond.constantLong RX12 465 8 ∈ zGT := zGT_mem 1964 (by decide +kernel) (by decide +kernel)
theorem zw1965 : Cond.methodLink RX12 467 ⟨"BookBargeModel", "goesOn", "(II)Z"⟩ ∈ zGT := zGT_mem 1965 (by decide +kernel) (by decide +kernel)
theorem zw1967 : Cond.instanceMethod ⟨"BookBargeModel", "goesOn", "(II)Z"⟩ ∈ zGT := zGT_mem 1967 (by decide +kernel) (by decide +kernel)
theorem zw1968 : Cond.code ⟨"BookBargeModel", "goesOn", "(II)Z"⟩ cX12_goesOn 5 (some FieldType.boolean) ∈ zGT := zGT_mem 1968 (by decide +kernel) (by decide +kernel)
theorem zw1969 : Cond.methodLink RX12 446 ⟨"BookBargeModel", "clauseFor", "(IIII)I"⟩ ∈ zGT := zGT_mem 1969 (by decide +kernel) (by decide +kernel)
theorem zw1971 : Cond.instanceMethod ⟨"BookBargeModel", "clauseFor", "(IIII)I"⟩ ∈ zGT := zGT_mem 1971 (by decide +kernel) (by decide +kernel)
theorem zw1972 : Cond.code ⟨"BookBargeModel", "clauseFor", "(IIII)I"⟩ cX12_clauseFor 7 (some FieldType.int) ∈ zGT := zGT_mem 1972 (by decide +kernel) (by decide +kernel)
theorem zw1973 : Cond.methodLink RX12 440 ⟨"BookBargeModel", "words", "(II)V"⟩ ∈ zGT := zGT_mem 1973 (by decide +kernel) (by decide +kernel)
theorem zw1975 : Cond.instanceMethod ⟨"BookBargeModel", "words", "(II)V"⟩ ∈ zGT := zGT_mem 1975 (by decide +kernel) (by decide +kernel)
theorem zw1976 : Cond.code ⟨"BookBargeModel", "words", "(II)V"⟩ cX12_words 5 (none : Option FieldType) ∈ zGT := zGT_mem 1976 (by decide +kernel) (by decide +kernel)
theorem zw1977 : Cond.methodLink RX12 433 ⟨"BookBargeModel", "bestReader", "(II)I"⟩ ∈ zGT := zGT_mem 1977 (by decide +kernel) (by decide +kernel)
theorem zw1979 : Cond.instanceMethod ⟨"BookBargeModel", "bestReader", "(II)I"⟩ ∈ zGT := zGT_mem 1979 (by decide +kernel) (by decide +kernel)
theorem zw1980 : Cond.code ⟨"BookBargeModel", "bestReader", "(II)I"⟩ cX12_bestReader 5 (some FieldType.int) ∈ zGT := zGT_mem 1980 (by decide +kernel) (by decide +kernel)
theorem zw1981 : Cond.methodLink RX12 443 ⟨"BookBargeModel", "holds", "(II)Z"⟩ ∈ zGT := zGT_mem 1981 (by decide +kernel) (by decide +kernel)
theorem zw1983 : Cond.instanceMethod ⟨"BookBargeModel", "holds", "(II)Z"⟩ ∈ zGT := zGT_mem 1983 (by decide +kernel) (by decide +kernel)
theorem zw1984 : Cond.code ⟨"BookBargeModel", "holds", "(II)Z"⟩ cX12_holds 3 (some FieldType.boolean) ∈ zGT := zGT_mem 1984 (by decide +kernel) (by decide +kernel)
theorem zw1985 : Cond.methodLink RX12 436 ⟨"BookBargeModel", "reckons", "(III)J"⟩ ∈ zGT := zGT_mem 1985 (by decide +kernel) (by decide +kernel)
theorem zw1987 : Cond.instanceMethod ⟨"BookBargeModel", "reckons", "(III)J"⟩ ∈ zGT := zGT_mem 1987 (by decide +kernel) (by decide +kernel)
theorem zw1988 : Cond.code ⟨"BookBargeModel", "reckons", "(III)J"⟩ cX12_reckons 11 (some FieldType.long) ∈ zGT := zGT_mem 1988 (by decide +kernel) (by decide +kernel)
theorem zw1989 : Cond.methodLink RX12 286 ⟨"BookBargeModel", "push", "(J)V"⟩ ∈ zGT := zGT_mem 1989 (by decide +kernel) (by decide +kernel)
theorem zw1991 : Cond.instanceMethod ⟨"BookBargeModel", "push", "(J)V"⟩ ∈ zGT := zGT_mem 1991 (by decide +kernel) (by decide +kernel)
theorem zw1992 : Cond.code ⟨"BookBargeModel", "push", "(J)V"⟩ cX12_push 3 (none : Option FieldType) ∈ zGT := zGT_mem 1992 (by decide +kernel) (by decide +kernel)
theorem zw1993 : Cond.methodLink RX12 290 ⟨"BookBargeModel", "pop", "()J"⟩ ∈ zGT := zGT_mem 1993 (by decide +kernel) (by decide +kernel)
theorem zw1995 : Cond.instanceMethod ⟨"BookBargeModel", "pop", "()J"⟩ ∈ zGT := zGT_mem 1995 (by decide +kernel) (by decide +kernel)
theorem zw1996 : Cond.code ⟨"BookBargeModel", "pop", "()J"⟩ cX12_pop 1 (some FieldType.long) ∈ zGT := zGT_mem 1996 (by decide +kernel) (by decide +kernel)
theorem zw1997 : Cond.methodLink RX12 294 ⟨"BookBargeModel", "one", "(IJJ)J"⟩ ∈ zGT := zGT_mem 1997 (by decide +kernel) (by decide +kernel)
theorem zw1998 : Cond.static ⟨"BookBargeModel", "one", "(IJJ)J"⟩ ∈ zGT := zGT_mem 1998 (by decide +kernel) (by decide +kernel)
theorem zw1999 : Cond.code ⟨"BookBargeModel", "one", "(IJJ)J"⟩ cX12_one 5 (some FieldType.long) ∈ zGT := zGT_mem 1999 (by decide +kernel) (by decide +kernel)
theorem zw2000 : Cond.methodLink RX12 459 ⟨"BookBargeModel", "lightens", "(III)Z"⟩ ∈ zGT := zGT_mem 2000 (by decide +kernel) (by decide +kernel)
theorem zw2002 : Cond.instanceMethod ⟨"BookBargeModel", "lightens", "(III)Z"⟩ ∈ zGT := zGT_mem 2002 (by decide +kernel) (by decide +kernel)
theorem zw2003 : Cond.code ⟨"BookBargeModel", "lightens", "(III)Z"⟩ cX12_lightens 6 (some FieldType.boolean) ∈ zGT := zGT_mem 2003 (by decide +kernel) (by decide +kernel)
theorem zw2004 : Cond.methodLink RX12 450 ⟨"BookBargeModel", "nextFor", "(II)I"⟩ ∈ zGT := zGT_mem 2004 (by decide +kernel) (by decide +kernel)
theorem zw2006 : Cond.instanceMethod ⟨"BookBargeModel", "nextFor", "(II)I"⟩ ∈ zGT := zGT_mem 2006 (by decide +kernel) (by decide +kernel)
theorem zw2007 : Cond.code ⟨"BookBargeModel", "nextFor", "(II)I"⟩ cX12_nextFor 10 (some FieldType.int) ∈ zGT := zGT_mem 2007 (by decide +kernel) (by decide +kernel)
theorem zw2012 : Cond.methodLink RX12 470 ⟨"BookBargeModel", "leastDepth", "(II)I"⟩ ∈ zGT := zGT_mem 2012 (by decide +kernel) (by decide +kernel)
theorem zw2014 : Cond.instanceMethod ⟨"BookBargeModel", "leastDepth", "(II)I"⟩ ∈ zGT := zGT_mem 2014 (by decide +kernel) (by decide +kernel)
theorem zw2015 : Cond.code ⟨"BookBargeModel", "leastDepth", "(II)I"⟩ cX12_leastDepth 5 (some FieldType.int) ∈ zGT := zGT_mem 2015 (by decide +kernel) (by decide +kernel)
theorem zw2016 : Cond.methodLink RX12 473 ⟨"BookBargeModel", "worthOf", "(I)I"⟩ ∈ zGT := zGT_mem 2016 (by decide +kernel) (by decide +kernel)
theorem zw2018 : Cond.instanceMethod ⟨"BookBargeModel", "worthOf", "(I)I"⟩ ∈ zGT := zGT_mem 2018 (by decide +kernel) (by decide +kernel)
theorem zw2019 : Cond.code ⟨"BookBargeModel", "worthOf", "(I)I"⟩ cX12_worthOf 4 (some FieldType.int) ∈ zGT := zGT_mem 2019 (by decide +kernel) (by decide +kernel)
theorem zw2020 : Cond.methodLink RX12 476 ⟨"BookBargeModel", "bits", "(I)I"⟩ ∈ zGT := zGT_mem 2020 (by decide +kernel) (by decide +kernel)
theorem zw2021 : Cond.static ⟨"BookBargeModel", "bits", "(I)I"⟩ ∈ zGT := zGT_mem 2021 (by decide +kernel) (by decide +kernel)
theorem zw2022 : Cond.code ⟨"BookBargeModel", "bits", "(I)I"⟩ cX12_bits 3 (some FieldType.int) ∈ zGT := zGT_mem 2022 (by decide +kernel) (by decide +kernel)
theorem zw2027 : Cond.methodLink RX12 498 ⟨"BookBargeModel", "isAhead", "(II)Z"⟩ ∈ zGT := zGT_mem 2027 (by decide +kernel) (by decide +kernel)
theorem zw2029 : Cond.instanceMethod ⟨"BookBargeModel", "isAhead", "(II)Z"⟩ ∈ zGT := zGT_mem 2029 (by decide +kernel) (by decide +kernel)
theorem zw2030 : Cond.code ⟨"BookBargeModel", "isAhead", "(II)Z"⟩ cX12_isAhead 3 (some FieldType.boolean) ∈ zGT := zGT_mem 2030 (by decide +kernel) (by decide +kernel)
theorem zw2031 : Cond.constantLong RX12 501 7 ∈ zGT := zGT_mem 2031 (by decide +kernel) (by decide +kernel)
theorem zw2032 : Cond.methodLink RX12 503 ⟨"BookBargeModel", "mostCoins", "(III)I"⟩ ∈ zGT := zGT_mem 2032 (by decide +kernel) (by decide +kernel)
theorem zw2034 : Cond.instanceMethod ⟨"BookBargeModel", "mostCoins", "(III)I"⟩ ∈ zGT := zGT_mem 2034 (by decide +kernel) (by decide +kernel)
theorem zw2035 : Cond.code ⟨"BookBargeModel", "mostCoins", "(III)I"⟩ cX12_mostCoins 4 (some FieldType.int) ∈ zGT := zGT_mem 2035 (by decide +kernel) (by decide +kernel)
theorem zw2036 : Cond.methodLink RX12 495 ⟨"BookBargeModel", "tellsThrough", "(III)V"⟩ ∈ zGT := zGT_mem 2036 (by decide +kernel) (by decide +kernel)
theorem zw2038 : Cond.instanceMethod ⟨"BookBargeModel", "tellsThrough", "(III)V"⟩ ∈ zGT := zGT_mem 2038 (by decide +kernel) (by decide +kernel)
theorem zw2039 : Cond.code ⟨"BookBargeModel", "tellsThrough", "(III)V"⟩ cX12_tellsThrough 6 (none : Option FieldType) ∈ zGT := zGT_mem 2039 (by decide +kernel) (by decide +kernel)
theorem zw2040 : Cond.methodLink RX12 489 ⟨"BookBargeModel", "coinsOf", "(II)I"⟩ ∈ zGT := zGT_mem 2040 (by decide +kernel) (by decide +kernel)
theorem zw2042 : Cond.instanceMethod ⟨"BookBargeModel", "coinsOf", "(II)I"⟩ ∈ zGT := zGT_mem 2042 (by decide +kernel) (by decide +kernel)
theorem zw2043 : Cond.code ⟨"BookBargeModel", "coinsOf", "(II)I"⟩ cX12_coinsOf 8 (some FieldType.int) ∈ zGT := zGT_mem 2043 (by decide +kernel) (by decide +kernel)
theorem zw2044 : Cond.methodLink RX12 492 ⟨"BookBargeModel", "nextRow", "(III)Z"⟩ ∈ zGT := zGT_mem 2044 (by decide +kernel) (by decide +kernel)
theorem zw2046 : Cond.instanceMethod ⟨"BookBargeModel", "nextRow", "(III)Z"⟩ ∈ zGT := zGT_mem 2046 (by decide +kernel) (by decide +kernel)
theorem zw2047 : Cond.code ⟨"BookBargeModel", "nextRow", "(III)Z"⟩ cX12_nextRow 6 (some FieldType.boolean) ∈ zGT := zGT_mem 2047 (by decide +kernel) (by decide +kernel)
theorem zw2048 : Cond.methodLink RX12 479 ⟨"BookBargeModel", "canAsk", "(IIII)Z"⟩ ∈ zGT := zGT_mem 2048 (by decide +kernel) (by decide +kernel)
theorem zw2050 : Cond.instanceMethod ⟨"BookBargeModel", "canAsk", "(IIII)Z"⟩ ∈ zGT := zGT_mem 2050 (by decide +kernel) (by decide +kernel)
theorem zw2051 : Cond.code ⟨"BookBargeModel", "canAsk", "(IIII)Z"⟩ cX12_canAsk 5 (some FieldType.boolean) ∈ zGT := zGT_mem 2051 (by decide +kernel) (by decide +kernel)
theorem zw2052 : Cond.methodLink RX12 483 ⟨"BookBargeModel", "nextBook", "(III)I"⟩ ∈ zGT := zGT_mem 2052 (by decide +kernel) (by decide +kernel)
theorem zw2054 : Cond.instanceMethod ⟨"BookBargeModel", "nextBook", "(III)I"⟩ ∈ zGT := zGT_mem 2054 (by decide +kernel) (by decide +kernel)
theorem zw2055 : Cond.code ⟨"BookBargeModel", "nextBook", "(III)I"⟩ cX12_nextBook 5 (some FieldType.int) ∈ zGT := zGT_mem 2055 (by decide +kernel) (by decide +kernel)
theorem zw2072 : Cond.constantLong RX12 506 9999 ∈ zGT := zGT_mem 2072 (by decide +kernel) (by decide +kernel)
theorem zw2077 : Cond.methodLink RX12 508 ⟨"BookBargeModel", "isPlugRow", "(I)Z"⟩ ∈ zGT := zGT_mem 2077 (by decide +kernel) (by decide +kernel)
theorem zw2079 : Cond.instanceMethod ⟨"BookBargeModel", "isPlugRow", "(I)Z"⟩ ∈ zGT := zGT_mem 2079 (by decide +kernel) (by decide +kernel)
theorem zw2080 : Cond.code ⟨"BookBargeModel", "isPlugRow", "(I)Z"⟩ cX12_isPlugRow 4 (some FieldType.boolean) ∈ zGT := zGT_mem 2080 (by decide +kernel) (by decide +kernel)
theorem zw2081 : Cond.methodLink RX12 511 ⟨"BookBargeModel", "plugWorth", "(I)I"⟩ ∈ zGT := zGT_mem 2081 (by decide +kernel) (by decide +kernel)
theorem zw2083 : Cond.instanceMethod ⟨"BookBargeModel", "plugWorth", "(I)I"⟩ ∈ zGT := zGT_mem 2083 (by decide +kernel) (by decide +kernel)
theorem zw2084 : Cond.code ⟨"BookBargeModel", "plugWorth", "(I)I"⟩ cX12_plugWorth 4 (some FieldType.int) ∈ zGT := zGT_mem 2084 (by decide +kernel) (by decide +kernel)
theorem zw2085 : Cond.methodLink RX12 514 ⟨"BookBargeModel", "nextPlugRow", "(I)Z"⟩ ∈ zGT := zGT_mem 2085 (by decide +kernel) (by decide +kernel)
theorem zw2087 : Cond.instanceMethod ⟨"BookBargeModel", "nextPlugRow", "(I)Z"⟩ ∈ zGT := zGT_mem 2087 (by decide +kernel) (by decide +kernel)
theorem zw2088 : Cond.code ⟨"BookBargeModel", "nextPlugRow", "(I)Z"⟩ cX12_nextPlugRow 3 (some FieldType.boolean) ∈ zGT := zGT_mem 2088 (by decide +kernel) (by decide +kernel)
theorem zw2097 : Cond.constantLong RX12 535 20 ∈ zGT := zGT_mem 2097 (by decide +kernel) (by decide +kernel)
theorem zw2098 : Cond.methodLink RX12 537 ⟨"BookBargeModel", "keeps", "()V"⟩ ∈ zGT := zGT_mem 2098 (by decide +kernel) (by decide +kernel)
theorem zw2100 : Cond.instanceMethod ⟨"BookBargeModel", "keeps", "()V"⟩ ∈ zGT := zGT_mem 2100 (by decide +kernel) (by decide +kernel)
theorem zw2101 : Cond.code ⟨"BookBargeModel", "keeps", "()V"⟩ cX12_keeps 2 (none : Option FieldType) ∈ zGT := zGT_mem 2101 (by decide +kernel) (by decide +kernel)
theorem zw2102 : Cond.methodLink RX12 540 ⟨"BookBargeModel", "weathers", "(II)V"⟩ ∈ zGT := zGT_mem 2102 (by decide +kernel) (by decide +kernel)
theorem zw2104 : Cond.instanceMethod ⟨"BookBargeModel", "weathers", "(II)V"⟩ ∈ zGT := zGT_mem 2104 (by decide +kernel) (by decide +kernel)
theorem zw2105 : Cond.code ⟨"BookBargeModel", "weathers", "(II)V"⟩ cX12_weathers 4 (none : Option FieldType) ∈ zGT := zGT_mem 2105 (by decide +kernel) (by decide +kernel)
theorem zw2106 : Cond.methodLink RX12 532 ⟨"BookBargeModel", "draw", "(I)I"⟩ ∈ zGT := zGT_mem 2106 (by decide +kernel) (by decide +kernel)
theorem zw2108 : Cond.instanceMethod ⟨"BookBargeModel", "draw", "(I)I"⟩ ∈ zGT := zGT_mem 2108 (by decide +kernel) (by decide +kernel)
theorem zw2109 : Cond.code ⟨"BookBargeModel", "draw", "(I)I"⟩ cX12_draw 2 (some FieldType.int) ∈ zGT := zGT_mem 2109 (by decide +kernel) (by decide +kernel)
theorem zw2110 : Cond.constantLong RX12 524 1103515245 ∈ zGT := zGT_mem 2110 (by decide +kernel) (by decide +kernel)
theorem zw2111 : Cond.constantLong RX12 526 12345 ∈ zGT := zGT_mem 2111 (by decide +kernel) (by decide +kernel)
theorem zw2112 : Cond.constantLong RX12 528 2147483648 ∈ zGT := zGT_mem 2112 (by decide +kernel) (by decide +kernel)
theorem zw2113 : Cond.constantLong RX12 530 65536 ∈ zGT := zGT_mem 2113 (by decide +kernel) (by decide +kernel)
theorem zw2114 : Cond.methodLink RX12 543 ⟨"BookBargeModel", "putsBack", "()V"⟩ ∈ zGT := zGT_mem 2114 (by decide +kernel) (by decide +kernel)
theorem zw2116 : Cond.instanceMethod ⟨"BookBargeModel", "putsBack", "()V"⟩ ∈ zGT := zGT_mem 2116 (by decide +kernel) (by decide +kernel)
theorem zw2117 : Cond.code ⟨"BookBargeModel", "putsBack", "()V"⟩ cX12_putsBack 2 (none : Option FieldType) ∈ zGT := zGT_mem 2117 (by decide +kernel) (by decide +kernel)
theorem zw2122 : Cond.methodLink RX12 546 ⟨"BookBargeModel", "isSort", "(II)Z"⟩ ∈ zGT := zGT_mem 2122 (by decide +kernel) (by decide +kernel)
theorem zw2123 : Cond.static ⟨"BookBargeModel", "isSort", "(II)Z"⟩ ∈ zGT := zGT_mem 2123 (by decide +kernel) (by decide +kernel)
theorem zw2124 : Cond.code ⟨"BookBargeModel", "isSort", "(II)Z"⟩ cX12_isSort 2 (some FieldType.boolean) ∈ zGT := zGT_mem 2124 (by decide +kernel) (by decide +kernel)
theorem zw2125 : Cond.constantLong RX12 549 299 ∈ zGT := zGT_mem 2125 (by decide +kernel) (by decide +kernel)
theorem zw2130 : Cond.constantLong RX12 551 3 ∈ zGT := zGT_mem 2130 (by decide +kernel) (by decide +kernel)
theorem zw2135 : Cond.sameMethod "BookBarge$Scanner" "BookBarge$Scanner" "wordEnd" "()I" ∈ zGT := zGT_mem 2135 (by decide +kernel) (by decide +kernel)
theorem zw2136 : Cond.sameMethod "BookBarge$Scanner" "BookBarge$Scanner" "wrong" "(II)Z" ∈ zGT := zGT_mem 2136 (by decide +kernel) (by decide +kernel)
theorem zw2137 : Cond.selects "BookBarge$RiverParser" ⟨"BookBarge$Scanner", "wrong", "(II)Z"⟩ ⟨"BookBarge$Scanner", "wrong", "(II)Z"⟩ ∈ zGT := zGT_mem 2137 (by decide +kernel) (by decide +kernel)
theorem zw2138 : Cond.selects "BookBarge$RuleParser" ⟨"BookBarge$Scanner", "wrong", "(II)Z"⟩ ⟨"BookBarge$Scanner", "wrong", "(II)Z"⟩ ∈ zGT := zGT_mem 2138 (by decide +kernel) (by decide +kernel)
theorem zw2139 : Cond.sameMethod "BookBarge$Scanner" "BookBarge$Scanner" "wordAmong" "(Ljava/lang/String;)I" ∈ zGT := zGT_mem 2139 (by decide +kernel) (by decide +kernel)
theorem zw2140 : Cond.selects "BookBarge$RiverParser" ⟨"BookBarge$Scanner", "wordAmong", "(Ljava/lang/String;)I"⟩ ⟨"BookBarge$Scanner", "wordAmong", "(Ljava/lang/String;)I"⟩ ∈ zGT := zGT_mem 2140 (by decide +kernel) (by decide +kernel)
theorem zw2141 : Cond.selects "BookBarge$RuleParser" ⟨"BookBarge$Scanner", "wordAmong", "(Ljava/lang/String;)I"⟩ ⟨"BookBarge$Scanner", "wordAmong", "(Ljava/lang/String;)I"⟩ ∈ zGT := zGT_mem 2141 (by decide +kernel) (by decide +kernel)
theorem zw2142 : Cond.sameMethod "BookBarge$Scanner" "BookBarge$Scanner" "takeWord" "()V" ∈ zGT := zGT_mem 2142 (by decide +kernel) (by decide +kernel)
theorem zw2143 : Cond.selects "BookBarge$RiverParser" ⟨"BookBarge$Scanner", "takeWord", "()V"⟩ ⟨"BookBarge$Scanner", "takeWord", "()V"⟩ ∈ zGT := zGT_mem 2143 (by decide +kernel) (by decide +kernel)
theorem zw2144 : Cond.selects "BookBarge$RuleParser" ⟨"BookBarge$Scanner", "takeWord", "()V"⟩ ⟨"BookBarge$Scanner", "takeWord", "()V"⟩ ∈ zGT := zGT_mem 2144 (by decide +kernel) (by decide +kernel)
theorem zw2147 : Cond.selects "BookBarge$RiverParser" ⟨"BookBarge$Scanner", "wordEnd", "()I"⟩ ⟨"BookBarge$Scanner", "wordEnd", "()I"⟩ ∈ zGT := zGT_mem 2147 (by decide +kernel) (by decide +kernel)
theorem zw2148 : Cond.selects "BookBarge$RuleParser" ⟨"BookBarge$Scanner", "wordEnd", "()I"⟩ ⟨"BookBarge$Scanner", "wordEnd", "()I"⟩ ∈ zGT := zGT_mem 2148 (by decide +kernel) (by decide +kernel)
theorem zharr : ∀ ty ∈ [FieldType.byte, .int, .long, .boolean], Cond.arrayClass ty ∈ zGT := List.forall_mem_cons.mpr ⟨zw786, List.forall_mem_cons.mpr ⟨zw184, List.forall_mem_cons.mpr ⟨zw304, List.forall_mem_cons.mpr ⟨zw511, fun _ h => absurd h List.not_mem_nil⟩⟩⟩⟩
theorem zpw : zPW := ⟨⟨zw594, zw591, zw982, zw155, zw595, zw592, zw983⟩, ⟨zw598, zw597, zw156⟩, ⟨zw169, zw170⟩, ⟨zw905, zw906, zw907, zw908⟩⟩
theorem zinX0 : ∀ w ∈ u_ws RX0 TX0 11, w ∈ zGT := zsubl [461, 463, 465, 467, 469, 471, 473, 475, 477, 479, 481] (by decide +kernel) (by decide +kernel)
theorem zinX1 : ∀ w ∈ u_ws RX1 TX1 10, w ∈ zGT := zsubl [283, 285, 287, 289, 291, 293, 295, 297, 299, 301] (by decide +kernel) (by decide +kernel)
theorem zinX2 : ∀ w ∈ u_ws RX2 TX2 9, w ∈ zGT := zsubl [322, 324, 326, 328, 330, 332, 334, 336, 338] (by decide +kernel) (by decide +kernel)
theorem zinX3 : ∀ w ∈ u_ws RX3 TX3 17, w ∈ zGT := zsubl [365, 367, 369, 371, 373, 375, 377, 379, 381, 383, 385, 387, 389, 391, 393, 395, 397] (by decide +kernel) (by decide +kernel)
theorem zinX4 : ∀ w ∈ u_ws RX4 TX4 11, w ∈ zGT := zsubl [418, 420, 422, 424, 426, 428, 430, 432, 434, 436, 438] (by decide +kernel) (by decide +kernel)
theorem zinX5 : ∀ w ∈ u_ws RX5 TX5 6, w ∈ zGT := zsubl [498, 500, 502, 504, 506, 508] (by decide +kernel) (by decide +kernel)
theorem zinX6 : ∀ w ∈ u_ws RX6 TX6 7, w ∈ zGT := zsubl [223, 225, 227, 229, 231, 219, 221] (by decide +kernel) (by decide +kernel)
theorem zinX7 : ∀ w ∈ u_ws RX7 TX7 3, w ∈ zGT := zsubl [920, 922, 924] (by decide +kernel) (by decide +kernel)
theorem zinX8 : ∀ w ∈ u_ws RX8 TX8 10, w ∈ zGT := zsubl [255, 256, 257, 258, 259, 245, 247, 249, 251, 253] (by decide +kernel) (by decide +kernel)
theorem zinX10 : ∀ w ∈ u_ws RX10 TX10 1, w ∈ zGT := zsubl [181] (by decide +kernel) (by decide +kernel)
theorem zinX11 : ∀ w ∈ u_ws RX11 TX11 17, w ∈ zGT := zsubl [529, 531, 533, 535, 537, 539, 541, 543, 545, 547, 549, 551, 553, 555, 557, 559, 561] (by decide +kernel) (by decide +kernel)
theorem zinX12 : ∀ w ∈ u_ws RX12 TX12 39, w ∈ zGT := zsubl [1457, 1459, 1461, 1463, 1465, 1467, 1469, 1471, 1473, 1475, 1477, 1479, 1481, 1483, 1485, 1487, 1489, 1491, 1493, 1495, 1497, 1499, 1501, 1503, 1505, 1507, 1509, 1511, 1513, 1515, 1517, 1519, 1521, 1523, 1525, 1527, 1529, 1531, 1533] (by decide +kernel) (by decide +kernel)
theorem zcl_ok : zclOK := by
  intro c r h
  match c, h with
  | 0, h => cases h; exact ⟨by decide, zinX0, tyX0_ok, nmX0⟩
  | 1, h => cases h; exact ⟨by decide, zinX1, tyX1_ok, nmX1⟩
  | 2, h => cases h; exact ⟨by decide, zinX2, tyX2_ok, nmX2⟩
  | 3, h => cases h; exact ⟨by decide, zinX3, tyX3_ok, nmX3⟩
  | 4, h => cases h; exact ⟨by decide, zinX4, tyX4_ok, nmX4⟩
  | 5, h => cases h; exact ⟨by decide, zinX5, tyX5_ok, nmX5⟩
  | 6, h => cases h; exact ⟨by decide, zinX6, tyX6_ok, nmX6⟩
  | 7, h => cases h; exact ⟨by decide, zinX7, tyX7_ok, nmX7⟩
  | 8, h => cases h; exact ⟨by decide, zinX8, tyX8_ok, nmX8⟩
  | 9, h => cases h; exact ⟨by decide, zinX10, tyX10_ok, nmX10⟩
  | 10, h => cases h; exact ⟨by decide, zinX11, tyX11_ok, nmX11⟩
  | 11, h => cases h; exact ⟨by decide, zinX12, tyX12_ok, nmX12⟩
  | c + 12, h => simp [vwCl] at h
theorem zcl_df : zclDF := by
  intro c r h
  match c, h with
  | 0, h => cases h; exact zdf (by decide +kernel)
  | 1, h => cases h; exact zdf (by decide +kernel)
  | 2, h => cases h; exact zdf (by decide +kernel)
  | 3, h => cases h; exact zdf (by decide +kernel)
  | 4, h => cases h; exact zdf (by decide +kernel)
  | 5, h => cases h; exact zdf (by decide +kernel)
  | 6, h => cases h; exact zdf (by decide +kernel)
  | 7, h => cases h; exact zdf (by decide +kernel)
  | 8, h => cases h; exact zdf (by decide +kernel)
  | 9, h => cases h; exact zdf (by decide +kernel)
  | 10, h => cases h; exact zdf (by decide +kernel)
  | 11, h => cases h; exact zdf (by decide +kernel)
  | c + 12, h => simp [vwCl] at h
end
