section
-- ===== PART A: goes FIRST, ahead of the names: the tables' words, and 'selects' of the private methods out of them =====
/-- a private method of a class that the tables say can be made, by its rows of tables_1 -/
def lw_okq (q : MethodName × Nat) : Prop := (q.1.cls ≠ "java/lang/invoke/MethodHandle" ∧ q.1.cls ≠ "java/lang/invoke/VarHandle") ∧ Cond.instantiable q.1.cls q.2 ∈ tables_1 ∧ Cond.privateMethod q.1 ∈ tables_1 ∧ Cond.instanceMethod q.1 ∈ tables_1
theorem lw_p0 : lw_okq (⟨"SieveTub$Told", "setAsAtFirst", "()V"⟩, 8) := ⟨⟨by decide +kernel, by decide +kernel⟩, List.mem_of_getElem? (i := 30) (by decide +kernel), List.mem_of_getElem? (i := 69) (by decide +kernel), List.mem_of_getElem? (i := 70) (by decide +kernel)⟩
theorem lw_p1 : lw_okq (⟨"SieveTub$Told", "setFrost", "(II)V"⟩, 8) := ⟨⟨by decide +kernel, by decide +kernel⟩, List.mem_of_getElem? (i := 30) (by decide +kernel), List.mem_of_getElem? (i := 73) (by decide +kernel), List.mem_of_getElem? (i := 74) (by decide +kernel)⟩
theorem lw_p2 : lw_okq (⟨"SieveTub$Clauses", "readClause", "(LSieveTub$Letters;)Z"⟩, 7) := ⟨⟨by decide +kernel, by decide +kernel⟩, List.mem_of_getElem? (i := 141) (by decide +kernel), List.mem_of_getElem? (i := 430) (by decide +kernel), List.mem_of_getElem? (i := 431) (by decide +kernel)⟩
theorem lw_p3 : lw_okq (⟨"SieveTub$Letters", "typeAt", "(I)I"⟩, 5) := ⟨⟨by decide +kernel, by decide +kernel⟩, List.mem_of_getElem? (i := 115) (by decide +kernel), List.mem_of_getElem? (i := 438) (by decide +kernel), List.mem_of_getElem? (i := 439) (by decide +kernel)⟩
theorem lw_p4 : lw_okq (⟨"SieveTub$Clauses", "findWord", "(LSieveTub$Letters;)LSieveTub$Word;"⟩, 7) := ⟨⟨by decide +kernel, by decide +kernel⟩, List.mem_of_getElem? (i := 141) (by decide +kernel), List.mem_of_getElem? (i := 442) (by decide +kernel), List.mem_of_getElem? (i := 443) (by decide +kernel)⟩
theorem lw_p5 : lw_okq (⟨"SieveTub$Clauses", "countSisters", "(LSieveTub$Word;)Z"⟩, 7) := ⟨⟨by decide +kernel, by decide +kernel⟩, List.mem_of_getElem? (i := 141) (by decide +kernel), List.mem_of_getElem? (i := 498) (by decide +kernel), List.mem_of_getElem? (i := 499) (by decide +kernel)⟩
theorem lw_p6 : lw_okq (⟨"SieveTub$Told", "addSister", "(III)V"⟩, 8) := ⟨⟨by decide +kernel, by decide +kernel⟩, List.mem_of_getElem? (i := 30) (by decide +kernel), List.mem_of_getElem? (i := 531) (by decide +kernel), List.mem_of_getElem? (i := 532) (by decide +kernel)⟩
theorem lw_p7 : lw_okq (⟨"SieveTub", "isUnknown", "(I)Z"⟩, 12) := ⟨⟨by decide +kernel, by decide +kernel⟩, List.mem_of_getElem? (i := 22) (by decide +kernel), List.mem_of_getElem? (i := 539) (by decide +kernel), List.mem_of_getElem? (i := 540) (by decide +kernel)⟩
theorem lw_p8 : lw_okq (⟨"SieveTub$Walker", "pour", "(LSieveTub$Sister;)I"⟩, 5) := ⟨⟨by decide +kernel, by decide +kernel⟩, List.mem_of_getElem? (i := 194) (by decide +kernel), List.mem_of_getElem? (i := 625) (by decide +kernel), List.mem_of_getElem? (i := 626) (by decide +kernel)⟩
theorem lw_p9 : lw_okq (⟨"SieveTub$Forecast", "fill", "(III)V"⟩, 7) := ⟨⟨by decide +kernel, by decide +kernel⟩, List.mem_of_getElem? (i := 275) (by decide +kernel), List.mem_of_getElem? (i := 665) (by decide +kernel), List.mem_of_getElem? (i := 666) (by decide +kernel)⟩
theorem lw_p10 : lw_okq (⟨"SieveTub$Forecast", "pouredIn", "(I)I"⟩, 7) := ⟨⟨by decide +kernel, by decide +kernel⟩, List.mem_of_getElem? (i := 275) (by decide +kernel), List.mem_of_getElem? (i := 675) (by decide +kernel), List.mem_of_getElem? (i := 676) (by decide +kernel)⟩
theorem lw_p11 : lw_okq (⟨"SieveTub", "firstFull", "(I)I"⟩, 12) := ⟨⟨by decide +kernel, by decide +kernel⟩, List.mem_of_getElem? (i := 22) (by decide +kernel), List.mem_of_getElem? (i := 690) (by decide +kernel), List.mem_of_getElem? (i := 691) (by decide +kernel)⟩
theorem lw_p12 : lw_okq (⟨"SieveTub$Delays", "fill", "(LSieveTub$Scene;II)V"⟩, 10) := ⟨⟨by decide +kernel, by decide +kernel⟩, List.mem_of_getElem? (i := 312) (by decide +kernel), List.mem_of_getElem? (i := 728) (by decide +kernel), List.mem_of_getElem? (i := 729) (by decide +kernel)⟩
theorem lw_p13 : lw_okq (⟨"SieveTub$Delays", "tryFrom", "(I)V"⟩, 10) := ⟨⟨by decide +kernel, by decide +kernel⟩, List.mem_of_getElem? (i := 312) (by decide +kernel), List.mem_of_getElem? (i := 736) (by decide +kernel), List.mem_of_getElem? (i := 737) (by decide +kernel)⟩
theorem lw_p14 : lw_okq (⟨"SieveTub$Delays", "judge", "([I)V"⟩, 10) := ⟨⟨by decide +kernel, by decide +kernel⟩, List.mem_of_getElem? (i := 312) (by decide +kernel), List.mem_of_getElem? (i := 740) (by decide +kernel), List.mem_of_getElem? (i := 741) (by decide +kernel)⟩
theorem lw_p15 : lw_okq (⟨"SieveTub$Delays", "addRow", "(II)V"⟩, 10) := ⟨⟨by decide +kernel, by decide +kernel⟩, List.mem_of_getElem? (i := 312) (by decide +kernel), List.mem_of_getElem? (i := 750) (by decide +kernel), List.mem_of_getElem? (i := 751) (by decide +kernel)⟩
def lw_privs_1 : List (MethodName × Nat) := [(⟨"SieveTub$Told", "setAsAtFirst", "()V"⟩, 8), (⟨"SieveTub$Told", "setFrost", "(II)V"⟩, 8), (⟨"SieveTub$Clauses", "readClause", "(LSieveTub$Letters;)Z"⟩, 7), (⟨"SieveTub$Letters", "typeAt", "(I)I"⟩, 5), (⟨"SieveTub$Clauses", "findWord", "(LSieveTub$Letters;)LSieveTub$Word;"⟩, 7), (⟨"SieveTub$Clauses", "countSisters", "(LSieveTub$Word;)Z"⟩, 7), (⟨"SieveTub$Told", "addSister", "(III)V"⟩, 8), (⟨"SieveTub", "isUnknown", "(I)Z"⟩, 12), (⟨"SieveTub$Walker", "pour", "(LSieveTub$Sister;)I"⟩, 5), (⟨"SieveTub$Forecast", "fill", "(III)V"⟩, 7), (⟨"SieveTub$Forecast", "pouredIn", "(I)I"⟩, 7), (⟨"SieveTub", "firstFull", "(I)I"⟩, 12), (⟨"SieveTub$Delays", "fill", "(LSieveTub$Scene;II)V"⟩, 10), (⟨"SieveTub$Delays", "tryFrom", "(I)V"⟩, 10), (⟨"SieveTub$Delays", "judge", "([I)V"⟩, 10), (⟨"SieveTub$Delays", "addRow", "(II)V"⟩, 10)]
theorem lw_r1 : ∀ q ∈ lw_privs_1, lw_okq q := List.forall_mem_cons.mpr ⟨lw_p0, List.forall_mem_cons.mpr ⟨lw_p1, List.forall_mem_cons.mpr ⟨lw_p2, List.forall_mem_cons.mpr ⟨lw_p3, List.forall_mem_cons.mpr ⟨lw_p4, List.forall_mem_cons.mpr ⟨lw_p5, List.forall_mem_cons.mpr ⟨lw_p6, List.forall_mem_cons.mpr ⟨lw_p7, List.forall_mem_cons.mpr ⟨lw_p8, List.forall_mem_cons.mpr ⟨lw_p9, List.forall_mem_cons.mpr ⟨lw_p10, List.forall_mem_cons.mpr ⟨lw_p11, List.forall_mem_cons.mpr ⟨lw_p12, List.forall_mem_cons.mpr ⟨lw_p13, List.forall_mem_cons.mpr ⟨lw_p14, List.forall_mem_cons.mpr ⟨lw_p15, fun _ h => absurd h List.not_mem_nil⟩⟩⟩⟩⟩⟩⟩⟩⟩⟩⟩⟩⟩⟩⟩⟩
theorem lw_p16 : lw_okq (⟨"SieveTub", "latestSeen", "()I"⟩, 12) := ⟨⟨by decide +kernel, by decide +kernel⟩, List.mem_of_getElem? (i := 22) (by decide +kernel), List.mem_of_getElem? (i := 770) (by decide +kernel), List.mem_of_getElem? (i := 771) (by decide +kernel)⟩
theorem lw_p17 : lw_okq (⟨"SieveTub", "fitsSeen", "()Z"⟩, 12) := ⟨⟨by decide +kernel, by decide +kernel⟩, List.mem_of_getElem? (i := 22) (by decide +kernel), List.mem_of_getElem? (i := 780) (by decide +kernel), List.mem_of_getElem? (i := 781) (by decide +kernel)⟩
theorem lw_p18 : lw_okq (⟨"SieveTubModel", "readText", "()Z"⟩, 20) := ⟨⟨by decide +kernel, by decide +kernel⟩, List.mem_of_getElem? (i := 798) (by decide +kernel), List.mem_of_getElem? (i := 884) (by decide +kernel), List.mem_of_getElem? (i := 885) (by decide +kernel)⟩
theorem lw_p19 : lw_okq (⟨"SieveTubModel", "nextToken", "()V"⟩, 20) := ⟨⟨by decide +kernel, by decide +kernel⟩, List.mem_of_getElem? (i := 798) (by decide +kernel), List.mem_of_getElem? (i := 888) (by decide +kernel), List.mem_of_getElem? (i := 889) (by decide +kernel)⟩
theorem lw_p20 : lw_okq (⟨"SieveTubModel", "letterAt", "(I)I"⟩, 20) := ⟨⟨by decide +kernel, by decide +kernel⟩, List.mem_of_getElem? (i := 798) (by decide +kernel), List.mem_of_getElem? (i := 892) (by decide +kernel), List.mem_of_getElem? (i := 893) (by decide +kernel)⟩
theorem lw_p21 : lw_okq (⟨"SieveTubModel", "readClause", "()Z"⟩, 20) := ⟨⟨by decide +kernel, by decide +kernel⟩, List.mem_of_getElem? (i := 798) (by decide +kernel), List.mem_of_getElem? (i := 900) (by decide +kernel), List.mem_of_getElem? (i := 901) (by decide +kernel)⟩
theorem lw_p22 : lw_okq (⟨"SieveTubModel", "verb", "()I"⟩, 20) := ⟨⟨by decide +kernel, by decide +kernel⟩, List.mem_of_getElem? (i := 798) (by decide +kernel), List.mem_of_getElem? (i := 904) (by decide +kernel), List.mem_of_getElem? (i := 905) (by decide +kernel)⟩
theorem lw_p23 : lw_okq (⟨"SieveTubModel", "wordOf", "()J"⟩, 20) := ⟨⟨by decide +kernel, by decide +kernel⟩, List.mem_of_getElem? (i := 798) (by decide +kernel), List.mem_of_getElem? (i := 908) (by decide +kernel), List.mem_of_getElem? (i := 909) (by decide +kernel)⟩
theorem lw_p24 : lw_okq (⟨"SieveTubModel", "readSister", "(I)Z"⟩, 20) := ⟨⟨by decide +kernel, by decide +kernel⟩, List.mem_of_getElem? (i := 798) (by decide +kernel), List.mem_of_getElem? (i := 916) (by decide +kernel), List.mem_of_getElem? (i := 917) (by decide +kernel)⟩
theorem lw_p25 : lw_okq (⟨"SieveTubModel", "number", "(II)I"⟩, 20) := ⟨⟨by decide +kernel, by decide +kernel⟩, List.mem_of_getElem? (i := 798) (by decide +kernel), List.mem_of_getElem? (i := 920) (by decide +kernel), List.mem_of_getElem? (i := 921) (by decide +kernel)⟩
theorem lw_p26 : lw_okq (⟨"SieveTubModel", "takes", "(III)Z"⟩, 20) := ⟨⟨by decide +kernel, by decide +kernel⟩, List.mem_of_getElem? (i := 798) (by decide +kernel), List.mem_of_getElem? (i := 924) (by decide +kernel), List.mem_of_getElem? (i := 925) (by decide +kernel)⟩
theorem lw_p27 : lw_okq (⟨"SieveTubModel", "anew", "()V"⟩, 20) := ⟨⟨by decide +kernel, by decide +kernel⟩, List.mem_of_getElem? (i := 798) (by decide +kernel), List.mem_of_getElem? (i := 932) (by decide +kernel), List.mem_of_getElem? (i := 933) (by decide +kernel)⟩
theorem lw_p28 : lw_okq (⟨"SieveTubModel", "isSister", "(I)Z"⟩, 20) := ⟨⟨by decide +kernel, by decide +kernel⟩, List.mem_of_getElem? (i := 798) (by decide +kernel), List.mem_of_getElem? (i := 940) (by decide +kernel), List.mem_of_getElem? (i := 941) (by decide +kernel)⟩
theorem lw_p29 : lw_okq (⟨"SieveTubModel", "of", "(II)I"⟩, 20) := ⟨⟨by decide +kernel, by decide +kernel⟩, List.mem_of_getElem? (i := 798) (by decide +kernel), List.mem_of_getElem? (i := 944) (by decide +kernel), List.mem_of_getElem? (i := 945) (by decide +kernel)⟩
theorem lw_p30 : lw_okq (⟨"SieveTubModel", "mossOf", "(I)I"⟩, 20) := ⟨⟨by decide +kernel, by decide +kernel⟩, List.mem_of_getElem? (i := 798) (by decide +kernel), List.mem_of_getElem? (i := 948) (by decide +kernel), List.mem_of_getElem? (i := 949) (by decide +kernel)⟩
theorem lw_p31 : lw_okq (⟨"SieveTubModel", "walkOf", "(I)I"⟩, 20) := ⟨⟨by decide +kernel, by decide +kernel⟩, List.mem_of_getElem? (i := 798) (by decide +kernel), List.mem_of_getElem? (i := 957) (by decide +kernel), List.mem_of_getElem? (i := 958) (by decide +kernel)⟩
def lw_privs_2 : List (MethodName × Nat) := [(⟨"SieveTub", "latestSeen", "()I"⟩, 12), (⟨"SieveTub", "fitsSeen", "()Z"⟩, 12), (⟨"SieveTubModel", "readText", "()Z"⟩, 20), (⟨"SieveTubModel", "nextToken", "()V"⟩, 20), (⟨"SieveTubModel", "letterAt", "(I)I"⟩, 20), (⟨"SieveTubModel", "readClause", "()Z"⟩, 20), (⟨"SieveTubModel", "verb", "()I"⟩, 20), (⟨"SieveTubModel", "wordOf", "()J"⟩, 20), (⟨"SieveTubModel", "readSister", "(I)Z"⟩, 20), (⟨"SieveTubModel", "number", "(II)I"⟩, 20), (⟨"SieveTubModel", "takes", "(III)Z"⟩, 20), (⟨"SieveTubModel", "anew", "()V"⟩, 20), (⟨"SieveTubModel", "isSister", "(I)Z"⟩, 20), (⟨"SieveTubModel", "of", "(II)I"⟩, 20), (⟨"SieveTubModel", "mossOf", "(I)I"⟩, 20), (⟨"SieveTubModel", "walkOf", "(I)I"⟩, 20)]
theorem lw_r2 : ∀ q ∈ lw_privs_2, lw_okq q := List.forall_mem_cons.mpr ⟨lw_p16, List.forall_mem_cons.mpr ⟨lw_p17, List.forall_mem_cons.mpr ⟨lw_p18, List.forall_mem_cons.mpr ⟨lw_p19, List.forall_mem_cons.mpr ⟨lw_p20, List.forall_mem_cons.mpr ⟨lw_p21, List.forall_mem_cons.mpr ⟨lw_p22, List.forall_mem_cons.mpr ⟨lw_p23, List.forall_mem_cons.mpr ⟨lw_p24, List.forall_mem_cons.mpr ⟨lw_p25, List.forall_mem_cons.mpr ⟨lw_p26, List.forall_mem_cons.mpr ⟨lw_p27, List.forall_mem_cons.mpr ⟨lw_p28, List.forall_mem_cons.mpr ⟨lw_p29, List.forall_mem_cons.mpr ⟨lw_p30, List.forall_mem_cons.mpr ⟨lw_p31, fun _ h => absurd h List.not_mem_nil⟩⟩⟩⟩⟩⟩⟩⟩⟩⟩⟩⟩⟩⟩⟩⟩
theorem lw_p32 : lw_okq (⟨"SieveTubModel", "dripOf", "(I)I"⟩, 20) := ⟨⟨by decide +kernel, by decide +kernel⟩, List.mem_of_getElem? (i := 798) (by decide +kernel), List.mem_of_getElem? (i := 966) (by decide +kernel), List.mem_of_getElem? (i := 967) (by decide +kernel)⟩
theorem lw_p33 : lw_okq (⟨"SieveTubModel", "note", "()V"⟩, 20) := ⟨⟨by decide +kernel, by decide +kernel⟩, List.mem_of_getElem? (i := 798) (by decide +kernel), List.mem_of_getElem? (i := 974) (by decide +kernel), List.mem_of_getElem? (i := 975) (by decide +kernel)⟩
theorem lw_p34 : lw_okq (⟨"SieveTubModel", "draws", "(I)V"⟩, 20) := ⟨⟨by decide +kernel, by decide +kernel⟩, List.mem_of_getElem? (i := 798) (by decide +kernel), List.mem_of_getElem? (i := 978) (by decide +kernel), List.mem_of_getElem? (i := 979) (by decide +kernel)⟩
theorem lw_p35 : lw_okq (⟨"SieveTubModel", "restNow", "(I)V"⟩, 20) := ⟨⟨by decide +kernel, by decide +kernel⟩, List.mem_of_getElem? (i := 798) (by decide +kernel), List.mem_of_getElem? (i := 986) (by decide +kernel), List.mem_of_getElem? (i := 987) (by decide +kernel)⟩
theorem lw_p36 : lw_okq (⟨"SieveTubModel", "oneMinute", "()I"⟩, 20) := ⟨⟨by decide +kernel, by decide +kernel⟩, List.mem_of_getElem? (i := 798) (by decide +kernel), List.mem_of_getElem? (i := 1007) (by decide +kernel), List.mem_of_getElem? (i := 1008) (by decide +kernel)⟩
theorem lw_p37 : lw_okq (⟨"SieveTubModel", "step", "(I)I"⟩, 20) := ⟨⟨by decide +kernel, by decide +kernel⟩, List.mem_of_getElem? (i := 798) (by decide +kernel), List.mem_of_getElem? (i := 1011) (by decide +kernel), List.mem_of_getElem? (i := 1012) (by decide +kernel)⟩
theorem lw_p38 : lw_okq (⟨"SieveTubModel", "dripNow", "(I)I"⟩, 20) := ⟨⟨by decide +kernel, by decide +kernel⟩, List.mem_of_getElem? (i := 798) (by decide +kernel), List.mem_of_getElem? (i := 1015) (by decide +kernel), List.mem_of_getElem? (i := 1016) (by decide +kernel)⟩
theorem lw_p39 : lw_okq (⟨"SieveTubModel", "putAside", "()V"⟩, 20) := ⟨⟨by decide +kernel, by decide +kernel⟩, List.mem_of_getElem? (i := 798) (by decide +kernel), List.mem_of_getElem? (i := 1038) (by decide +kernel), List.mem_of_getElem? (i := 1039) (by decide +kernel)⟩
theorem lw_p40 : lw_okq (⟨"SieveTubModel", "levelBehind", "(I)I"⟩, 20) := ⟨⟨by decide +kernel, by decide +kernel⟩, List.mem_of_getElem? (i := 798) (by decide +kernel), List.mem_of_getElem? (i := 1042) (by decide +kernel), List.mem_of_getElem? (i := 1043) (by decide +kernel)⟩
theorem lw_p41 : lw_okq (⟨"SieveTubModel", "takeBack", "()V"⟩, 20) := ⟨⟨by decide +kernel, by decide +kernel⟩, List.mem_of_getElem? (i := 798) (by decide +kernel), List.mem_of_getElem? (i := 1046) (by decide +kernel), List.mem_of_getElem? (i := 1047) (by decide +kernel)⟩
theorem lw_p42 : lw_okq (⟨"SieveTubModel", "highestOf", "(I)I"⟩, 20) := ⟨⟨by decide +kernel, by decide +kernel⟩, List.mem_of_getElem? (i := 798) (by decide +kernel), List.mem_of_getElem? (i := 1054) (by decide +kernel), List.mem_of_getElem? (i := 1055) (by decide +kernel)⟩
theorem lw_p43 : lw_okq (⟨"SieveTubModel", "fullIn", "(I)I"⟩, 20) := ⟨⟨by decide +kernel, by decide +kernel⟩, List.mem_of_getElem? (i := 798) (by decide +kernel), List.mem_of_getElem? (i := 1062) (by decide +kernel), List.mem_of_getElem? (i := 1063) (by decide +kernel)⟩
theorem lw_p44 : lw_okq (⟨"SieveTubModel", "working", "()I"⟩, 20) := ⟨⟨by decide +kernel, by decide +kernel⟩, List.mem_of_getElem? (i := 798) (by decide +kernel), List.mem_of_getElem? (i := 1078) (by decide +kernel), List.mem_of_getElem? (i := 1079) (by decide +kernel)⟩
theorem lw_p45 : lw_okq (⟨"SieveTubModel", "highestBy", "(II)I"⟩, 20) := ⟨⟨by decide +kernel, by decide +kernel⟩, List.mem_of_getElem? (i := 798) (by decide +kernel), List.mem_of_getElem? (i := 1093) (by decide +kernel), List.mem_of_getElem? (i := 1094) (by decide +kernel)⟩
theorem lw_p46 : lw_okq (⟨"SieveTubModel", "isBy", "(I)Z"⟩, 20) := ⟨⟨by decide +kernel, by decide +kernel⟩, List.mem_of_getElem? (i := 798) (by decide +kernel), List.mem_of_getElem? (i := 1114) (by decide +kernel), List.mem_of_getElem? (i := 1115) (by decide +kernel)⟩
def lw_privs_3 : List (MethodName × Nat) := [(⟨"SieveTubModel", "dripOf", "(I)I"⟩, 20), (⟨"SieveTubModel", "note", "()V"⟩, 20), (⟨"SieveTubModel", "draws", "(I)V"⟩, 20), (⟨"SieveTubModel", "restNow", "(I)V"⟩, 20), (⟨"SieveTubModel", "oneMinute", "()I"⟩, 20), (⟨"SieveTubModel", "step", "(I)I"⟩, 20), (⟨"SieveTubModel", "dripNow", "(I)I"⟩, 20), (⟨"SieveTubModel", "putAside", "()V"⟩, 20), (⟨"SieveTubModel", "levelBehind", "(I)I"⟩, 20), (⟨"SieveTubModel", "takeBack", "()V"⟩, 20), (⟨"SieveTubModel", "highestOf", "(I)I"⟩, 20), (⟨"SieveTubModel", "fullIn", "(I)I"⟩, 20), (⟨"SieveTubModel", "working", "()I"⟩, 20), (⟨"SieveTubModel", "highestBy", "(II)I"⟩, 20), (⟨"SieveTubModel", "isBy", "(I)Z"⟩, 20)]
theorem lw_r3 : ∀ q ∈ lw_privs_3, lw_okq q := List.forall_mem_cons.mpr ⟨lw_p32, List.forall_mem_cons.mpr ⟨lw_p33, List.forall_mem_cons.mpr ⟨lw_p34, List.forall_mem_cons.mpr ⟨lw_p35, List.forall_mem_cons.mpr ⟨lw_p36, List.forall_mem_cons.mpr ⟨lw_p37, List.forall_mem_cons.mpr ⟨lw_p38, List.forall_mem_cons.mpr ⟨lw_p39, List.forall_mem_cons.mpr ⟨lw_p40, List.forall_mem_cons.mpr ⟨lw_p41, List.forall_mem_cons.mpr ⟨lw_p42, List.forall_mem_cons.mpr ⟨lw_p43, List.forall_mem_cons.mpr ⟨lw_p44, List.forall_mem_cons.mpr ⟨lw_p45, List.forall_mem_cons.mpr ⟨lw_p46, fun _ h => absurd h List.not_mem_nil⟩⟩⟩⟩⟩⟩⟩⟩⟩⟩⟩⟩⟩⟩⟩
def lw_privs : List (MethodName × Nat) := lw_privs_1 ++ (lw_privs_2 ++ (lw_privs_3))
def lw_tbl : List Cond := k2_sels lw_privs ++ tables_1
theorem lw_privs_ok : ∀ q ∈ lw_privs, lw_okq q := by
  show ∀ q ∈ lw_privs_1 ++ (lw_privs_2 ++ (lw_privs_3)), lw_okq q
  exact List.forall_mem_append.mpr ⟨lw_r1, List.forall_mem_append.mpr ⟨lw_r2, lw_r3⟩⟩
end
section
def RX0 : String := "SieveTub$Clauses"
def TX0 : u_T := fun k => match k with
  | 0 => ("SieveTub$Clauses", "allWords", "[LSieveTub$Word;", true)
  | 1 => ("SieveTub$Clauses", "deeds", "[I", true)
  | 2 => ("SieveTub$Clauses", "kinds", "[I", true)
  | 3 => ("SieveTub$Clauses", "firsts", "[I", true)
  | 4 => ("SieveTub$Clauses", "seconds", "[I", true)
  | 5 => ("SieveTub$Clauses", "count", "I", false)
  | _ => ("SieveTub$Clauses", "sisters", "I", false)
def tyX0 : Nat → FieldType := fun k => match k with
  | 0 => .array (.object "SieveTub$Word")
  | 1 => .array .int
  | 2 => .array .int
  | 3 => .array .int
  | 4 => .array .int
  | 5 => .int
  | _ => .int
theorem nmX0 : ∀ a, a < 7 → ∀ b, b < 7 → a ≠ b → (TX0 a).2.1 ≠ (TX0 b).2.1 := by decide +kernel
theorem tyX0_ok : ∀ k, k < 7 → parseFieldDescriptor (TX0 k).2.2.1 = some (tyX0 k) := by decide +kernel
abbrev cX0_init : ByteArray := prog_2_method_1_code
def yX0_init : MethodName := ⟨RX0, "<init>", "()V"⟩
abbrev cX0_read : ByteArray := prog_2_method_2_code
def yX0_read : MethodName := ⟨RX0, "read", "(LSieveTub$Letters;I)I"⟩
abbrev cX0_readClause : ByteArray := prog_2_method_3_code
def yX0_readClause : MethodName := ⟨RX0, "readClause", "(LSieveTub$Letters;)Z"⟩
abbrev cX0_findWord : ByteArray := prog_2_method_4_code
def yX0_findWord : MethodName := ⟨RX0, "findWord", "(LSieveTub$Letters;)LSieveTub$Word;"⟩
abbrev cX0_countSisters : ByteArray := prog_2_method_5_code
def yX0_countSisters : MethodName := ⟨RX0, "countSisters", "(LSieveTub$Word;)Z"⟩
def RX1 : String := "SieveTub$Delays"
def TX1 : u_T := fun k => match k with
  | 0 => ("SieveTub$Delays", "told", "LSieveTub$Told;", true)
  | 1 => ("SieveTub$Delays", "pours", "[[I", true)
  | 2 => ("SieveTub$Delays", "sums", "[[I", true)
  | 3 => ("SieveTub$Delays", "tried", "[I", true)
  | 4 => ("SieveTub$Delays", "walker", "LSieveTub$Walker;", true)
  | 5 => ("SieveTub$Delays", "best", "[I", true)
  | 6 => ("SieveTub$Delays", "most", "I", false)
  | 7 => ("SieveTub$Delays", "level", "I", false)
  | 8 => ("SieveTub$Delays", "hole", "I", false)
  | _ => ("SieveTub$Delays", "minutes", "I", false)
def tyX1 : Nat → FieldType := fun k => match k with
  | 0 => .object "SieveTub$Told"
  | 1 => .array (.array .int)
  | 2 => .array (.array .int)
  | 3 => .array .int
  | 4 => .object "SieveTub$Walker"
  | 5 => .array .int
  | 6 => .int
  | 7 => .int
  | 8 => .int
  | _ => .int
theorem nmX1 : ∀ a, a < 10 → ∀ b, b < 10 → a ≠ b → (TX1 a).2.1 ≠ (TX1 b).2.1 := by decide +kernel
theorem tyX1_ok : ∀ k, k < 10 → parseFieldDescriptor (TX1 k).2.2.1 = some (tyX1 k) := by decide +kernel
abbrev cX1_init : ByteArray := prog_3_method_1_code
def yX1_init : MethodName := ⟨RX1, "<init>", "(LSieveTub$Told;)V"⟩
abbrev cX1_search : ByteArray := prog_3_method_2_code
def yX1_search : MethodName := ⟨RX1, "search", "(LSieveTub$Scene;I)V"⟩
abbrev cX1_fill : ByteArray := prog_3_method_3_code
def yX1_fill : MethodName := ⟨RX1, "fill", "(LSieveTub$Scene;II)V"⟩
abbrev cX1_tryFrom : ByteArray := prog_3_method_4_code
def yX1_tryFrom : MethodName := ⟨RX1, "tryFrom", "(I)V"⟩
abbrev cX1_addRow : ByteArray := prog_3_method_5_code
def yX1_addRow : MethodName := ⟨RX1, "addRow", "(II)V"⟩
abbrev cX1_judge : ByteArray := prog_3_method_6_code
def yX1_judge : MethodName := ⟨RX1, "judge", "([I)V"⟩
def RX2 : String := "SieveTub$Forecast"
def TX2 : u_T := fun k => match k with
  | 0 => ("SieveTub$Forecast", "told", "LSieveTub$Told;", true)
  | 1 => ("SieveTub$Forecast", "pours", "[[I", true)
  | 2 => ("SieveTub$Forecast", "walker", "LSieveTub$Walker;", true)
  | 3 => ("SieveTub$Forecast", "levels", "[I", true)
  | 4 => ("SieveTub$Forecast", "set", "I", false)
  | 5 => ("SieveTub$Forecast", "highest", "I", false)
  | _ => ("SieveTub$Forecast", "firstFull", "I", false)
def tyX2 : Nat → FieldType := fun k => match k with
  | 0 => .object "SieveTub$Told"
  | 1 => .array (.array .int)
  | 2 => .object "SieveTub$Walker"
  | 3 => .array .int
  | 4 => .int
  | 5 => .int
  | _ => .int
theorem nmX2 : ∀ a, a < 7 → ∀ b, b < 7 → a ≠ b → (TX2 a).2.1 ≠ (TX2 b).2.1 := by decide +kernel
theorem tyX2_ok : ∀ k, k < 7 → parseFieldDescriptor (TX2 k).2.2.1 = some (tyX2 k) := by decide +kernel
abbrev cX2_init : ByteArray := prog_4_method_1_code
def yX2_init : MethodName := ⟨RX2, "<init>", "(LSieveTub$Told;)V"⟩
abbrev cX2_takeAll : ByteArray := prog_4_method_2_code
def yX2_takeAll : MethodName := ⟨RX2, "takeAll", "(LSieveTub$Scene;I)V"⟩
abbrev cX2_takeOne : ByteArray := prog_4_method_3_code
def yX2_takeOne : MethodName := ⟨RX2, "takeOne", "(LSieveTub$Scene;III)V"⟩
abbrev cX2_takeBegun : ByteArray := prog_4_method_4_code
def yX2_takeBegun : MethodName := ⟨RX2, "takeBegun", "(I)V"⟩
abbrev cX2_fill : ByteArray := prog_4_method_5_code
def yX2_fill : MethodName := ⟨RX2, "fill", "(III)V"⟩
abbrev cX2_run : ByteArray := prog_4_method_6_code
def yX2_run : MethodName := ⟨RX2, "run", "(III)V"⟩
abbrev cX2_pouredIn : ByteArray := prog_4_method_7_code
def yX2_pouredIn : MethodName := ⟨RX2, "pouredIn", "(I)I"⟩
def RX3 : String := "SieveTub$Letters"
def TX3 : u_T := fun k => match k with
  | 0 => ("SieveTub$Letters", "letters", "[I", true)
  | 1 => ("SieveTub$Letters", "length", "I", false)
  | 2 => ("SieveTub$Letters", "type", "I", false)
  | 3 => ("SieveTub$Letters", "from", "I", false)
  | _ => ("SieveTub$Letters", "to", "I", false)
def tyX3 : Nat → FieldType := fun k => match k with
  | 0 => .array .int
  | 1 => .int
  | 2 => .int
  | 3 => .int
  | _ => .int
theorem nmX3 : ∀ a, a < 5 → ∀ b, b < 5 → a ≠ b → (TX3 a).2.1 ≠ (TX3 b).2.1 := by decide +kernel
theorem tyX3_ok : ∀ k, k < 5 → parseFieldDescriptor (TX3 k).2.2.1 = some (tyX3 k) := by decide +kernel
abbrev cX3_init : ByteArray := prog_5_method_1_code
def yX3_init : MethodName := ⟨RX3, "<init>", "()V"⟩
abbrev cX3_add : ByteArray := prog_5_method_2_code
def yX3_add : MethodName := ⟨RX3, "add", "(I)Z"⟩
abbrev cX3_readFromStart : ByteArray := prog_5_method_3_code
def yX3_readFromStart : MethodName := ⟨RX3, "readFromStart", "()V"⟩
abbrev cX3_readToken : ByteArray := prog_5_method_4_code
def yX3_readToken : MethodName := ⟨RX3, "readToken", "()V"⟩
abbrev cX3_typeAt : ByteArray := prog_5_method_5_code
def yX3_typeAt : MethodName := ⟨RX3, "typeAt", "(I)I"⟩
abbrev cX3_isWord : ByteArray := prog_5_method_6_code
def yX3_isWord : MethodName := ⟨RX3, "isWord", "(Ljava/lang/String;)Z"⟩
abbrev cX3_isSemicolon : ByteArray := prog_5_method_7_code
def yX3_isSemicolon : MethodName := ⟨RX3, "isSemicolon", "()Z"⟩
abbrev cX3_number : ByteArray := prog_5_method_8_code
def yX3_number : MethodName := ⟨RX3, "number", "()I"⟩
def RX4 : String := "SieveTub$Past"
def TX4 : u_T := fun k => match k with
  | 0 => ("SieveTub$Past", "scenes", "[LSieveTub$Scene;", true)
  | 1 => ("SieveTub$Past", "next", "I", false)
  | _ => ("SieveTub$Past", "size", "I", false)
def tyX4 : Nat → FieldType := fun k => match k with
  | 0 => .array (.object "SieveTub$Scene")
  | 1 => .int
  | _ => .int
theorem nmX4 : ∀ a, a < 3 → ∀ b, b < 3 → a ≠ b → (TX4 a).2.1 ≠ (TX4 b).2.1 := by decide +kernel
theorem tyX4_ok : ∀ k, k < 3 → parseFieldDescriptor (TX4 k).2.2.1 = some (tyX4 k) := by decide +kernel
abbrev cX4_init : ByteArray := prog_6_method_1_code
def yX4_init : MethodName := ⟨RX4, "<init>", "()V"⟩
abbrev cX4_push : ByteArray := prog_6_method_2_code
def yX4_push : MethodName := ⟨RX4, "push", "(LSieveTub$Scene;)V"⟩
abbrev cX4_pop : ByteArray := prog_6_method_3_code
def yX4_pop : MethodName := ⟨RX4, "pop", "(LSieveTub$Scene;)Z"⟩
def RX5 : String := "SieveTub$Scene"
def TX5 : u_T := fun k => match k with
  | 0 => ("SieveTub$Scene", "minute", "I", false)
  | 1 => ("SieveTub$Scene", "level", "I", false)
  | 2 => ("SieveTub$Scene", "hole", "I", false)
  | 3 => ("SieveTub$Scene", "timesFull", "I", false)
  | 4 => ("SieveTub$Scene", "poured", "I", false)
  | _ => ("SieveTub$Scene", "walkers", "[LSieveTub$Walker;", true)
def tyX5 : Nat → FieldType := fun k => match k with
  | 0 => .int
  | 1 => .int
  | 2 => .int
  | 3 => .int
  | 4 => .int
  | _ => .array (.object "SieveTub$Walker")
theorem nmX5 : ∀ a, a < 6 → ∀ b, b < 6 → a ≠ b → (TX5 a).2.1 ≠ (TX5 b).2.1 := by decide +kernel
theorem tyX5_ok : ∀ k, k < 6 → parseFieldDescriptor (TX5 k).2.2.1 = some (tyX5 k) := by decide +kernel
abbrev cX5_init : ByteArray := prog_7_method_1_code
def yX5_init : MethodName := ⟨RX5, "<init>", "()V"⟩
abbrev cX5_copy : ByteArray := prog_7_method_2_code
def yX5_copy : MethodName := ⟨RX5, "copy", "(LSieveTub$Scene;)V"⟩
abbrev cX5_startAnew : ByteArray := prog_7_method_3_code
def yX5_startAnew : MethodName := ⟨RX5, "startAnew", "(I)V"⟩
abbrev cX5_passMinute : ByteArray := prog_7_method_4_code
def yX5_passMinute : MethodName := ⟨RX5, "passMinute", "(LSieveTub$Told;)V"⟩
abbrev cX5_workers : ByteArray := prog_7_method_5_code
def yX5_workers : MethodName := ⟨RX5, "workers", "()I"⟩
def RX6 : String := "SieveTub$Sister"
def TX6 : u_T := fun k => match k with
  | 0 => ("SieveTub$Sister", "kind", "I", false)
  | 1 => ("SieveTub$Sister", "pace", "I", false)
  | 2 => ("SieveTub$Sister", "load", "I", false)
  | 3 => ("SieveTub$Sister", "sieve", "I", false)
  | _ => ("SieveTub$Sister", "leak", "I", false)
def tyX6 : Nat → FieldType := fun k => match k with
  | 0 => .int
  | 1 => .int
  | 2 => .int
  | 3 => .int
  | _ => .int
theorem nmX6 : ∀ a, a < 5 → ∀ b, b < 5 → a ≠ b → (TX6 a).2.1 ≠ (TX6 b).2.1 := by decide +kernel
theorem tyX6_ok : ∀ k, k < 5 → parseFieldDescriptor (TX6 k).2.2.1 = some (tyX6 k) := by decide +kernel
abbrev cX6_init : ByteArray := prog_8_method_1_code
def yX6_init : MethodName := ⟨RX6, "<init>", "()V"⟩
abbrev cX6_walk : ByteArray := prog_8_method_2_code
def yX6_walk : MethodName := ⟨RX6, "walk", "(I)I"⟩
abbrev cX6_walkBack : ByteArray := prog_8_method_3_code
def yX6_walkBack : MethodName := ⟨RX6, "walkBack", "(I)I"⟩
abbrev cX6_drip : ByteArray := prog_8_method_4_code
def yX6_drip : MethodName := ⟨RX6, "drip", "()I"⟩
def RX7 : String := "SieveTub$Told"
def TX7 : u_T := fun k => match k with
  | 0 => ("SieveTub$Told", "sisters", "[LSieveTub$Sister;", true)
  | 1 => ("SieveTub$Told", "count", "I", false)
  | 2 => ("SieveTub$Told", "sieve", "I", false)
  | 3 => ("SieveTub$Told", "leak", "I", false)
  | 4 => ("SieveTub$Told", "height", "I", false)
  | 5 => ("SieveTub$Told", "hole", "I", false)
  | 6 => ("SieveTub$Told", "frostFrom", "I", false)
  | _ => ("SieveTub$Told", "frostTo", "I", false)
def tyX7 : Nat → FieldType := fun k => match k with
  | 0 => .array (.object "SieveTub$Sister")
  | 1 => .int
  | 2 => .int
  | 3 => .int
  | 4 => .int
  | 5 => .int
  | 6 => .int
  | _ => .int
theorem nmX7 : ∀ a, a < 8 → ∀ b, b < 8 → a ≠ b → (TX7 a).2.1 ≠ (TX7 b).2.1 := by decide +kernel
theorem tyX7_ok : ∀ k, k < 8 → parseFieldDescriptor (TX7 k).2.2.1 = some (tyX7 k) := by decide +kernel
abbrev cX7_init : ByteArray := prog_9_method_1_code
def yX7_init : MethodName := ⟨RX7, "<init>", "()V"⟩
abbrev cX7_setAsAtFirst : ByteArray := prog_9_method_2_code
def yX7_setAsAtFirst : MethodName := ⟨RX7, "setAsAtFirst", "()V"⟩
abbrev cX7_setFrost : ByteArray := prog_9_method_3_code
def yX7_setFrost : MethodName := ⟨RX7, "setFrost", "(II)V"⟩
abbrev cX7_isFrost : ByteArray := prog_9_method_4_code
def yX7_isFrost : MethodName := ⟨RX7, "isFrost", "(I)Z"⟩
abbrev cX7_hear : ByteArray := prog_9_method_5_code
def yX7_hear : MethodName := ⟨RX7, "hear", "(IIII)V"⟩
abbrev cX7_addSister : ByteArray := prog_9_method_6_code
def yX7_addSister : MethodName := ⟨RX7, "addSister", "(III)V"⟩
def RX8 : String := "SieveTub$Walker"
def TX8 : u_T := fun k => match k with
  | 0 => ("SieveTub$Walker", "how", "I", false)
  | 1 => ("SieveTub$Walker", "way", "I", false)
  | 2 => ("SieveTub$Walker", "drops", "I", false)
  | 3 => ("SieveTub$Walker", "rounds", "I", false)
  | _ => ("SieveTub$Walker", "moss", "I", false)
def tyX8 : Nat → FieldType := fun k => match k with
  | 0 => .int
  | 1 => .int
  | 2 => .int
  | 3 => .int
  | _ => .int
theorem nmX8 : ∀ a, a < 5 → ∀ b, b < 5 → a ≠ b → (TX8 a).2.1 ≠ (TX8 b).2.1 := by decide +kernel
theorem tyX8_ok : ∀ k, k < 5 → parseFieldDescriptor (TX8 k).2.2.1 = some (tyX8 k) := by decide +kernel
abbrev cX8_init : ByteArray := prog_10_method_1_code
def yX8_init : MethodName := ⟨RX8, "<init>", "()V"⟩
abbrev cX8_copy : ByteArray := prog_10_method_2_code
def yX8_copy : MethodName := ⟨RX8, "copy", "(LSieveTub$Walker;)V"⟩
abbrev cX8_startAnew : ByteArray := prog_10_method_3_code
def yX8_startAnew : MethodName := ⟨RX8, "startAnew", "()V"⟩
abbrev cX8_sitDown : ByteArray := prog_10_method_4_code
def yX8_sitDown : MethodName := ⟨RX8, "sitDown", "()V"⟩
abbrev cX8_draw : ByteArray := prog_10_method_5_code
def yX8_draw : MethodName := ⟨RX8, "draw", "(LSieveTub$Sister;)V"⟩
abbrev cX8_passMinute : ByteArray := prog_10_method_6_code
def yX8_passMinute : MethodName := ⟨RX8, "passMinute", "(LSieveTub$Sister;Z)I"⟩
abbrev cX8_pour : ByteArray := prog_10_method_7_code
def yX8_pour : MethodName := ⟨RX8, "pour", "(LSieveTub$Sister;)I"⟩
def RX9 : String := "SieveTub$Word"
def TX9 : u_T := fun k => match k with
  | _ => ("", "", "", false)
def tyX9 : Nat → FieldType := fun k => match k with
  | _ => .int
theorem nmX9 : ∀ a, a < 0 → ∀ b, b < 0 → a ≠ b → (TX9 a).2.1 ≠ (TX9 b).2.1 := by decide +kernel
theorem tyX9_ok : ∀ k, k < 0 → parseFieldDescriptor (TX9 k).2.2.1 = some (tyX9 k) := by decide +kernel
abbrev cX9_values : ByteArray := prog_11_method_1_code
def yX9_values : MethodName := ⟨RX9, "values", "()[LSieveTub$Word;"⟩
abbrev cX9_numbers : ByteArray := prog_11_method_4_code
def yX9_numbers : MethodName := ⟨RX9, "numbers", "()I"⟩
abbrev cX9_leastNumber : ByteArray := prog_11_method_5_code
def yX9_leastNumber : MethodName := ⟨RX9, "leastNumber", "(II)I"⟩
abbrev cX9_mostNumber : ByteArray := prog_11_method_6_code
def yX9_mostNumber : MethodName := ⟨RX9, "mostNumber", "(I)I"⟩
def RX10 : String := "SieveTub"
def TX10 : u_T := fun k => match k with
  | 0 => ("SieveTub", "told", "LSieveTub$Told;", true)
  | 1 => ("SieveTub", "text", "LSieveTub$Letters;", true)
  | 2 => ("SieveTub", "clauses", "LSieveTub$Clauses;", true)
  | 3 => ("SieveTub", "now", "LSieveTub$Scene;", true)
  | 4 => ("SieveTub", "past", "LSieveTub$Past;", true)
  | 5 => ("SieveTub", "kept", "[LSieveTub$Scene;", true)
  | 6 => ("SieveTub", "isKept", "[Z", true)
  | 7 => ("SieveTub", "forecast", "LSieveTub$Forecast;", true)
  | 8 => ("SieveTub", "delays", "LSieveTub$Delays;", true)
  | 9 => ("SieveTub", "seenMinutes", "[I", true)
  | 10 => ("SieveTub", "seenLevels", "[I", true)
  | _ => ("SieveTub", "seenCount", "I", false)
def tyX10 : Nat → FieldType := fun k => match k with
  | 0 => .object "SieveTub$Told"
  | 1 => .object "SieveTub$Letters"
  | 2 => .object "SieveTub$Clauses"
  | 3 => .object "SieveTub$Scene"
  | 4 => .object "SieveTub$Past"
  | 5 => .array (.object "SieveTub$Scene")
  | 6 => .array .boolean
  | 7 => .object "SieveTub$Forecast"
  | 8 => .object "SieveTub$Delays"
  | 9 => .array .int
  | 10 => .array .int
  | _ => .int
theorem nmX10 : ∀ a, a < 12 → ∀ b, b < 12 → a ≠ b → (TX10 a).2.1 ≠ (TX10 b).2.1 := by decide +kernel
theorem tyX10_ok : ∀ k, k < 12 → parseFieldDescriptor (TX10 k).2.2.1 = some (tyX10 k) := by decide +kernel
abbrev cX10_init : ByteArray := prog_1_method_1_code
def yX10_init : MethodName := ⟨RX10, "<init>", "()V"⟩
abbrev cX10_write : ByteArray := prog_1_method_2_code
def yX10_write : MethodName := ⟨RX10, "write", "(I)I"⟩
abbrev cX10_erase : ByteArray := prog_1_method_3_code
def yX10_erase : MethodName := ⟨RX10, "erase", "()I"⟩
abbrev cX10_fault : ByteArray := prog_1_method_4_code
def yX10_fault : MethodName := ⟨RX10, "fault", "()I"⟩
abbrev cX10_well : ByteArray := prog_1_method_5_code
def yX10_well : MethodName := ⟨RX10, "well", "()I"⟩
abbrev cX10_sister : ByteArray := prog_1_method_6_code
def yX10_sister : MethodName := ⟨RX10, "sister", "(II)I"⟩
abbrev cX10_as : ByteArray := prog_1_method_7_code
def yX10_as : MethodName := ⟨RX10, "as", "(II)I"⟩
abbrev cX10_sieveAs : ByteArray := prog_1_method_8_code
def yX10_sieveAs : MethodName := ⟨RX10, "sieveAs", "(II)I"⟩
abbrev cX10_begin : ByteArray := prog_1_method_9_code
def yX10_begin : MethodName := ⟨RX10, "begin", "(I)I"⟩
abbrev cX10_rest : ByteArray := prog_1_method_10_code
def yX10_rest : MethodName := ⟨RX10, "rest", "(I)I"⟩
abbrev cX10_moss : ByteArray := prog_1_method_11_code
def yX10_moss : MethodName := ⟨RX10, "moss", "(I)I"⟩
abbrev cX10_smear : ByteArray := prog_1_method_12_code
def yX10_smear : MethodName := ⟨RX10, "smear", "(I)I"⟩
abbrev cX10_go : ByteArray := prog_1_method_13_code
def yX10_go : MethodName := ⟨RX10, "go", "(I)I"⟩
abbrev cX10_undo : ByteArray := prog_1_method_14_code
def yX10_undo : MethodName := ⟨RX10, "undo", "()I"⟩
abbrev cX10_keep : ByteArray := prog_1_method_15_code
def yX10_keep : MethodName := ⟨RX10, "keep", "(I)I"⟩
abbrev cX10_back : ByteArray := prog_1_method_16_code
def yX10_back : MethodName := ⟨RX10, "back", "(I)I"⟩
abbrev cX10_level : ByteArray := prog_1_method_17_code
def yX10_level : MethodName := ⟨RX10, "level", "(I)I"⟩
abbrev cX10_highest : ByteArray := prog_1_method_18_code
def yX10_highest : MethodName := ⟨RX10, "highest", "(I)I"⟩
abbrev cX10_full : ByteArray := prog_1_method_19_code
def yX10_full : MethodName := ⟨RX10, "full", "()I"⟩
abbrev cX10_mossTo : ByteArray := prog_1_method_20_code
def yX10_mossTo : MethodName := ⟨RX10, "mossTo", "(I)I"⟩
abbrev cX10_adds : ByteArray := prog_1_method_21_code
def yX10_adds : MethodName := ⟨RX10, "adds", "(II)I"⟩
abbrev cX10_fewest : ByteArray := prog_1_method_22_code
def yX10_fewest : MethodName := ⟨RX10, "fewest", "(I)I"⟩
abbrev cX10_together : ByteArray := prog_1_method_23_code
def yX10_together : MethodName := ⟨RX10, "together", "(II)I"⟩
abbrev cX10_pitch : ByteArray := prog_1_method_24_code
def yX10_pitch : MethodName := ⟨RX10, "pitch", "(I)I"⟩
abbrev cX10_seen : ByteArray := prog_1_method_25_code
def yX10_seen : MethodName := ⟨RX10, "seen", "(II)I"⟩
abbrev cX10_forget : ByteArray := prog_1_method_26_code
def yX10_forget : MethodName := ⟨RX10, "forget", "()I"⟩
abbrev cX10_worked : ByteArray := prog_1_method_27_code
def yX10_worked : MethodName := ⟨RX10, "worked", "(I)I"⟩
abbrev cX10_leaves : ByteArray := prog_1_method_28_code
def yX10_leaves : MethodName := ⟨RX10, "leaves", "(IIII)I"⟩
abbrev cX10_count : ByteArray := prog_1_method_29_code
def yX10_count : MethodName := ⟨RX10, "count", "(I)I"⟩
abbrev cX10_isUnknown : ByteArray := prog_1_method_30_code
def yX10_isUnknown : MethodName := ⟨RX10, "isUnknown", "(I)Z"⟩
abbrev cX10_isOutside : ByteArray := prog_1_method_31_code
def yX10_isOutside : MethodName := ⟨RX10, "isOutside", "(III)Z"⟩
abbrev cX10_isSuch : ByteArray := prog_1_method_32_code
def yX10_isSuch : MethodName := ⟨RX10, "isSuch", "([III)Z"⟩
abbrev cX10_firstFull : ByteArray := prog_1_method_33_code
def yX10_firstFull : MethodName := ⟨RX10, "firstFull", "(I)I"⟩
abbrev cX10_latestSeen : ByteArray := prog_1_method_34_code
def yX10_latestSeen : MethodName := ⟨RX10, "latestSeen", "()I"⟩
abbrev cX10_fitsSeen : ByteArray := prog_1_method_35_code
def yX10_fitsSeen : MethodName := ⟨RX10, "fitsSeen", "()Z"⟩
abbrev cX10_lostByHole : ByteArray := prog_1_method_36_code
def yX10_lostByHole : MethodName := ⟨RX10, "lostByHole", "(II)I"⟩
abbrev cX10_power : ByteArray := prog_1_method_37_code
def yX10_power : MethodName := ⟨RX10, "power", "(II)I"⟩
abbrev cX10_commonDivisor : ByteArray := prog_1_method_38_code
def yX10_commonDivisor : MethodName := ⟨RX10, "commonDivisor", "(II)I"⟩
def RX11 : String := "SieveTubModel"
def TX11 : u_T := fun k => match k with
  | 0 => ("SieveTubModel", "told", "[I", true)
  | 1 => ("SieveTubModel", "many", "I", false)
  | 2 => ("SieveTubModel", "st", "[I", true)
  | 3 => ("SieveTubModel", "text", "[I", true)
  | 4 => ("SieveTubModel", "letters", "I", false)
  | 5 => ("SieveTubModel", "place", "I", false)
  | 6 => ("SieveTubModel", "token", "I", false)
  | 7 => ("SieveTubModel", "value", "I", false)
  | 8 => ("SieveTubModel", "begins", "I", false)
  | 9 => ("SieveTubModel", "read", "[I", true)
  | 10 => ("SieveTubModel", "readMany", "I", false)
  | 11 => ("SieveTubModel", "clauses", "I", false)
  | 12 => ("SieveTubModel", "ahead", "[I", true)
  | 13 => ("SieveTubModel", "undoMany", "I", false)
  | 14 => ("SieveTubModel", "isKept", "[Z", true)
  | 15 => ("SieveTubModel", "kept", "[I", true)
  | 16 => ("SieveTubModel", "aside", "[I", true)
  | 17 => ("SieveTubModel", "delays", "[I", true)
  | 18 => ("SieveTubModel", "seens", "[I", true)
  | _ => ("SieveTubModel", "seenMany", "I", false)
def tyX11 : Nat → FieldType := fun k => match k with
  | 0 => .array .int
  | 1 => .int
  | 2 => .array .int
  | 3 => .array .int
  | 4 => .int
  | 5 => .int
  | 6 => .int
  | 7 => .int
  | 8 => .int
  | 9 => .array .int
  | 10 => .int
  | 11 => .int
  | 12 => .array .int
  | 13 => .int
  | 14 => .array .boolean
  | 15 => .array .int
  | 16 => .array .int
  | 17 => .array .int
  | 18 => .array .int
  | _ => .int
theorem nmX11 : ∀ a, a < 20 → ∀ b, b < 20 → a ≠ b → (TX11 a).2.1 ≠ (TX11 b).2.1 := by decide +kernel
theorem tyX11_ok : ∀ k, k < 20 → parseFieldDescriptor (TX11 k).2.2.1 = some (tyX11 k) := by decide +kernel
abbrev cX11_init : ByteArray := prog_13_method_1_code
def yX11_init : MethodName := ⟨RX11, "<init>", "()V"⟩
abbrev cX11_asAtFirst : ByteArray := prog_13_method_2_code
def yX11_asAtFirst : MethodName := ⟨RX11, "asAtFirst", "([I)V"⟩
abbrev cX11_in : ByteArray := prog_13_method_3_code
def yX11_in : MethodName := ⟨RX11, "in", "(JJJ)Z"⟩
abbrev cX11_has : ByteArray := prog_13_method_4_code
def yX11_has : MethodName := ⟨RX11, "has", "(II)Z"⟩
abbrev cX11_ones : ByteArray := prog_13_method_5_code
def yX11_ones : MethodName := ⟨RX11, "ones", "(I)I"⟩
abbrev cX11_isSister : ByteArray := prog_13_method_6_code
def yX11_isSister : MethodName := ⟨RX11, "isSister", "(I)Z"⟩
abbrev cX11_write : ByteArray := prog_13_method_7_code
def yX11_write : MethodName := ⟨RX11, "write", "(I)I"⟩
abbrev cX11_erase : ByteArray := prog_13_method_8_code
def yX11_erase : MethodName := ⟨RX11, "erase", "()I"⟩
abbrev cX11_letterAt : ByteArray := prog_13_method_9_code
def yX11_letterAt : MethodName := ⟨RX11, "letterAt", "(I)I"⟩
abbrev cX11_nextToken : ByteArray := prog_13_method_10_code
def yX11_nextToken : MethodName := ⟨RX11, "nextToken", "()V"⟩
abbrev cX11_wordOf : ByteArray := prog_13_method_11_code
def yX11_wordOf : MethodName := ⟨RX11, "wordOf", "()J"⟩
abbrev cX11_spelt : ByteArray := prog_13_method_12_code
def yX11_spelt : MethodName := ⟨RX11, "spelt", "(IIIIIII)J"⟩
abbrev cX11_verb : ByteArray := prog_13_method_13_code
def yX11_verb : MethodName := ⟨RX11, "verb", "()I"⟩
abbrev cX11_number : ByteArray := prog_13_method_14_code
def yX11_number : MethodName := ⟨RX11, "number", "(II)I"⟩
abbrev cX11_readSister : ByteArray := prog_13_method_15_code
def yX11_readSister : MethodName := ⟨RX11, "readSister", "(I)Z"⟩
abbrev cX11_takes : ByteArray := prog_13_method_16_code
def yX11_takes : MethodName := ⟨RX11, "takes", "(III)Z"⟩
abbrev cX11_readClause : ByteArray := prog_13_method_17_code
def yX11_readClause : MethodName := ⟨RX11, "readClause", "()Z"⟩
abbrev cX11_readText : ByteArray := prog_13_method_18_code
def yX11_readText : MethodName := ⟨RX11, "readText", "()Z"⟩
abbrev cX11_fault : ByteArray := prog_13_method_19_code
def yX11_fault : MethodName := ⟨RX11, "fault", "()I"⟩
abbrev cX11_well : ByteArray := prog_13_method_20_code
def yX11_well : MethodName := ⟨RX11, "well", "()I"⟩
abbrev cX11_anew : ByteArray := prog_13_method_21_code
def yX11_anew : MethodName := ⟨RX11, "anew", "()V"⟩
abbrev cX11_of : ByteArray := prog_13_method_22_code
def yX11_of : MethodName := ⟨RX11, "of", "(II)I"⟩
abbrev cX11_walkOf : ByteArray := prog_13_method_23_code
def yX11_walkOf : MethodName := ⟨RX11, "walkOf", "(I)I"⟩
abbrev cX11_dripOf : ByteArray := prog_13_method_24_code
def yX11_dripOf : MethodName := ⟨RX11, "dripOf", "(I)I"⟩
abbrev cX11_dripNow : ByteArray := prog_13_method_25_code
def yX11_dripNow : MethodName := ⟨RX11, "dripNow", "(I)I"⟩
abbrev cX11_mossOf : ByteArray := prog_13_method_26_code
def yX11_mossOf : MethodName := ⟨RX11, "mossOf", "(I)I"⟩
abbrev cX11_sister : ByteArray := prog_13_method_27_code
def yX11_sister : MethodName := ⟨RX11, "sister", "(II)I"⟩
abbrev cX11_as : ByteArray := prog_13_method_28_code
def yX11_as : MethodName := ⟨RX11, "as", "(II)I"⟩
abbrev cX11_sieveAs : ByteArray := prog_13_method_29_code
def yX11_sieveAs : MethodName := ⟨RX11, "sieveAs", "(II)I"⟩
abbrev cX11_draws : ByteArray := prog_13_method_30_code
def yX11_draws : MethodName := ⟨RX11, "draws", "(I)V"⟩
abbrev cX11_restNow : ByteArray := prog_13_method_31_code
def yX11_restNow : MethodName := ⟨RX11, "restNow", "(I)V"⟩
abbrev cX11_step : ByteArray := prog_13_method_32_code
def yX11_step : MethodName := ⟨RX11, "step", "(I)I"⟩
abbrev cX11_oneMinute : ByteArray := prog_13_method_33_code
def yX11_oneMinute : MethodName := ⟨RX11, "oneMinute", "()I"⟩
abbrev cX11_note : ByteArray := prog_13_method_34_code
def yX11_note : MethodName := ⟨RX11, "note", "()V"⟩
abbrev cX11_begin : ByteArray := prog_13_method_35_code
def yX11_begin : MethodName := ⟨RX11, "begin", "(I)I"⟩
abbrev cX11_rest : ByteArray := prog_13_method_36_code
def yX11_rest : MethodName := ⟨RX11, "rest", "(I)I"⟩
abbrev cX11_moss : ByteArray := prog_13_method_37_code
def yX11_moss : MethodName := ⟨RX11, "moss", "(I)I"⟩
abbrev cX11_less : ByteArray := prog_13_method_38_code
def yX11_less : MethodName := ⟨RX11, "less", "(II)I"⟩
abbrev cX11_smear : ByteArray := prog_13_method_39_code
def yX11_smear : MethodName := ⟨RX11, "smear", "(I)I"⟩
abbrev cX11_go : ByteArray := prog_13_method_40_code
def yX11_go : MethodName := ⟨RX11, "go", "(I)I"⟩
abbrev cX11_undo : ByteArray := prog_13_method_41_code
def yX11_undo : MethodName := ⟨RX11, "undo", "()I"⟩
abbrev cX11_keep : ByteArray := prog_13_method_42_code
def yX11_keep : MethodName := ⟨RX11, "keep", "(I)I"⟩
abbrev cX11_back : ByteArray := prog_13_method_43_code
def yX11_back : MethodName := ⟨RX11, "back", "(I)I"⟩
abbrev cX11_putAside : ByteArray := prog_13_method_44_code
def yX11_putAside : MethodName := ⟨RX11, "putAside", "()V"⟩
abbrev cX11_takeBack : ByteArray := prog_13_method_45_code
def yX11_takeBack : MethodName := ⟨RX11, "takeBack", "()V"⟩
abbrev cX11_levelBehind : ByteArray := prog_13_method_46_code
def yX11_levelBehind : MethodName := ⟨RX11, "levelBehind", "(I)I"⟩
abbrev cX11_highestOf : ByteArray := prog_13_method_47_code
def yX11_highestOf : MethodName := ⟨RX11, "highestOf", "(I)I"⟩
abbrev cX11_fullIn : ByteArray := prog_13_method_48_code
def yX11_fullIn : MethodName := ⟨RX11, "fullIn", "(I)I"⟩
abbrev cX11_isFar : ByteArray := prog_13_method_49_code
def yX11_isFar : MethodName := ⟨RX11, "isFar", "(II)Z"⟩
abbrev cX11_level : ByteArray := prog_13_method_50_code
def yX11_level : MethodName := ⟨RX11, "level", "(I)I"⟩
abbrev cX11_highest : ByteArray := prog_13_method_51_code
def yX11_highest : MethodName := ⟨RX11, "highest", "(I)I"⟩
abbrev cX11_full : ByteArray := prog_13_method_52_code
def yX11_full : MethodName := ⟨RX11, "full", "()I"⟩
abbrev cX11_mossTo : ByteArray := prog_13_method_53_code
def yX11_mossTo : MethodName := ⟨RX11, "mossTo", "(I)I"⟩
abbrev cX11_adds : ByteArray := prog_13_method_54_code
def yX11_adds : MethodName := ⟨RX11, "adds", "(II)I"⟩
abbrev cX11_working : ByteArray := prog_13_method_55_code
def yX11_working : MethodName := ⟨RX11, "working", "()I"⟩
abbrev cX11_fewest : ByteArray := prog_13_method_56_code
def yX11_fewest : MethodName := ⟨RX11, "fewest", "(I)I"⟩
abbrev cX11_highestBy : ByteArray := prog_13_method_57_code
def yX11_highestBy : MethodName := ⟨RX11, "highestBy", "(II)I"⟩
abbrev cX11_together : ByteArray := prog_13_method_58_code
def yX11_together : MethodName := ⟨RX11, "together", "(II)I"⟩
abbrev cX11_pitch : ByteArray := prog_13_method_59_code
def yX11_pitch : MethodName := ⟨RX11, "pitch", "(I)I"⟩
abbrev cX11_seen : ByteArray := prog_13_method_60_code
def yX11_seen : MethodName := ⟨RX11, "seen", "(II)I"⟩
abbrev cX11_forget : ByteArray := prog_13_method_61_code
def yX11_forget : MethodName := ⟨RX11, "forget", "()I"⟩
abbrev cX11_isBy : ByteArray := prog_13_method_62_code
def yX11_isBy : MethodName := ⟨RX11, "isBy", "(I)Z"⟩
abbrev cX11_worked : ByteArray := prog_13_method_63_code
def yX11_worked : MethodName := ⟨RX11, "worked", "(I)I"⟩
abbrev cX11_leaves : ByteArray := prog_13_method_64_code
def yX11_leaves : MethodName := ⟨RX11, "leaves", "(IIII)I"⟩
abbrev cX11_count : ByteArray := prog_13_method_65_code
def yX11_count : MethodName := ⟨RX11, "count", "(I)I"⟩
def RJ6 : String := "java/lang/Integer"
def TJ6 : u_T := fun k => match k with
  | _ => ("", "", "", false)
def tyJ6 : Nat → FieldType := fun k => match k with
  | _ => .int
theorem nmJ6 : ∀ a, a < 0 → ∀ b, b < 0 → a ≠ b → (TJ6 a).2.1 ≠ (TJ6 b).2.1 := by decide +kernel
theorem tyJ6_ok : ∀ k, k < 0 → parseFieldDescriptor (TJ6 k).2.2.1 = some (tyJ6 k) := by decide +kernel
abbrev cJ6_bitCount_0f7a4 : ByteArray := prog_16_method_49_code
def yJ6_bitCount_0f7a4 : MethodName := ⟨RJ6, "bitCount", "(I)I"⟩
def RJ9 : String := "java/lang/Math"
def TJ9 : u_T := fun k => match k with
  | _ => ("", "", "", false)
def tyJ9 : Nat → FieldType := fun k => match k with
  | _ => .int
theorem nmJ9 : ∀ a, a < 0 → ∀ b, b < 0 → a ≠ b → (TJ9 a).2.1 ≠ (TJ9 b).2.1 := by decide +kernel
theorem tyJ9_ok : ∀ k, k < 0 → parseFieldDescriptor (TJ9 k).2.2.1 = some (tyJ9 k) := by decide +kernel
abbrev cJ9_max_7cf53 : ByteArray := prog_17_method_65_code
def yJ9_max_7cf53 : MethodName := ⟨RJ9, "max", "(II)I"⟩
abbrev cJ9_min_7cf53 : ByteArray := prog_17_method_69_code
def yJ9_min_7cf53 : MethodName := ⟨RJ9, "min", "(II)I"⟩
def RJ0 : String := "java/lang/String"
def TJ0 : u_T := fun k => match k with
  | _ => ("", "", "", false)
def tyJ0 : Nat → FieldType := fun k => match k with
  | _ => .int
theorem nmJ0 : ∀ a, a < 0 → ∀ b, b < 0 → a ≠ b → (TJ0 a).2.1 ≠ (TJ0 b).2.1 := by decide +kernel
theorem tyJ0_ok : ∀ k, k < 0 → parseFieldDescriptor (TJ0 k).2.2.1 = some (tyJ0 k) := by decide +kernel
abbrev cJ0_length_8abf5 : ByteArray := prog_18_method_54_code
def yJ0_length_8abf5 : MethodName := ⟨RJ0, "length", "()I"⟩
abbrev cJ0_charAt_5068e : ByteArray := prog_18_method_56_code
def yJ0_charAt_5068e : MethodName := ⟨RJ0, "charAt", "(I)C"⟩
abbrev cJ0_coder_7d493 : ByteArray := prog_18_method_152_code
def yJ0_coder_7d493 : MethodName := ⟨RJ0, "coder", "()B"⟩
abbrev cJ0_isLatin1_aae02 : ByteArray := prog_18_method_154_code
def yJ0_isLatin1_aae02 : MethodName := ⟨RJ0, "isLatin1", "()Z"⟩
abbrev cJ0_checkIndex_df160 : ByteArray := prog_18_method_155_code
def yJ0_checkIndex_df160 : MethodName := ⟨RJ0, "checkIndex", "(II)V"⟩
def RJ1 : String := "java/lang/StringLatin1"
def TJ1 : u_T := fun k => match k with
  | _ => ("", "", "", false)
def tyJ1 : Nat → FieldType := fun k => match k with
  | _ => .int
theorem nmJ1 : ∀ a, a < 0 → ∀ b, b < 0 → a ≠ b → (TJ1 a).2.1 ≠ (TJ1 b).2.1 := by decide +kernel
theorem tyJ1_ok : ∀ k, k < 0 → parseFieldDescriptor (TJ1 k).2.2.1 = some (tyJ1 k) := by decide +kernel
abbrev cJ1_charAt_3b067 : ByteArray := prog_19_method_2_code
def yJ1_charAt_3b067 : MethodName := ⟨RJ1, "charAt", "([BI)C"⟩
def RJ2 : String := "java/lang/StringUTF16"
def TJ2 : u_T := fun k => match k with
  | _ => ("", "", "", false)
def tyJ2 : Nat → FieldType := fun k => match k with
  | _ => .int
theorem nmJ2 : ∀ a, a < 0 → ∀ b, b < 0 → a ≠ b → (TJ2 a).2.1 ≠ (TJ2 b).2.1 := by decide +kernel
theorem tyJ2_ok : ∀ k, k < 0 → parseFieldDescriptor (TJ2 k).2.2.1 = some (tyJ2 k) := by decide +kernel
abbrev cJ2_getChar_3b067 : ByteArray := prog_20_method_5_code
def yJ2_getChar_3b067 : MethodName := ⟨RJ2, "getChar", "([BI)C"⟩
abbrev cJ2_length_9d52b : ByteArray := prog_20_method_6_code
def yJ2_length_9d52b : MethodName := ⟨RJ2, "length", "([B)I"⟩
abbrev cJ2_charAt_3b067 : ByteArray := prog_20_method_83_code
def yJ2_charAt_3b067 : MethodName := ⟨RJ2, "charAt", "([BI)C"⟩
abbrev cJ2_checkIndex_2214a : ByteArray := prog_20_method_91_code
def yJ2_checkIndex_2214a : MethodName := ⟨RJ2, "checkIndex", "(I[B)V"⟩
def RJ10 : String := "java/lang/System"
def TJ10 : u_T := fun k => match k with
  | _ => ("", "", "", false)
def tyJ10 : Nat → FieldType := fun k => match k with
  | _ => .int
theorem nmJ10 : ∀ a, a < 0 → ∀ b, b < 0 → a ≠ b → (TJ10 a).2.1 ≠ (TJ10 b).2.1 := by decide +kernel
theorem tyJ10_ok : ∀ k, k < 0 → parseFieldDescriptor (TJ10 k).2.2.1 = some (tyJ10 k) := by decide +kernel
def RJ3 : String := "jdk/internal/util/Preconditions"
def TJ3 : u_T := fun k => match k with
  | _ => ("", "", "", false)
def tyJ3 : Nat → FieldType := fun k => match k with
  | _ => .int
theorem nmJ3 : ∀ a, a < 0 → ∀ b, b < 0 → a ≠ b → (TJ3 a).2.1 ≠ (TJ3 b).2.1 := by decide +kernel
theorem tyJ3_ok : ∀ k, k < 0 → parseFieldDescriptor (TJ3 k).2.2.1 = some (tyJ3 k) := by decide +kernel
abbrev cJ3_checkIndex_8e157 : ByteArray := prog_22_method_11_code
def yJ3_checkIndex_8e157 : MethodName := ⟨RJ3, "checkIndex", "(IILjava/util/function/BiFunction;)I"⟩
def RL : String := "SieveTubLaw"
abbrev cL_law : ByteArray := code
def yL_law : MethodName := ⟨RL, "law", "([I)Z"⟩
abbrev vwCl : List vw_C := [(RX0, TX0, 7), (RX1, TX1, 10), (RX2, TX2, 7), (RX3, TX3, 5), (RX4, TX4, 3), (RX5, TX5, 6), (RX6, TX6, 5), (RX7, TX7, 8), (RX8, TX8, 5), (RX10, TX10, 12), (RX11, TX11, 20)]
end
section
theorem dX0_init_0 : decode cX0_init 0 = .ok (.aload_n 0, 1) := by decide +kernel
theorem dX0_init_1 : decode cX0_init 1 = .ok (.invokespecial 3, 3) := by decide +kernel
theorem dX0_init_4 : decode cX0_init 4 = .ok (.aload_n 0, 1) := by decide +kernel
theorem dX0_init_5 : decode cX0_init 5 = .ok (.invokestatic 9, 3) := by decide +kernel
theorem dX0_init_8 : decode cX0_init 8 = .ok (.putfield 15, 3) := by decide +kernel
theorem dX0_init_11 : decode cX0_init 11 = .ok (.aload_n 0, 1) := by decide +kernel
theorem dX0_init_12 : decode cX0_init 12 = .ok (.bipush 14, 2) := by decide +kernel
theorem dX0_init_14 : decode cX0_init 14 = .ok (.newarray .int, 2) := by decide +kernel
theorem dX0_init_16 : decode cX0_init 16 = .ok (.putfield 21, 3) := by decide +kernel
theorem dX0_init_19 : decode cX0_init 19 = .ok (.aload_n 0, 1) := by decide +kernel
theorem dX0_init_20 : decode cX0_init 20 = .ok (.bipush 14, 2) := by decide +kernel
theorem dX0_init_22 : decode cX0_init 22 = .ok (.newarray .int, 2) := by decide +kernel
theorem dX0_init_24 : decode cX0_init 24 = .ok (.putfield 25, 3) := by decide +kernel
theorem dX0_init_27 : decode cX0_init 27 = .ok (.aload_n 0, 1) := by decide +kernel
theorem dX0_init_28 : decode cX0_init 28 = .ok (.bipush 14, 2) := by decide +kernel
theorem dX0_init_30 : decode cX0_init 30 = .ok (.newarray .int, 2) := by decide +kernel
theorem dX0_init_32 : decode cX0_init 32 = .ok (.putfield 28, 3) := by decide +kernel
theorem dX0_init_35 : decode cX0_init 35 = .ok (.aload_n 0, 1) := by decide +kernel
theorem dX0_init_36 : decode cX0_init 36 = .ok (.bipush 14, 2) := by decide +kernel
theorem dX0_init_38 : decode cX0_init 38 = .ok (.newarray .int, 2) := by decide +kernel
theorem dX0_init_40 : decode cX0_init 40 = .ok (.putfield 31, 3) := by decide +kernel
theorem dX0_init_43 : decode cX0_init 43 = .ok (.return_, 1) := by decide +kernel
theorem dX0_read_0 : decode cX0_read 0 = .ok (.aload_n 0, 1) := by decide +kernel
theorem dX0_read_1 : decode cX0_read 1 = .ok (.iload_n 2, 1) := by decide +kernel
theorem dX0_read_2 : decode cX0_read 2 = .ok (.putfield 34, 3) := by decide +kernel
theorem dX0_read_5 : decode cX0_read 5 = .ok (.aload_n 0, 1) := by decide +kernel
theorem dX0_read_6 : decode cX0_read 6 = .ok (.iconst 0, 1) := by decide +kernel
theorem dX0_read_7 : decode cX0_read 7 = .ok (.putfield 38, 3) := by decide +kernel
theorem dX0_read_10 : decode cX0_read 10 = .ok (.aload_n 1, 1) := by decide +kernel
theorem dX0_read_11 : decode cX0_read 11 = .ok (.invokevirtual 41, 3) := by decide +kernel
theorem dX0_read_14 : decode cX0_read 14 = .ok (.aload_n 0, 1) := by decide +kernel
theorem dX0_read_15 : decode cX0_read 15 = .ok (.getfield 38, 3) := by decide +kernel
theorem dX0_read_18 : decode cX0_read 18 = .ok (.bipush 14, 2) := by decide +kernel
theorem dX0_read_20 : decode cX0_read 20 = .ok (.if_icmp .ge 51, 3) := by decide +kernel
theorem dX0_read_23 : decode cX0_read 23 = .ok (.aload_n 0, 1) := by decide +kernel
theorem dX0_read_24 : decode cX0_read 24 = .ok (.aload_n 1, 1) := by decide +kernel
theorem dX0_read_25 : decode cX0_read 25 = .ok (.invokevirtual 46, 3) := by decide +kernel
theorem dX0_read_28 : decode cX0_read 28 = .ok (.ifCond .ne 8, 3) := by decide +kernel
theorem dX0_read_31 : decode cX0_read 31 = .ok (.aload_n 1, 1) := by decide +kernel
theorem dX0_read_32 : decode cX0_read 32 = .ok (.getfield 50, 3) := by decide +kernel
theorem dX0_read_35 : decode cX0_read 35 = .ok (.ireturn, 1) := by decide +kernel
theorem dX0_read_36 : decode cX0_read 36 = .ok (.aload_n 0, 1) := by decide +kernel
theorem dX0_read_37 : decode cX0_read 37 = .ok (.dup, 1) := by decide +kernel
theorem dX0_read_38 : decode cX0_read 38 = .ok (.getfield 38, 3) := by decide +kernel
theorem dX0_read_41 : decode cX0_read 41 = .ok (.iconst 1, 1) := by decide +kernel
theorem dX0_read_42 : decode cX0_read 42 = .ok (.iadd, 1) := by decide +kernel
theorem dX0_read_43 : decode cX0_read 43 = .ok (.putfield 38, 3) := by decide +kernel
theorem dX0_read_46 : decode cX0_read 46 = .ok (.aload_n 1, 1) := by decide +kernel
theorem dX0_read_47 : decode cX0_read 47 = .ok (.invokevirtual 53, 3) := by decide +kernel
theorem dX0_read_50 : decode cX0_read 50 = .ok (.aload_n 1, 1) := by decide +kernel
theorem dX0_read_51 : decode cX0_read 51 = .ok (.getfield 56, 3) := by decide +kernel
theorem dX0_read_54 : decode cX0_read 54 = .ok (.ifCond .ne 5, 3) := by decide +kernel
theorem dX0_read_57 : decode cX0_read 57 = .ok (.iconst (-1), 1) := by decide +kernel
theorem dX0_read_58 : decode cX0_read 58 = .ok (.ireturn, 1) := by decide +kernel
theorem dX0_read_59 : decode cX0_read 59 = .ok (.aload_n 1, 1) := by decide +kernel
theorem dX0_read_60 : decode cX0_read 60 = .ok (.invokevirtual 59, 3) := by decide +kernel
theorem dX0_read_63 : decode cX0_read 63 = .ok (.ifCond .ne (-49), 3) := by decide +kernel
theorem dX0_read_66 : decode cX0_read 66 = .ok (.aload_n 1, 1) := by decide +kernel
theorem dX0_read_67 : decode cX0_read 67 = .ok (.getfield 50, 3) := by decide +kernel
theorem dX0_read_70 : decode cX0_read 70 = .ok (.ireturn, 1) := by decide +kernel
theorem dX0_read_71 : decode cX0_read 71 = .ok (.aload_n 1, 1) := by decide +kernel
theorem dX0_read_72 : decode cX0_read 72 = .ok (.getfield 50, 3) := by decide +kernel
theorem dX0_read_75 : decode cX0_read 75 = .ok (.ireturn, 1) := by decide +kernel
theorem dX0_readClause_0 : decode cX0_readClause 0 = .ok (.aload_n 1, 1) := by decide +kernel
theorem dX0_readClause_1 : decode cX0_readClause 1 = .ok (.invokevirtual 53, 3) := by decide +kernel
theorem dX0_readClause_4 : decode cX0_readClause 4 = .ok (.aload_n 0, 1) := by decide +kernel
theorem dX0_readClause_5 : decode cX0_readClause 5 = .ok (.aload_n 1, 1) := by decide +kernel
theorem dX0_readClause_6 : decode cX0_readClause 6 = .ok (.invokevirtual 63, 3) := by decide +kernel
theorem dX0_readClause_9 : decode cX0_readClause 9 = .ok (.astore_n 2, 1) := by decide +kernel
theorem dX0_readClause_10 : decode cX0_readClause 10 = .ok (.aload_n 2, 1) := by decide +kernel
theorem dX0_readClause_11 : decode cX0_readClause 11 = .ok (.ifnull 11, 3) := by decide +kernel
theorem dX0_readClause_14 : decode cX0_readClause 14 = .ok (.aload_n 0, 1) := by decide +kernel
theorem dX0_readClause_15 : decode cX0_readClause 15 = .ok (.aload_n 2, 1) := by decide +kernel
theorem dX0_readClause_16 : decode cX0_readClause 16 = .ok (.invokevirtual 67, 3) := by decide +kernel
theorem dX0_readClause_19 : decode cX0_readClause 19 = .ok (.ifCond .ne 5, 3) := by decide +kernel
theorem dX0_readClause_22 : decode cX0_readClause 22 = .ok (.iconst 0, 1) := by decide +kernel
theorem dX0_readClause_23 : decode cX0_readClause 23 = .ok (.ireturn, 1) := by decide +kernel
theorem dX0_readClause_24 : decode cX0_readClause 24 = .ok (.iconst 0, 1) := by decide +kernel
theorem dX0_readClause_25 : decode cX0_readClause 25 = .ok (.istore_n 3, 1) := by decide +kernel
theorem dX0_readClause_26 : decode cX0_readClause 26 = .ok (.iconst 0, 1) := by decide +kernel
theorem dX0_readClause_27 : decode cX0_readClause 27 = .ok (.istore 4, 2) := by decide +kernel
theorem dX0_readClause_29 : decode cX0_readClause 29 = .ok (.iconst 0, 1) := by decide +kernel
theorem dX0_readClause_30 : decode cX0_readClause 30 = .ok (.istore 5, 2) := by decide +kernel
theorem dX0_readClause_32 : decode cX0_readClause 32 = .ok (.iload 5, 2) := by decide +kernel
theorem dX0_readClause_34 : decode cX0_readClause 34 = .ok (.aload_n 2, 1) := by decide +kernel
theorem dX0_readClause_35 : decode cX0_readClause 35 = .ok (.invokevirtual 71, 3) := by decide +kernel
theorem dX0_readClause_38 : decode cX0_readClause 38 = .ok (.if_icmp .ge 57, 3) := by decide +kernel
theorem dX0_readClause_41 : decode cX0_readClause 41 = .ok (.aload_n 1, 1) := by decide +kernel
theorem dX0_readClause_42 : decode cX0_readClause 42 = .ok (.invokevirtual 53, 3) := by decide +kernel
theorem dX0_readClause_45 : decode cX0_readClause 45 = .ok (.aload_n 1, 1) := by decide +kernel
theorem dX0_readClause_46 : decode cX0_readClause 46 = .ok (.invokevirtual 75, 3) := by decide +kernel
theorem dX0_readClause_49 : decode cX0_readClause 49 = .ok (.istore 6, 2) := by decide +kernel
theorem dX0_readClause_51 : decode cX0_readClause 51 = .ok (.iload 6, 2) := by decide +kernel
theorem dX0_readClause_53 : decode cX0_readClause 53 = .ok (.aload_n 2, 1) := by decide +kernel
theorem dX0_readClause_54 : decode cX0_readClause 54 = .ok (.iload 5, 2) := by decide +kernel
theorem dX0_readClause_56 : decode cX0_readClause 56 = .ok (.iload_n 3, 1) := by decide +kernel
theorem dX0_readClause_57 : decode cX0_readClause 57 = .ok (.invokevirtual 78, 3) := by decide +kernel
theorem dX0_readClause_60 : decode cX0_readClause 60 = .ok (.aload_n 2, 1) := by decide +kernel
theorem dX0_readClause_61 : decode cX0_readClause 61 = .ok (.iload 5, 2) := by decide +kernel
theorem dX0_readClause_63 : decode cX0_readClause 63 = .ok (.invokevirtual 82, 3) := by decide +kernel
theorem dX0_readClause_66 : decode cX0_readClause 66 = .ok (.invokestatic 86, 3) := by decide +kernel
theorem dX0_readClause_69 : decode cX0_readClause 69 = .ok (.ifCond .eq 5, 3) := by decide +kernel
theorem dX0_readClause_72 : decode cX0_readClause 72 = .ok (.iconst 0, 1) := by decide +kernel
theorem dX0_readClause_73 : decode cX0_readClause 73 = .ok (.ireturn, 1) := by decide +kernel
theorem dX0_readClause_74 : decode cX0_readClause 74 = .ok (.iload 5, 2) := by decide +kernel
theorem dX0_readClause_76 : decode cX0_readClause 76 = .ok (.ifCond .ne 9, 3) := by decide +kernel
theorem dX0_readClause_79 : decode cX0_readClause 79 = .ok (.iload 6, 2) := by decide +kernel
theorem dX0_readClause_81 : decode cX0_readClause 81 = .ok (.istore_n 3, 1) := by decide +kernel
theorem dX0_readClause_82 : decode cX0_readClause 82 = .ok (.goto 7, 3) := by decide +kernel
theorem dX0_readClause_85 : decode cX0_readClause 85 = .ok (.iload 6, 2) := by decide +kernel
theorem dX0_readClause_87 : decode cX0_readClause 87 = .ok (.istore 4, 2) := by decide +kernel
theorem dX0_readClause_89 : decode cX0_readClause 89 = .ok (.iinc 5 1, 3) := by decide +kernel
theorem dX0_readClause_92 : decode cX0_readClause 92 = .ok (.goto (-60), 3) := by decide +kernel
theorem dX0_readClause_95 : decode cX0_readClause 95 = .ok (.aload_n 0, 1) := by decide +kernel
theorem dX0_readClause_96 : decode cX0_readClause 96 = .ok (.getfield 21, 3) := by decide +kernel
theorem dX0_readClause_99 : decode cX0_readClause 99 = .ok (.aload_n 0, 1) := by decide +kernel
theorem dX0_readClause_100 : decode cX0_readClause 100 = .ok (.getfield 38, 3) := by decide +kernel
theorem dX0_readClause_103 : decode cX0_readClause 103 = .ok (.aload_n 2, 1) := by decide +kernel
theorem dX0_readClause_104 : decode cX0_readClause 104 = .ok (.getfield 90, 3) := by decide +kernel
theorem dX0_readClause_107 : decode cX0_readClause 107 = .ok (.iastore, 1) := by decide +kernel
theorem dX0_readClause_108 : decode cX0_readClause 108 = .ok (.aload_n 0, 1) := by decide +kernel
theorem dX0_readClause_109 : decode cX0_readClause 109 = .ok (.getfield 25, 3) := by decide +kernel
theorem dX0_readClause_112 : decode cX0_readClause 112 = .ok (.aload_n 0, 1) := by decide +kernel
theorem dX0_readClause_113 : decode cX0_readClause 113 = .ok (.getfield 38, 3) := by decide +kernel
theorem dX0_readClause_116 : decode cX0_readClause 116 = .ok (.aload_n 2, 1) := by decide +kernel
theorem dX0_readClause_117 : decode cX0_readClause 117 = .ok (.getfield 93, 3) := by decide +kernel
theorem dX0_readClause_120 : decode cX0_readClause 120 = .ok (.iastore, 1) := by decide +kernel
theorem dX0_readClause_121 : decode cX0_readClause 121 = .ok (.aload_n 0, 1) := by decide +kernel
theorem dX0_readClause_122 : decode cX0_readClause 122 = .ok (.getfield 28, 3) := by decide +kernel
theorem dX0_readClause_125 : decode cX0_readClause 125 = .ok (.aload_n 0, 1) := by decide +kernel
theorem dX0_readClause_126 : decode cX0_readClause 126 = .ok (.getfield 38, 3) := by decide +kernel
theorem dX0_readClause_129 : decode cX0_readClause 129 = .ok (.iload_n 3, 1) := by decide +kernel
theorem dX0_readClause_130 : decode cX0_readClause 130 = .ok (.iastore, 1) := by decide +kernel
theorem dX0_readClause_131 : decode cX0_readClause 131 = .ok (.aload_n 0, 1) := by decide +kernel
theorem dX0_readClause_132 : decode cX0_readClause 132 = .ok (.getfield 31, 3) := by decide +kernel
theorem dX0_readClause_135 : decode cX0_readClause 135 = .ok (.aload_n 0, 1) := by decide +kernel
theorem dX0_readClause_136 : decode cX0_readClause 136 = .ok (.getfield 38, 3) := by decide +kernel
theorem dX0_readClause_139 : decode cX0_readClause 139 = .ok (.iload 4, 2) := by decide +kernel
theorem dX0_readClause_141 : decode cX0_readClause 141 = .ok (.iastore, 1) := by decide +kernel
theorem dX0_readClause_142 : decode cX0_readClause 142 = .ok (.iconst 1, 1) := by decide +kernel
theorem dX0_readClause_143 : decode cX0_readClause 143 = .ok (.ireturn, 1) := by decide +kernel
theorem dX0_findWord_0 : decode cX0_findWord 0 = .ok (.iconst 0, 1) := by decide +kernel
theorem dX0_findWord_1 : decode cX0_findWord 1 = .ok (.istore_n 2, 1) := by decide +kernel
theorem dX0_findWord_2 : decode cX0_findWord 2 = .ok (.iload_n 2, 1) := by decide +kernel
theorem dX0_findWord_3 : decode cX0_findWord 3 = .ok (.aload_n 0, 1) := by decide +kernel
theorem dX0_findWord_4 : decode cX0_findWord 4 = .ok (.getfield 15, 3) := by decide +kernel
theorem dX0_findWord_7 : decode cX0_findWord 7 = .ok (.arraylength, 1) := by decide +kernel
theorem dX0_findWord_8 : decode cX0_findWord 8 = .ok (.if_icmp .ge 32, 3) := by decide +kernel
theorem dX0_findWord_11 : decode cX0_findWord 11 = .ok (.aload_n 1, 1) := by decide +kernel
theorem dX0_findWord_12 : decode cX0_findWord 12 = .ok (.aload_n 0, 1) := by decide +kernel
theorem dX0_findWord_13 : decode cX0_findWord 13 = .ok (.getfield 15, 3) := by decide +kernel
theorem dX0_findWord_16 : decode cX0_findWord 16 = .ok (.iload_n 2, 1) := by decide +kernel
theorem dX0_findWord_17 : decode cX0_findWord 17 = .ok (.aaload, 1) := by decide +kernel
theorem dX0_findWord_18 : decode cX0_findWord 18 = .ok (.getfield 96, 3) := by decide +kernel
theorem dX0_findWord_21 : decode cX0_findWord 21 = .ok (.invokevirtual 100, 3) := by decide +kernel
theorem dX0_findWord_24 : decode cX0_findWord 24 = .ok (.ifCond .eq 10, 3) := by decide +kernel
theorem dX0_findWord_27 : decode cX0_findWord 27 = .ok (.aload_n 0, 1) := by decide +kernel
theorem dX0_findWord_28 : decode cX0_findWord 28 = .ok (.getfield 15, 3) := by decide +kernel
theorem dX0_findWord_31 : decode cX0_findWord 31 = .ok (.iload_n 2, 1) := by decide +kernel
theorem dX0_findWord_32 : decode cX0_findWord 32 = .ok (.aaload, 1) := by decide +kernel
theorem dX0_findWord_33 : decode cX0_findWord 33 = .ok (.areturn, 1) := by decide +kernel
theorem dX0_findWord_34 : decode cX0_findWord 34 = .ok (.iinc 2 1, 3) := by decide +kernel
theorem dX0_findWord_37 : decode cX0_findWord 37 = .ok (.goto (-35), 3) := by decide +kernel
theorem dX0_findWord_40 : decode cX0_findWord 40 = .ok (.aconst_null, 1) := by decide +kernel
theorem dX0_findWord_41 : decode cX0_findWord 41 = .ok (.areturn, 1) := by decide +kernel
theorem dX0_countSisters_0 : decode cX0_countSisters 0 = .ok (.aload_n 1, 1) := by decide +kernel
theorem dX0_countSisters_1 : decode cX0_countSisters 1 = .ok (.getfield 90, 3) := by decide +kernel
theorem dX0_countSisters_4 : decode cX0_countSisters 4 = .ok (.ifCond .ne 11, 3) := by decide +kernel
theorem dX0_countSisters_7 : decode cX0_countSisters 7 = .ok (.aload_n 0, 1) := by decide +kernel
theorem dX0_countSisters_8 : decode cX0_countSisters 8 = .ok (.iconst 0, 1) := by decide +kernel
theorem dX0_countSisters_9 : decode cX0_countSisters 9 = .ok (.putfield 34, 3) := by decide +kernel
theorem dX0_countSisters_12 : decode cX0_countSisters 12 = .ok (.goto 21, 3) := by decide +kernel
theorem dX0_countSisters_15 : decode cX0_countSisters 15 = .ok (.aload_n 1, 1) := by decide +kernel
theorem dX0_countSisters_16 : decode cX0_countSisters 16 = .ok (.getfield 90, 3) := by decide +kernel
theorem dX0_countSisters_19 : decode cX0_countSisters 19 = .ok (.iconst 1, 1) := by decide +kernel
theorem dX0_countSisters_20 : decode cX0_countSisters 20 = .ok (.if_icmp .ne 13, 3) := by decide +kernel
theorem dX0_countSisters_23 : decode cX0_countSisters 23 = .ok (.aload_n 0, 1) := by decide +kernel
theorem dX0_countSisters_24 : decode cX0_countSisters 24 = .ok (.dup, 1) := by decide +kernel
theorem dX0_countSisters_25 : decode cX0_countSisters 25 = .ok (.getfield 34, 3) := by decide +kernel
theorem dX0_countSisters_28 : decode cX0_countSisters 28 = .ok (.iconst 1, 1) := by decide +kernel
theorem dX0_countSisters_29 : decode cX0_countSisters 29 = .ok (.iadd, 1) := by decide +kernel
theorem dX0_countSisters_30 : decode cX0_countSisters 30 = .ok (.putfield 34, 3) := by decide +kernel
theorem dX0_countSisters_33 : decode cX0_countSisters 33 = .ok (.aload_n 0, 1) := by decide +kernel
theorem dX0_countSisters_34 : decode cX0_countSisters 34 = .ok (.getfield 34, 3) := by decide +kernel
theorem dX0_countSisters_37 : decode cX0_countSisters 37 = .ok (.iconst 5, 1) := by decide +kernel
theorem dX0_countSisters_38 : decode cX0_countSisters 38 = .ok (.if_icmp .gt 7, 3) := by decide +kernel
theorem dX0_countSisters_41 : decode cX0_countSisters 41 = .ok (.iconst 1, 1) := by decide +kernel
theorem dX0_countSisters_42 : decode cX0_countSisters 42 = .ok (.goto 4, 3) := by decide +kernel
theorem dX0_countSisters_45 : decode cX0_countSisters 45 = .ok (.iconst 0, 1) := by decide +kernel
theorem dX0_countSisters_46 : decode cX0_countSisters 46 = .ok (.ireturn, 1) := by decide +kernel
theorem dX1_init_0 : decode cX1_init 0 = .ok (.aload_n 0, 1) := by decide +kernel
theorem dX1_init_1 : decode cX1_init 1 = .ok (.invokespecial 3, 3) := by decide +kernel
theorem dX1_init_4 : decode cX1_init 4 = .ok (.aload_n 0, 1) := by decide +kernel
theorem dX1_init_5 : decode cX1_init 5 = .ok (.aload_n 1, 1) := by decide +kernel
theorem dX1_init_6 : decode cX1_init 6 = .ok (.putfield 9, 3) := by decide +kernel
theorem dX1_init_9 : decode cX1_init 9 = .ok (.aload_n 0, 1) := by decide +kernel
theorem dX1_init_10 : decode cX1_init 10 = .ok (.bipush 20, 2) := by decide +kernel
theorem dX1_init_12 : decode cX1_init 12 = .ok (.bipush 40, 2) := by decide +kernel
theorem dX1_init_14 : decode cX1_init 14 = .ok (.multianewarray 15 2, 4) := by decide +kernel
theorem dX1_init_18 : decode cX1_init 18 = .ok (.putfield 17, 3) := by decide +kernel
theorem dX1_init_21 : decode cX1_init 21 = .ok (.aload_n 0, 1) := by decide +kernel
theorem dX1_init_22 : decode cX1_init 22 = .ok (.bipush 6, 2) := by decide +kernel
theorem dX1_init_24 : decode cX1_init 24 = .ok (.bipush 40, 2) := by decide +kernel
theorem dX1_init_26 : decode cX1_init 26 = .ok (.multianewarray 15 2, 4) := by decide +kernel
theorem dX1_init_30 : decode cX1_init 30 = .ok (.putfield 20, 3) := by decide +kernel
theorem dX1_init_33 : decode cX1_init 33 = .ok (.aload_n 0, 1) := by decide +kernel
theorem dX1_init_34 : decode cX1_init 34 = .ok (.iconst 5, 1) := by decide +kernel
theorem dX1_init_35 : decode cX1_init 35 = .ok (.newarray .int, 2) := by decide +kernel
theorem dX1_init_37 : decode cX1_init 37 = .ok (.putfield 23, 3) := by decide +kernel
theorem dX1_init_40 : decode cX1_init 40 = .ok (.aload_n 0, 1) := by decide +kernel
theorem dX1_init_41 : decode cX1_init 41 = .ok (.new 27, 3) := by decide +kernel
theorem dX1_init_44 : decode cX1_init 44 = .ok (.dup, 1) := by decide +kernel
theorem dX1_init_45 : decode cX1_init 45 = .ok (.invokespecial 29, 3) := by decide +kernel
theorem dX1_init_48 : decode cX1_init 48 = .ok (.putfield 30, 3) := by decide +kernel
theorem dX1_init_51 : decode cX1_init 51 = .ok (.aload_n 0, 1) := by decide +kernel
theorem dX1_init_52 : decode cX1_init 52 = .ok (.iconst 5, 1) := by decide +kernel
theorem dX1_init_53 : decode cX1_init 53 = .ok (.newarray .int, 2) := by decide +kernel
theorem dX1_init_55 : decode cX1_init 55 = .ok (.putfield 34, 3) := by decide +kernel
theorem dX1_init_58 : decode cX1_init 58 = .ok (.return_, 1) := by decide +kernel
theorem dX1_search_0 : decode cX1_search 0 = .ok (.aload_n 0, 1) := by decide +kernel
theorem dX1_search_1 : decode cX1_search 1 = .ok (.aload_n 1, 1) := by decide +kernel
theorem dX1_search_2 : decode cX1_search 2 = .ok (.getfield 37, 3) := by decide +kernel
theorem dX1_search_5 : decode cX1_search 5 = .ok (.putfield 43, 3) := by decide +kernel
theorem dX1_search_8 : decode cX1_search 8 = .ok (.aload_n 0, 1) := by decide +kernel
theorem dX1_search_9 : decode cX1_search 9 = .ok (.aload_n 1, 1) := by decide +kernel
theorem dX1_search_10 : decode cX1_search 10 = .ok (.getfield 44, 3) := by decide +kernel
theorem dX1_search_13 : decode cX1_search 13 = .ok (.putfield 47, 3) := by decide +kernel
theorem dX1_search_16 : decode cX1_search 16 = .ok (.aload_n 0, 1) := by decide +kernel
theorem dX1_search_17 : decode cX1_search 17 = .ok (.iload_n 2, 1) := by decide +kernel
theorem dX1_search_18 : decode cX1_search 18 = .ok (.putfield 48, 3) := by decide +kernel
theorem dX1_search_21 : decode cX1_search 21 = .ok (.aload_n 0, 1) := by decide +kernel
theorem dX1_search_22 : decode cX1_search 22 = .ok (.iconst (-1), 1) := by decide +kernel
theorem dX1_search_23 : decode cX1_search 23 = .ok (.putfield 51, 3) := by decide +kernel
theorem dX1_search_26 : decode cX1_search 26 = .ok (.iconst 0, 1) := by decide +kernel
theorem dX1_search_27 : decode cX1_search 27 = .ok (.istore_n 3, 1) := by decide +kernel
theorem dX1_search_28 : decode cX1_search 28 = .ok (.iload_n 3, 1) := by decide +kernel
theorem dX1_search_29 : decode cX1_search 29 = .ok (.aload_n 0, 1) := by decide +kernel
theorem dX1_search_30 : decode cX1_search 30 = .ok (.getfield 9, 3) := by decide +kernel
theorem dX1_search_33 : decode cX1_search 33 = .ok (.getfield 54, 3) := by decide +kernel
theorem dX1_search_36 : decode cX1_search 36 = .ok (.if_icmp .ge 76, 3) := by decide +kernel
theorem dX1_search_39 : decode cX1_search 39 = .ok (.aload_n 1, 1) := by decide +kernel
theorem dX1_search_40 : decode cX1_search 40 = .ok (.getfield 59, 3) := by decide +kernel
theorem dX1_search_43 : decode cX1_search 43 = .ok (.iload_n 3, 1) := by decide +kernel
theorem dX1_search_44 : decode cX1_search 44 = .ok (.aaload, 1) := by decide +kernel
theorem dX1_search_45 : decode cX1_search 45 = .ok (.getfield 63, 3) := by decide +kernel
theorem dX1_search_48 : decode cX1_search 48 = .ok (.ifCond .ne 7, 3) := by decide +kernel
theorem dX1_search_51 : decode cX1_search 51 = .ok (.iconst 1, 1) := by decide +kernel
theorem dX1_search_52 : decode cX1_search 52 = .ok (.goto 4, 3) := by decide +kernel
theorem dX1_search_55 : decode cX1_search 55 = .ok (.iconst 0, 1) := by decide +kernel
theorem dX1_search_56 : decode cX1_search 56 = .ok (.istore 4, 2) := by decide +kernel
theorem dX1_search_58 : decode cX1_search 58 = .ok (.aload_n 0, 1) := by decide +kernel
theorem dX1_search_59 : decode cX1_search 59 = .ok (.getfield 23, 3) := by decide +kernel
theorem dX1_search_62 : decode cX1_search 62 = .ok (.iload_n 3, 1) := by decide +kernel
theorem dX1_search_63 : decode cX1_search 63 = .ok (.iload 4, 2) := by decide +kernel
theorem dX1_search_65 : decode cX1_search 65 = .ok (.ifCond .eq 7, 3) := by decide +kernel
theorem dX1_search_68 : decode cX1_search 68 = .ok (.iconst 0, 1) := by decide +kernel
theorem dX1_search_69 : decode cX1_search 69 = .ok (.goto 4, 3) := by decide +kernel
theorem dX1_search_72 : decode cX1_search 72 = .ok (.iconst (-1), 1) := by decide +kernel
theorem dX1_search_73 : decode cX1_search 73 = .ok (.iastore, 1) := by decide +kernel
theorem dX1_search_74 : decode cX1_search 74 = .ok (.iconst 0, 1) := by decide +kernel
theorem dX1_search_75 : decode cX1_search 75 = .ok (.istore 5, 2) := by decide +kernel
theorem dX1_search_77 : decode cX1_search 77 = .ok (.iload 5, 2) := by decide +kernel
theorem dX1_search_79 : decode cX1_search 79 = .ok (.iload 4, 2) := by decide +kernel
theorem dX1_search_81 : decode cX1_search 81 = .ok (.ifCond .eq 7, 3) := by decide +kernel
theorem dX1_search_84 : decode cX1_search 84 = .ok (.iconst 4, 1) := by decide +kernel
theorem dX1_search_85 : decode cX1_search 85 = .ok (.goto 4, 3) := by decide +kernel
theorem dX1_search_88 : decode cX1_search 88 = .ok (.iconst 1, 1) := by decide +kernel
theorem dX1_search_89 : decode cX1_search 89 = .ok (.if_icmp .ge 17, 3) := by decide +kernel
theorem dX1_search_92 : decode cX1_search 92 = .ok (.aload_n 0, 1) := by decide +kernel
theorem dX1_search_93 : decode cX1_search 93 = .ok (.aload_n 1, 1) := by decide +kernel
theorem dX1_search_94 : decode cX1_search 94 = .ok (.iload_n 3, 1) := by decide +kernel
theorem dX1_search_95 : decode cX1_search 95 = .ok (.iload 5, 2) := by decide +kernel
theorem dX1_search_97 : decode cX1_search 97 = .ok (.invokevirtual 66, 3) := by decide +kernel
theorem dX1_search_100 : decode cX1_search 100 = .ok (.iinc 5 1, 3) := by decide +kernel
theorem dX1_search_103 : decode cX1_search 103 = .ok (.goto (-26), 3) := by decide +kernel
theorem dX1_search_106 : decode cX1_search 106 = .ok (.iinc 3 1, 3) := by decide +kernel
theorem dX1_search_109 : decode cX1_search 109 = .ok (.goto (-81), 3) := by decide +kernel
theorem dX1_search_112 : decode cX1_search 112 = .ok (.aload_n 0, 1) := by decide +kernel
theorem dX1_search_113 : decode cX1_search 113 = .ok (.iconst 0, 1) := by decide +kernel
theorem dX1_search_114 : decode cX1_search 114 = .ok (.invokevirtual 70, 3) := by decide +kernel
theorem dX1_search_117 : decode cX1_search 117 = .ok (.return_, 1) := by decide +kernel
theorem dX1_fill_0 : decode cX1_fill 0 = .ok (.aload_n 0, 1) := by decide +kernel
theorem dX1_fill_1 : decode cX1_fill 1 = .ok (.getfield 17, 3) := by decide +kernel
theorem dX1_fill_4 : decode cX1_fill 4 = .ok (.iload_n 2, 1) := by decide +kernel
theorem dX1_fill_5 : decode cX1_fill 5 = .ok (.iconst 4, 1) := by decide +kernel
theorem dX1_fill_6 : decode cX1_fill 6 = .ok (.imul, 1) := by decide +kernel
theorem dX1_fill_7 : decode cX1_fill 7 = .ok (.iload_n 3, 1) := by decide +kernel
theorem dX1_fill_8 : decode cX1_fill 8 = .ok (.iadd, 1) := by decide +kernel
theorem dX1_fill_9 : decode cX1_fill 9 = .ok (.aaload, 1) := by decide +kernel
theorem dX1_fill_10 : decode cX1_fill 10 = .ok (.astore 4, 2) := by decide +kernel
theorem dX1_fill_12 : decode cX1_fill 12 = .ok (.aload_n 0, 1) := by decide +kernel
theorem dX1_fill_13 : decode cX1_fill 13 = .ok (.getfield 30, 3) := by decide +kernel
theorem dX1_fill_16 : decode cX1_fill 16 = .ok (.aload_n 1, 1) := by decide +kernel
theorem dX1_fill_17 : decode cX1_fill 17 = .ok (.getfield 59, 3) := by decide +kernel
theorem dX1_fill_20 : decode cX1_fill 20 = .ok (.iload_n 2, 1) := by decide +kernel
theorem dX1_fill_21 : decode cX1_fill 21 = .ok (.aaload, 1) := by decide +kernel
theorem dX1_fill_22 : decode cX1_fill 22 = .ok (.invokevirtual 74, 3) := by decide +kernel
theorem dX1_fill_25 : decode cX1_fill 25 = .ok (.iconst 0, 1) := by decide +kernel
theorem dX1_fill_26 : decode cX1_fill 26 = .ok (.istore 5, 2) := by decide +kernel
theorem dX1_fill_28 : decode cX1_fill 28 = .ok (.iload 5, 2) := by decide +kernel
theorem dX1_fill_30 : decode cX1_fill 30 = .ok (.aload_n 0, 1) := by decide +kernel
theorem dX1_fill_31 : decode cX1_fill 31 = .ok (.getfield 48, 3) := by decide +kernel
theorem dX1_fill_34 : decode cX1_fill 34 = .ok (.if_icmp .ge 76, 3) := by decide +kernel
theorem dX1_fill_37 : decode cX1_fill 37 = .ok (.iload 5, 2) := by decide +kernel
theorem dX1_fill_39 : decode cX1_fill 39 = .ok (.iload_n 3, 1) := by decide +kernel
theorem dX1_fill_40 : decode cX1_fill 40 = .ok (.if_icmp .ne 29, 3) := by decide +kernel
theorem dX1_fill_43 : decode cX1_fill 43 = .ok (.aload_n 0, 1) := by decide +kernel
theorem dX1_fill_44 : decode cX1_fill 44 = .ok (.getfield 30, 3) := by decide +kernel
theorem dX1_fill_47 : decode cX1_fill 47 = .ok (.getfield 63, 3) := by decide +kernel
theorem dX1_fill_50 : decode cX1_fill 50 = .ok (.ifCond .ne 19, 3) := by decide +kernel
theorem dX1_fill_53 : decode cX1_fill 53 = .ok (.aload_n 0, 1) := by decide +kernel
theorem dX1_fill_54 : decode cX1_fill 54 = .ok (.getfield 30, 3) := by decide +kernel
theorem dX1_fill_57 : decode cX1_fill 57 = .ok (.aload_n 0, 1) := by decide +kernel
theorem dX1_fill_58 : decode cX1_fill 58 = .ok (.getfield 9, 3) := by decide +kernel
theorem dX1_fill_61 : decode cX1_fill 61 = .ok (.getfield 78, 3) := by decide +kernel
theorem dX1_fill_64 : decode cX1_fill 64 = .ok (.iload_n 2, 1) := by decide +kernel
theorem dX1_fill_65 : decode cX1_fill 65 = .ok (.aaload, 1) := by decide +kernel
theorem dX1_fill_66 : decode cX1_fill 66 = .ok (.invokevirtual 82, 3) := by decide +kernel
theorem dX1_fill_69 : decode cX1_fill 69 = .ok (.aload 4, 2) := by decide +kernel
theorem dX1_fill_71 : decode cX1_fill 71 = .ok (.iload 5, 2) := by decide +kernel
theorem dX1_fill_73 : decode cX1_fill 73 = .ok (.aload_n 0, 1) := by decide +kernel
theorem dX1_fill_74 : decode cX1_fill 74 = .ok (.getfield 30, 3) := by decide +kernel
theorem dX1_fill_77 : decode cX1_fill 77 = .ok (.aload_n 0, 1) := by decide +kernel
theorem dX1_fill_78 : decode cX1_fill 78 = .ok (.getfield 9, 3) := by decide +kernel
theorem dX1_fill_81 : decode cX1_fill 81 = .ok (.getfield 78, 3) := by decide +kernel
theorem dX1_fill_84 : decode cX1_fill 84 = .ok (.iload_n 2, 1) := by decide +kernel
theorem dX1_fill_85 : decode cX1_fill 85 = .ok (.aaload, 1) := by decide +kernel
theorem dX1_fill_86 : decode cX1_fill 86 = .ok (.aload_n 0, 1) := by decide +kernel
theorem dX1_fill_87 : decode cX1_fill 87 = .ok (.getfield 9, 3) := by decide +kernel
theorem dX1_fill_90 : decode cX1_fill 90 = .ok (.aload_n 1, 1) := by decide +kernel
theorem dX1_fill_91 : decode cX1_fill 91 = .ok (.getfield 86, 3) := by decide +kernel
theorem dX1_fill_94 : decode cX1_fill 94 = .ok (.iload 5, 2) := by decide +kernel
theorem dX1_fill_96 : decode cX1_fill 96 = .ok (.iadd, 1) := by decide +kernel
theorem dX1_fill_97 : decode cX1_fill 97 = .ok (.invokevirtual 89, 3) := by decide +kernel
theorem dX1_fill_100 : decode cX1_fill 100 = .ok (.invokevirtual 93, 3) := by decide +kernel
theorem dX1_fill_103 : decode cX1_fill 103 = .ok (.iastore, 1) := by decide +kernel
theorem dX1_fill_104 : decode cX1_fill 104 = .ok (.iinc 5 1, 3) := by decide +kernel
theorem dX1_fill_107 : decode cX1_fill 107 = .ok (.goto (-79), 3) := by decide +kernel
theorem dX1_fill_110 : decode cX1_fill 110 = .ok (.return_, 1) := by decide +kernel
theorem dX1_tryFrom_0 : decode cX1_tryFrom 0 = .ok (.iload_n 1, 1) := by decide +kernel
theorem dX1_tryFrom_1 : decode cX1_tryFrom 1 = .ok (.aload_n 0, 1) := by decide +kernel
theorem dX1_tryFrom_2 : decode cX1_tryFrom 2 = .ok (.getfield 9, 3) := by decide +kernel
theorem dX1_tryFrom_5 : decode cX1_tryFrom 5 = .ok (.getfield 54, 3) := by decide +kernel
theorem dX1_tryFrom_8 : decode cX1_tryFrom 8 = .ok (.if_icmp .ge 8, 3) := by decide +kernel
theorem dX1_tryFrom_11 : decode cX1_tryFrom 11 = .ok (.iload_n 1, 1) := by decide +kernel
theorem dX1_tryFrom_12 : decode cX1_tryFrom 12 = .ok (.iconst 5, 1) := by decide +kernel
theorem dX1_tryFrom_13 : decode cX1_tryFrom 13 = .ok (.if_icmp .lt 14, 3) := by decide +kernel
theorem dX1_tryFrom_16 : decode cX1_tryFrom 16 = .ok (.aload_n 0, 1) := by decide +kernel
theorem dX1_tryFrom_17 : decode cX1_tryFrom 17 = .ok (.aload_n 0, 1) := by decide +kernel
theorem dX1_tryFrom_18 : decode cX1_tryFrom 18 = .ok (.getfield 20, 3) := by decide +kernel
theorem dX1_tryFrom_21 : decode cX1_tryFrom 21 = .ok (.iload_n 1, 1) := by decide +kernel
theorem dX1_tryFrom_22 : decode cX1_tryFrom 22 = .ok (.aaload, 1) := by decide +kernel
theorem dX1_tryFrom_23 : decode cX1_tryFrom 23 = .ok (.invokevirtual 97, 3) := by decide +kernel
theorem dX1_tryFrom_26 : decode cX1_tryFrom 26 = .ok (.return_, 1) := by decide +kernel
theorem dX1_tryFrom_27 : decode cX1_tryFrom 27 = .ok (.aload_n 0, 1) := by decide +kernel
theorem dX1_tryFrom_28 : decode cX1_tryFrom 28 = .ok (.getfield 23, 3) := by decide +kernel
theorem dX1_tryFrom_31 : decode cX1_tryFrom 31 = .ok (.iload_n 1, 1) := by decide +kernel
theorem dX1_tryFrom_32 : decode cX1_tryFrom 32 = .ok (.iaload, 1) := by decide +kernel
theorem dX1_tryFrom_33 : decode cX1_tryFrom 33 = .ok (.iconst (-1), 1) := by decide +kernel
theorem dX1_tryFrom_34 : decode cX1_tryFrom 34 = .ok (.if_icmp .ne 17, 3) := by decide +kernel
theorem dX1_tryFrom_37 : decode cX1_tryFrom 37 = .ok (.aload_n 0, 1) := by decide +kernel
theorem dX1_tryFrom_38 : decode cX1_tryFrom 38 = .ok (.iload_n 1, 1) := by decide +kernel
theorem dX1_tryFrom_39 : decode cX1_tryFrom 39 = .ok (.iconst 0, 1) := by decide +kernel
theorem dX1_tryFrom_40 : decode cX1_tryFrom 40 = .ok (.invokevirtual 101, 3) := by decide +kernel
theorem dX1_tryFrom_43 : decode cX1_tryFrom 43 = .ok (.aload_n 0, 1) := by decide +kernel
theorem dX1_tryFrom_44 : decode cX1_tryFrom 44 = .ok (.iload_n 1, 1) := by decide +kernel
theorem dX1_tryFrom_45 : decode cX1_tryFrom 45 = .ok (.iconst 1, 1) := by decide +kernel
theorem dX1_tryFrom_46 : decode cX1_tryFrom 46 = .ok (.iadd, 1) := by decide +kernel
theorem dX1_tryFrom_47 : decode cX1_tryFrom 47 = .ok (.invokevirtual 70, 3) := by decide +kernel
theorem dX1_tryFrom_50 : decode cX1_tryFrom 50 = .ok (.return_, 1) := by decide +kernel
theorem dX1_tryFrom_51 : decode cX1_tryFrom 51 = .ok (.iconst 0, 1) := by decide +kernel
theorem dX1_tryFrom_52 : decode cX1_tryFrom 52 = .ok (.istore_n 2, 1) := by decide +kernel
theorem dX1_tryFrom_53 : decode cX1_tryFrom 53 = .ok (.iload_n 2, 1) := by decide +kernel
theorem dX1_tryFrom_54 : decode cX1_tryFrom 54 = .ok (.iconst 4, 1) := by decide +kernel
theorem dX1_tryFrom_55 : decode cX1_tryFrom 55 = .ok (.if_icmp .ge 43, 3) := by decide +kernel
theorem dX1_tryFrom_58 : decode cX1_tryFrom 58 = .ok (.aload_n 0, 1) := by decide +kernel
theorem dX1_tryFrom_59 : decode cX1_tryFrom 59 = .ok (.getfield 51, 3) := by decide +kernel
theorem dX1_tryFrom_62 : decode cX1_tryFrom 62 = .ok (.aload_n 0, 1) := by decide +kernel
theorem dX1_tryFrom_63 : decode cX1_tryFrom 63 = .ok (.getfield 9, 3) := by decide +kernel
theorem dX1_tryFrom_66 : decode cX1_tryFrom 66 = .ok (.getfield 105, 3) := by decide +kernel
theorem dX1_tryFrom_69 : decode cX1_tryFrom 69 = .ok (.if_icmp .ge 29, 3) := by decide +kernel
theorem dX1_tryFrom_72 : decode cX1_tryFrom 72 = .ok (.aload_n 0, 1) := by decide +kernel
theorem dX1_tryFrom_73 : decode cX1_tryFrom 73 = .ok (.getfield 23, 3) := by decide +kernel
theorem dX1_tryFrom_76 : decode cX1_tryFrom 76 = .ok (.iload_n 1, 1) := by decide +kernel
theorem dX1_tryFrom_77 : decode cX1_tryFrom 77 = .ok (.iload_n 2, 1) := by decide +kernel
theorem dX1_tryFrom_78 : decode cX1_tryFrom 78 = .ok (.iastore, 1) := by decide +kernel
theorem dX1_tryFrom_79 : decode cX1_tryFrom 79 = .ok (.aload_n 0, 1) := by decide +kernel
theorem dX1_tryFrom_80 : decode cX1_tryFrom 80 = .ok (.iload_n 1, 1) := by decide +kernel
theorem dX1_tryFrom_81 : decode cX1_tryFrom 81 = .ok (.iload_n 2, 1) := by decide +kernel
theorem dX1_tryFrom_82 : decode cX1_tryFrom 82 = .ok (.invokevirtual 101, 3) := by decide +kernel
theorem dX1_tryFrom_85 : decode cX1_tryFrom 85 = .ok (.aload_n 0, 1) := by decide +kernel
theorem dX1_tryFrom_86 : decode cX1_tryFrom 86 = .ok (.iload_n 1, 1) := by decide +kernel
theorem dX1_tryFrom_87 : decode cX1_tryFrom 87 = .ok (.iconst 1, 1) := by decide +kernel
theorem dX1_tryFrom_88 : decode cX1_tryFrom 88 = .ok (.iadd, 1) := by decide +kernel
theorem dX1_tryFrom_89 : decode cX1_tryFrom 89 = .ok (.invokevirtual 70, 3) := by decide +kernel
theorem dX1_tryFrom_92 : decode cX1_tryFrom 92 = .ok (.iinc 2 1, 3) := by decide +kernel
theorem dX1_tryFrom_95 : decode cX1_tryFrom 95 = .ok (.goto (-42), 3) := by decide +kernel
theorem dX1_tryFrom_98 : decode cX1_tryFrom 98 = .ok (.return_, 1) := by decide +kernel
theorem dX1_addRow_0 : decode cX1_addRow 0 = .ok (.aload_n 0, 1) := by decide +kernel
theorem dX1_addRow_1 : decode cX1_addRow 1 = .ok (.getfield 20, 3) := by decide +kernel
theorem dX1_addRow_4 : decode cX1_addRow 4 = .ok (.iload_n 1, 1) := by decide +kernel
theorem dX1_addRow_5 : decode cX1_addRow 5 = .ok (.aaload, 1) := by decide +kernel
theorem dX1_addRow_6 : decode cX1_addRow 6 = .ok (.astore_n 3, 1) := by decide +kernel
theorem dX1_addRow_7 : decode cX1_addRow 7 = .ok (.aload_n 0, 1) := by decide +kernel
theorem dX1_addRow_8 : decode cX1_addRow 8 = .ok (.getfield 17, 3) := by decide +kernel
theorem dX1_addRow_11 : decode cX1_addRow 11 = .ok (.iload_n 1, 1) := by decide +kernel
theorem dX1_addRow_12 : decode cX1_addRow 12 = .ok (.iconst 4, 1) := by decide +kernel
theorem dX1_addRow_13 : decode cX1_addRow 13 = .ok (.imul, 1) := by decide +kernel
theorem dX1_addRow_14 : decode cX1_addRow 14 = .ok (.iload_n 2, 1) := by decide +kernel
theorem dX1_addRow_15 : decode cX1_addRow 15 = .ok (.iadd, 1) := by decide +kernel
theorem dX1_addRow_16 : decode cX1_addRow 16 = .ok (.aaload, 1) := by decide +kernel
theorem dX1_addRow_17 : decode cX1_addRow 17 = .ok (.astore 4, 2) := by decide +kernel
theorem dX1_addRow_19 : decode cX1_addRow 19 = .ok (.aload_n 0, 1) := by decide +kernel
theorem dX1_addRow_20 : decode cX1_addRow 20 = .ok (.getfield 20, 3) := by decide +kernel
theorem dX1_addRow_23 : decode cX1_addRow 23 = .ok (.iload_n 1, 1) := by decide +kernel
theorem dX1_addRow_24 : decode cX1_addRow 24 = .ok (.iconst 1, 1) := by decide +kernel
theorem dX1_addRow_25 : decode cX1_addRow 25 = .ok (.iadd, 1) := by decide +kernel
theorem dX1_addRow_26 : decode cX1_addRow 26 = .ok (.aaload, 1) := by decide +kernel
theorem dX1_addRow_27 : decode cX1_addRow 27 = .ok (.astore 5, 2) := by decide +kernel
theorem dX1_addRow_29 : decode cX1_addRow 29 = .ok (.iconst 0, 1) := by decide +kernel
theorem dX1_addRow_30 : decode cX1_addRow 30 = .ok (.istore 6, 2) := by decide +kernel
theorem dX1_addRow_32 : decode cX1_addRow 32 = .ok (.iload 6, 2) := by decide +kernel
theorem dX1_addRow_34 : decode cX1_addRow 34 = .ok (.aload_n 0, 1) := by decide +kernel
theorem dX1_addRow_35 : decode cX1_addRow 35 = .ok (.getfield 48, 3) := by decide +kernel
theorem dX1_addRow_38 : decode cX1_addRow 38 = .ok (.if_icmp .ge 24, 3) := by decide +kernel
theorem dX1_addRow_41 : decode cX1_addRow 41 = .ok (.aload 5, 2) := by decide +kernel
theorem dX1_addRow_43 : decode cX1_addRow 43 = .ok (.iload 6, 2) := by decide +kernel
theorem dX1_addRow_45 : decode cX1_addRow 45 = .ok (.aload_n 3, 1) := by decide +kernel
theorem dX1_addRow_46 : decode cX1_addRow 46 = .ok (.iload 6, 2) := by decide +kernel
theorem dX1_addRow_48 : decode cX1_addRow 48 = .ok (.iaload, 1) := by decide +kernel
theorem dX1_addRow_49 : decode cX1_addRow 49 = .ok (.aload 4, 2) := by decide +kernel
theorem dX1_addRow_51 : decode cX1_addRow 51 = .ok (.iload 6, 2) := by decide +kernel
theorem dX1_addRow_53 : decode cX1_addRow 53 = .ok (.iaload, 1) := by decide +kernel
theorem dX1_addRow_54 : decode cX1_addRow 54 = .ok (.iadd, 1) := by decide +kernel
theorem dX1_addRow_55 : decode cX1_addRow 55 = .ok (.iastore, 1) := by decide +kernel
theorem dX1_addRow_56 : decode cX1_addRow 56 = .ok (.iinc 6 1, 3) := by decide +kernel
theorem dX1_addRow_59 : decode cX1_addRow 59 = .ok (.goto (-27), 3) := by decide +kernel
theorem dX1_addRow_62 : decode cX1_addRow 62 = .ok (.return_, 1) := by decide +kernel
theorem dX1_judge_0 : decode cX1_judge 0 = .ok (.aload_n 0, 1) := by decide +kernel
theorem dX1_judge_1 : decode cX1_judge 1 = .ok (.getfield 9, 3) := by decide +kernel
theorem dX1_judge_4 : decode cX1_judge 4 = .ok (.getfield 105, 3) := by decide +kernel
theorem dX1_judge_7 : decode cX1_judge 7 = .ok (.istore_n 2, 1) := by decide +kernel
theorem dX1_judge_8 : decode cX1_judge 8 = .ok (.aload_n 0, 1) := by decide +kernel
theorem dX1_judge_9 : decode cX1_judge 9 = .ok (.getfield 43, 3) := by decide +kernel
theorem dX1_judge_12 : decode cX1_judge 12 = .ok (.istore_n 3, 1) := by decide +kernel
theorem dX1_judge_13 : decode cX1_judge 13 = .ok (.aload_n 0, 1) := by decide +kernel
theorem dX1_judge_14 : decode cX1_judge 14 = .ok (.getfield 43, 3) := by decide +kernel
theorem dX1_judge_17 : decode cX1_judge 17 = .ok (.istore 4, 2) := by decide +kernel
theorem dX1_judge_19 : decode cX1_judge 19 = .ok (.iconst 0, 1) := by decide +kernel
theorem dX1_judge_20 : decode cX1_judge 20 = .ok (.istore 5, 2) := by decide +kernel
theorem dX1_judge_22 : decode cX1_judge 22 = .ok (.iload 5, 2) := by decide +kernel
theorem dX1_judge_24 : decode cX1_judge 24 = .ok (.aload_n 0, 1) := by decide +kernel
theorem dX1_judge_25 : decode cX1_judge 25 = .ok (.getfield 48, 3) := by decide +kernel
theorem dX1_judge_28 : decode cX1_judge 28 = .ok (.if_icmp .ge 43, 3) := by decide +kernel
theorem dX1_judge_31 : decode cX1_judge 31 = .ok (.iload_n 2, 1) := by decide +kernel
theorem dX1_judge_32 : decode cX1_judge 32 = .ok (.iload 4, 2) := by decide +kernel
theorem dX1_judge_34 : decode cX1_judge 34 = .ok (.aload_n 1, 1) := by decide +kernel
theorem dX1_judge_35 : decode cX1_judge 35 = .ok (.iload 5, 2) := by decide +kernel
theorem dX1_judge_37 : decode cX1_judge 37 = .ok (.iaload, 1) := by decide +kernel
theorem dX1_judge_38 : decode cX1_judge 38 = .ok (.iadd, 1) := by decide +kernel
theorem dX1_judge_39 : decode cX1_judge 39 = .ok (.invokestatic 108, 3) := by decide +kernel
theorem dX1_judge_42 : decode cX1_judge 42 = .ok (.istore 6, 2) := by decide +kernel
theorem dX1_judge_44 : decode cX1_judge 44 = .ok (.iload_n 3, 1) := by decide +kernel
theorem dX1_judge_45 : decode cX1_judge 45 = .ok (.iload 6, 2) := by decide +kernel
theorem dX1_judge_47 : decode cX1_judge 47 = .ok (.invokestatic 114, 3) := by decide +kernel
theorem dX1_judge_50 : decode cX1_judge 50 = .ok (.istore_n 3, 1) := by decide +kernel
theorem dX1_judge_51 : decode cX1_judge 51 = .ok (.iload 6, 2) := by decide +kernel
theorem dX1_judge_53 : decode cX1_judge 53 = .ok (.iload 6, 2) := by decide +kernel
theorem dX1_judge_55 : decode cX1_judge 55 = .ok (.aload_n 0, 1) := by decide +kernel
theorem dX1_judge_56 : decode cX1_judge 56 = .ok (.getfield 47, 3) := by decide +kernel
theorem dX1_judge_59 : decode cX1_judge 59 = .ok (.invokestatic 117, 3) := by decide +kernel
theorem dX1_judge_62 : decode cX1_judge 62 = .ok (.isub, 1) := by decide +kernel
theorem dX1_judge_63 : decode cX1_judge 63 = .ok (.istore 4, 2) := by decide +kernel
theorem dX1_judge_65 : decode cX1_judge 65 = .ok (.iinc 5 1, 3) := by decide +kernel
theorem dX1_judge_68 : decode cX1_judge 68 = .ok (.goto (-46), 3) := by decide +kernel
theorem dX1_judge_71 : decode cX1_judge 71 = .ok (.iload_n 3, 1) := by decide +kernel
theorem dX1_judge_72 : decode cX1_judge 72 = .ok (.aload_n 0, 1) := by decide +kernel
theorem dX1_judge_73 : decode cX1_judge 73 = .ok (.getfield 51, 3) := by decide +kernel
theorem dX1_judge_76 : decode cX1_judge 76 = .ok (.if_icmp .le 22, 3) := by decide +kernel
theorem dX1_judge_79 : decode cX1_judge 79 = .ok (.aload_n 0, 1) := by decide +kernel
theorem dX1_judge_80 : decode cX1_judge 80 = .ok (.iload_n 3, 1) := by decide +kernel
theorem dX1_judge_81 : decode cX1_judge 81 = .ok (.putfield 51, 3) := by decide +kernel
theorem dX1_judge_84 : decode cX1_judge 84 = .ok (.aload_n 0, 1) := by decide +kernel
theorem dX1_judge_85 : decode cX1_judge 85 = .ok (.getfield 23, 3) := by decide +kernel
theorem dX1_judge_88 : decode cX1_judge 88 = .ok (.iconst 0, 1) := by decide +kernel
theorem dX1_judge_89 : decode cX1_judge 89 = .ok (.aload_n 0, 1) := by decide +kernel
theorem dX1_judge_90 : decode cX1_judge 90 = .ok (.getfield 34, 3) := by decide +kernel
theorem dX1_judge_93 : decode cX1_judge 93 = .ok (.iconst 0, 1) := by decide +kernel
theorem dX1_judge_94 : decode cX1_judge 94 = .ok (.iconst 5, 1) := by decide +kernel
theorem dX1_judge_95 : decode cX1_judge 95 = .ok (.invokestatic 120, 3) := by decide +kernel
theorem dX1_judge_98 : decode cX1_judge 98 = .ok (.return_, 1) := by decide +kernel
theorem dX2_init_0 : decode cX2_init 0 = .ok (.aload_n 0, 1) := by decide +kernel
theorem dX2_init_1 : decode cX2_init 1 = .ok (.invokespecial 3, 3) := by decide +kernel
theorem dX2_init_4 : decode cX2_init 4 = .ok (.aload_n 0, 1) := by decide +kernel
theorem dX2_init_5 : decode cX2_init 5 = .ok (.aload_n 1, 1) := by decide +kernel
theorem dX2_init_6 : decode cX2_init 6 = .ok (.putfield 9, 3) := by decide +kernel
theorem dX2_init_9 : decode cX2_init 9 = .ok (.aload_n 0, 1) := by decide +kernel
theorem dX2_init_10 : decode cX2_init 10 = .ok (.iconst 5, 1) := by decide +kernel
theorem dX2_init_11 : decode cX2_init 11 = .ok (.bipush 99, 2) := by decide +kernel
theorem dX2_init_13 : decode cX2_init 13 = .ok (.multianewarray 15 2, 4) := by decide +kernel
theorem dX2_init_17 : decode cX2_init 17 = .ok (.putfield 17, 3) := by decide +kernel
theorem dX2_init_20 : decode cX2_init 20 = .ok (.aload_n 0, 1) := by decide +kernel
theorem dX2_init_21 : decode cX2_init 21 = .ok (.new 20, 3) := by decide +kernel
theorem dX2_init_24 : decode cX2_init 24 = .ok (.dup, 1) := by decide +kernel
theorem dX2_init_25 : decode cX2_init 25 = .ok (.invokespecial 22, 3) := by decide +kernel
theorem dX2_init_28 : decode cX2_init 28 = .ok (.putfield 23, 3) := by decide +kernel
theorem dX2_init_31 : decode cX2_init 31 = .ok (.aload_n 0, 1) := by decide +kernel
theorem dX2_init_32 : decode cX2_init 32 = .ok (.bipush 100, 2) := by decide +kernel
theorem dX2_init_34 : decode cX2_init 34 = .ok (.newarray .int, 2) := by decide +kernel
theorem dX2_init_36 : decode cX2_init 36 = .ok (.putfield 27, 3) := by decide +kernel
theorem dX2_init_39 : decode cX2_init 39 = .ok (.return_, 1) := by decide +kernel
theorem dX2_takeAll_0 : decode cX2_takeAll 0 = .ok (.iconst 0, 1) := by decide +kernel
theorem dX2_takeAll_1 : decode cX2_takeAll 1 = .ok (.istore_n 3, 1) := by decide +kernel
theorem dX2_takeAll_2 : decode cX2_takeAll 2 = .ok (.iload_n 3, 1) := by decide +kernel
theorem dX2_takeAll_3 : decode cX2_takeAll 3 = .ok (.aload_n 0, 1) := by decide +kernel
theorem dX2_takeAll_4 : decode cX2_takeAll 4 = .ok (.getfield 9, 3) := by decide +kernel
theorem dX2_takeAll_7 : decode cX2_takeAll 7 = .ok (.getfield 31, 3) := by decide +kernel
theorem dX2_takeAll_10 : decode cX2_takeAll 10 = .ok (.if_icmp .ge 32, 3) := by decide +kernel
theorem dX2_takeAll_13 : decode cX2_takeAll 13 = .ok (.aload_n 0, 1) := by decide +kernel
theorem dX2_takeAll_14 : decode cX2_takeAll 14 = .ok (.getfield 23, 3) := by decide +kernel
theorem dX2_takeAll_17 : decode cX2_takeAll 17 = .ok (.aload_n 1, 1) := by decide +kernel
theorem dX2_takeAll_18 : decode cX2_takeAll 18 = .ok (.getfield 37, 3) := by decide +kernel
theorem dX2_takeAll_21 : decode cX2_takeAll 21 = .ok (.iload_n 3, 1) := by decide +kernel
theorem dX2_takeAll_22 : decode cX2_takeAll 22 = .ok (.aaload, 1) := by decide +kernel
theorem dX2_takeAll_23 : decode cX2_takeAll 23 = .ok (.invokevirtual 43, 3) := by decide +kernel
theorem dX2_takeAll_26 : decode cX2_takeAll 26 = .ok (.aload_n 0, 1) := by decide +kernel
theorem dX2_takeAll_27 : decode cX2_takeAll 27 = .ok (.iload_n 3, 1) := by decide +kernel
theorem dX2_takeAll_28 : decode cX2_takeAll 28 = .ok (.aload_n 1, 1) := by decide +kernel
theorem dX2_takeAll_29 : decode cX2_takeAll 29 = .ok (.getfield 47, 3) := by decide +kernel
theorem dX2_takeAll_32 : decode cX2_takeAll 32 = .ok (.iload_n 2, 1) := by decide +kernel
theorem dX2_takeAll_33 : decode cX2_takeAll 33 = .ok (.invokevirtual 50, 3) := by decide +kernel
theorem dX2_takeAll_36 : decode cX2_takeAll 36 = .ok (.iinc 3 1, 3) := by decide +kernel
theorem dX2_takeAll_39 : decode cX2_takeAll 39 = .ok (.goto (-37), 3) := by decide +kernel
theorem dX2_takeAll_42 : decode cX2_takeAll 42 = .ok (.aload_n 0, 1) := by decide +kernel
theorem dX2_takeAll_43 : decode cX2_takeAll 43 = .ok (.iconst 1, 1) := by decide +kernel
theorem dX2_takeAll_44 : decode cX2_takeAll 44 = .ok (.aload_n 0, 1) := by decide +kernel
theorem dX2_takeAll_45 : decode cX2_takeAll 45 = .ok (.getfield 9, 3) := by decide +kernel
theorem dX2_takeAll_48 : decode cX2_takeAll 48 = .ok (.getfield 31, 3) := by decide +kernel
theorem dX2_takeAll_51 : decode cX2_takeAll 51 = .ok (.ishl, 1) := by decide +kernel
theorem dX2_takeAll_52 : decode cX2_takeAll 52 = .ok (.iconst 1, 1) := by decide +kernel
theorem dX2_takeAll_53 : decode cX2_takeAll 53 = .ok (.isub, 1) := by decide +kernel
theorem dX2_takeAll_54 : decode cX2_takeAll 54 = .ok (.putfield 54, 3) := by decide +kernel
theorem dX2_takeAll_57 : decode cX2_takeAll 57 = .ok (.return_, 1) := by decide +kernel
theorem dX2_takeOne_0 : decode cX2_takeOne 0 = .ok (.aload_n 0, 1) := by decide +kernel
theorem dX2_takeOne_1 : decode cX2_takeOne 1 = .ok (.getfield 23, 3) := by decide +kernel
theorem dX2_takeOne_4 : decode cX2_takeOne 4 = .ok (.aload_n 1, 1) := by decide +kernel
theorem dX2_takeOne_5 : decode cX2_takeOne 5 = .ok (.getfield 37, 3) := by decide +kernel
theorem dX2_takeOne_8 : decode cX2_takeOne 8 = .ok (.iload_n 2, 1) := by decide +kernel
theorem dX2_takeOne_9 : decode cX2_takeOne 9 = .ok (.aaload, 1) := by decide +kernel
theorem dX2_takeOne_10 : decode cX2_takeOne 10 = .ok (.invokevirtual 43, 3) := by decide +kernel
theorem dX2_takeOne_13 : decode cX2_takeOne 13 = .ok (.aload_n 0, 1) := by decide +kernel
theorem dX2_takeOne_14 : decode cX2_takeOne 14 = .ok (.getfield 23, 3) := by decide +kernel
theorem dX2_takeOne_17 : decode cX2_takeOne 17 = .ok (.dup, 1) := by decide +kernel
theorem dX2_takeOne_18 : decode cX2_takeOne 18 = .ok (.getfield 57, 3) := by decide +kernel
theorem dX2_takeOne_21 : decode cX2_takeOne 21 = .ok (.iload_n 3, 1) := by decide +kernel
theorem dX2_takeOne_22 : decode cX2_takeOne 22 = .ok (.iadd, 1) := by decide +kernel
theorem dX2_takeOne_23 : decode cX2_takeOne 23 = .ok (.putfield 57, 3) := by decide +kernel
theorem dX2_takeOne_26 : decode cX2_takeOne 26 = .ok (.aload_n 0, 1) := by decide +kernel
theorem dX2_takeOne_27 : decode cX2_takeOne 27 = .ok (.iload_n 2, 1) := by decide +kernel
theorem dX2_takeOne_28 : decode cX2_takeOne 28 = .ok (.aload_n 1, 1) := by decide +kernel
theorem dX2_takeOne_29 : decode cX2_takeOne 29 = .ok (.getfield 47, 3) := by decide +kernel
theorem dX2_takeOne_32 : decode cX2_takeOne 32 = .ok (.iload 4, 2) := by decide +kernel
theorem dX2_takeOne_34 : decode cX2_takeOne 34 = .ok (.invokevirtual 50, 3) := by decide +kernel
theorem dX2_takeOne_37 : decode cX2_takeOne 37 = .ok (.return_, 1) := by decide +kernel
theorem dX2_takeBegun_0 : decode cX2_takeBegun 0 = .ok (.iconst 0, 1) := by decide +kernel
theorem dX2_takeBegun_1 : decode cX2_takeBegun 1 = .ok (.istore_n 2, 1) := by decide +kernel
theorem dX2_takeBegun_2 : decode cX2_takeBegun 2 = .ok (.iload_n 2, 1) := by decide +kernel
theorem dX2_takeBegun_3 : decode cX2_takeBegun 3 = .ok (.aload_n 0, 1) := by decide +kernel
theorem dX2_takeBegun_4 : decode cX2_takeBegun 4 = .ok (.getfield 9, 3) := by decide +kernel
theorem dX2_takeBegun_7 : decode cX2_takeBegun 7 = .ok (.getfield 31, 3) := by decide +kernel
theorem dX2_takeBegun_10 : decode cX2_takeBegun 10 = .ok (.if_icmp .ge 39, 3) := by decide +kernel
theorem dX2_takeBegun_13 : decode cX2_takeBegun 13 = .ok (.aload_n 0, 1) := by decide +kernel
theorem dX2_takeBegun_14 : decode cX2_takeBegun 14 = .ok (.getfield 23, 3) := by decide +kernel
theorem dX2_takeBegun_17 : decode cX2_takeBegun 17 = .ok (.invokevirtual 60, 3) := by decide +kernel
theorem dX2_takeBegun_20 : decode cX2_takeBegun 20 = .ok (.aload_n 0, 1) := by decide +kernel
theorem dX2_takeBegun_21 : decode cX2_takeBegun 21 = .ok (.getfield 23, 3) := by decide +kernel
theorem dX2_takeBegun_24 : decode cX2_takeBegun 24 = .ok (.aload_n 0, 1) := by decide +kernel
theorem dX2_takeBegun_25 : decode cX2_takeBegun 25 = .ok (.getfield 9, 3) := by decide +kernel
theorem dX2_takeBegun_28 : decode cX2_takeBegun 28 = .ok (.getfield 63, 3) := by decide +kernel
theorem dX2_takeBegun_31 : decode cX2_takeBegun 31 = .ok (.iload_n 2, 1) := by decide +kernel
theorem dX2_takeBegun_32 : decode cX2_takeBegun 32 = .ok (.aaload, 1) := by decide +kernel
theorem dX2_takeBegun_33 : decode cX2_takeBegun 33 = .ok (.invokevirtual 67, 3) := by decide +kernel
theorem dX2_takeBegun_36 : decode cX2_takeBegun 36 = .ok (.aload_n 0, 1) := by decide +kernel
theorem dX2_takeBegun_37 : decode cX2_takeBegun 37 = .ok (.iload_n 2, 1) := by decide +kernel
theorem dX2_takeBegun_38 : decode cX2_takeBegun 38 = .ok (.iconst 0, 1) := by decide +kernel
theorem dX2_takeBegun_39 : decode cX2_takeBegun 39 = .ok (.iload_n 1, 1) := by decide +kernel
theorem dX2_takeBegun_40 : decode cX2_takeBegun 40 = .ok (.invokevirtual 50, 3) := by decide +kernel
theorem dX2_takeBegun_43 : decode cX2_takeBegun 43 = .ok (.iinc 2 1, 3) := by decide +kernel
theorem dX2_takeBegun_46 : decode cX2_takeBegun 46 = .ok (.goto (-44), 3) := by decide +kernel
theorem dX2_takeBegun_49 : decode cX2_takeBegun 49 = .ok (.return_, 1) := by decide +kernel
theorem dX2_fill_0 : decode cX2_fill 0 = .ok (.iconst 0, 1) := by decide +kernel
theorem dX2_fill_1 : decode cX2_fill 1 = .ok (.istore 4, 2) := by decide +kernel
theorem dX2_fill_3 : decode cX2_fill 3 = .ok (.iload 4, 2) := by decide +kernel
theorem dX2_fill_5 : decode cX2_fill 5 = .ok (.iload_n 3, 1) := by decide +kernel
theorem dX2_fill_6 : decode cX2_fill 6 = .ok (.if_icmp .ge 45, 3) := by decide +kernel
theorem dX2_fill_9 : decode cX2_fill 9 = .ok (.aload_n 0, 1) := by decide +kernel
theorem dX2_fill_10 : decode cX2_fill 10 = .ok (.getfield 17, 3) := by decide +kernel
theorem dX2_fill_13 : decode cX2_fill 13 = .ok (.iload_n 1, 1) := by decide +kernel
theorem dX2_fill_14 : decode cX2_fill 14 = .ok (.aaload, 1) := by decide +kernel
theorem dX2_fill_15 : decode cX2_fill 15 = .ok (.iload 4, 2) := by decide +kernel
theorem dX2_fill_17 : decode cX2_fill 17 = .ok (.aload_n 0, 1) := by decide +kernel
theorem dX2_fill_18 : decode cX2_fill 18 = .ok (.getfield 23, 3) := by decide +kernel
theorem dX2_fill_21 : decode cX2_fill 21 = .ok (.aload_n 0, 1) := by decide +kernel
theorem dX2_fill_22 : decode cX2_fill 22 = .ok (.getfield 9, 3) := by decide +kernel
theorem dX2_fill_25 : decode cX2_fill 25 = .ok (.getfield 63, 3) := by decide +kernel
theorem dX2_fill_28 : decode cX2_fill 28 = .ok (.iload_n 1, 1) := by decide +kernel
theorem dX2_fill_29 : decode cX2_fill 29 = .ok (.aaload, 1) := by decide +kernel
theorem dX2_fill_30 : decode cX2_fill 30 = .ok (.aload_n 0, 1) := by decide +kernel
theorem dX2_fill_31 : decode cX2_fill 31 = .ok (.getfield 9, 3) := by decide +kernel
theorem dX2_fill_34 : decode cX2_fill 34 = .ok (.iload_n 2, 1) := by decide +kernel
theorem dX2_fill_35 : decode cX2_fill 35 = .ok (.iload 4, 2) := by decide +kernel
theorem dX2_fill_37 : decode cX2_fill 37 = .ok (.iadd, 1) := by decide +kernel
theorem dX2_fill_38 : decode cX2_fill 38 = .ok (.invokevirtual 71, 3) := by decide +kernel
theorem dX2_fill_41 : decode cX2_fill 41 = .ok (.invokevirtual 75, 3) := by decide +kernel
theorem dX2_fill_44 : decode cX2_fill 44 = .ok (.iastore, 1) := by decide +kernel
theorem dX2_fill_45 : decode cX2_fill 45 = .ok (.iinc 4 1, 3) := by decide +kernel
theorem dX2_fill_48 : decode cX2_fill 48 = .ok (.goto (-45), 3) := by decide +kernel
theorem dX2_fill_51 : decode cX2_fill 51 = .ok (.return_, 1) := by decide +kernel
theorem dX2_run_0 : decode cX2_run 0 = .ok (.aload_n 0, 1) := by decide +kernel
theorem dX2_run_1 : decode cX2_run 1 = .ok (.getfield 9, 3) := by decide +kernel
theorem dX2_run_4 : decode cX2_run 4 = .ok (.getfield 79, 3) := by decide +kernel
theorem dX2_run_7 : decode cX2_run 7 = .ok (.istore 4, 2) := by decide +kernel
theorem dX2_run_9 : decode cX2_run 9 = .ok (.aload_n 0, 1) := by decide +kernel
theorem dX2_run_10 : decode cX2_run 10 = .ok (.getfield 27, 3) := by decide +kernel
theorem dX2_run_13 : decode cX2_run 13 = .ok (.iconst 0, 1) := by decide +kernel
theorem dX2_run_14 : decode cX2_run 14 = .ok (.iload_n 1, 1) := by decide +kernel
theorem dX2_run_15 : decode cX2_run 15 = .ok (.iastore, 1) := by decide +kernel
theorem dX2_run_16 : decode cX2_run 16 = .ok (.aload_n 0, 1) := by decide +kernel
theorem dX2_run_17 : decode cX2_run 17 = .ok (.iload_n 1, 1) := by decide +kernel
theorem dX2_run_18 : decode cX2_run 18 = .ok (.putfield 82, 3) := by decide +kernel
theorem dX2_run_21 : decode cX2_run 21 = .ok (.aload_n 0, 1) := by decide +kernel
theorem dX2_run_22 : decode cX2_run 22 = .ok (.iconst (-1), 1) := by decide +kernel
theorem dX2_run_23 : decode cX2_run 23 = .ok (.putfield 85, 3) := by decide +kernel
theorem dX2_run_26 : decode cX2_run 26 = .ok (.iconst 0, 1) := by decide +kernel
theorem dX2_run_27 : decode cX2_run 27 = .ok (.istore 5, 2) := by decide +kernel
theorem dX2_run_29 : decode cX2_run 29 = .ok (.iload 5, 2) := by decide +kernel
theorem dX2_run_31 : decode cX2_run 31 = .ok (.iload_n 3, 1) := by decide +kernel
theorem dX2_run_32 : decode cX2_run 32 = .ok (.if_icmp .ge 84, 3) := by decide +kernel
theorem dX2_run_35 : decode cX2_run 35 = .ok (.iload 4, 2) := by decide +kernel
theorem dX2_run_37 : decode cX2_run 37 = .ok (.aload_n 0, 1) := by decide +kernel
theorem dX2_run_38 : decode cX2_run 38 = .ok (.getfield 27, 3) := by decide +kernel
theorem dX2_run_41 : decode cX2_run 41 = .ok (.iload 5, 2) := by decide +kernel
theorem dX2_run_43 : decode cX2_run 43 = .ok (.iaload, 1) := by decide +kernel
theorem dX2_run_44 : decode cX2_run 44 = .ok (.aload_n 0, 1) := by decide +kernel
theorem dX2_run_45 : decode cX2_run 45 = .ok (.iload 5, 2) := by decide +kernel
theorem dX2_run_47 : decode cX2_run 47 = .ok (.invokevirtual 88, 3) := by decide +kernel
theorem dX2_run_50 : decode cX2_run 50 = .ok (.iadd, 1) := by decide +kernel
theorem dX2_run_51 : decode cX2_run 51 = .ok (.invokestatic 92, 3) := by decide +kernel
theorem dX2_run_54 : decode cX2_run 54 = .ok (.istore 6, 2) := by decide +kernel
theorem dX2_run_56 : decode cX2_run 56 = .ok (.aload_n 0, 1) := by decide +kernel
theorem dX2_run_57 : decode cX2_run 57 = .ok (.aload_n 0, 1) := by decide +kernel
theorem dX2_run_58 : decode cX2_run 58 = .ok (.getfield 82, 3) := by decide +kernel
theorem dX2_run_61 : decode cX2_run 61 = .ok (.iload 6, 2) := by decide +kernel
theorem dX2_run_63 : decode cX2_run 63 = .ok (.invokestatic 98, 3) := by decide +kernel
theorem dX2_run_66 : decode cX2_run 66 = .ok (.putfield 82, 3) := by decide +kernel
theorem dX2_run_69 : decode cX2_run 69 = .ok (.iload 6, 2) := by decide +kernel
theorem dX2_run_71 : decode cX2_run 71 = .ok (.iload 4, 2) := by decide +kernel
theorem dX2_run_73 : decode cX2_run 73 = .ok (.if_icmp .ne 19, 3) := by decide +kernel
theorem dX2_run_76 : decode cX2_run 76 = .ok (.aload_n 0, 1) := by decide +kernel
theorem dX2_run_77 : decode cX2_run 77 = .ok (.getfield 85, 3) := by decide +kernel
theorem dX2_run_80 : decode cX2_run 80 = .ok (.iconst (-1), 1) := by decide +kernel
theorem dX2_run_81 : decode cX2_run 81 = .ok (.if_icmp .ne 11, 3) := by decide +kernel
theorem dX2_run_84 : decode cX2_run 84 = .ok (.aload_n 0, 1) := by decide +kernel
theorem dX2_run_85 : decode cX2_run 85 = .ok (.iload 5, 2) := by decide +kernel
theorem dX2_run_87 : decode cX2_run 87 = .ok (.iconst 1, 1) := by decide +kernel
theorem dX2_run_88 : decode cX2_run 88 = .ok (.iadd, 1) := by decide +kernel
theorem dX2_run_89 : decode cX2_run 89 = .ok (.putfield 85, 3) := by decide +kernel
theorem dX2_run_92 : decode cX2_run 92 = .ok (.aload_n 0, 1) := by decide +kernel
theorem dX2_run_93 : decode cX2_run 93 = .ok (.getfield 27, 3) := by decide +kernel
theorem dX2_run_96 : decode cX2_run 96 = .ok (.iload 5, 2) := by decide +kernel
theorem dX2_run_98 : decode cX2_run 98 = .ok (.iconst 1, 1) := by decide +kernel
theorem dX2_run_99 : decode cX2_run 99 = .ok (.iadd, 1) := by decide +kernel
theorem dX2_run_100 : decode cX2_run 100 = .ok (.iload 6, 2) := by decide +kernel
theorem dX2_run_102 : decode cX2_run 102 = .ok (.iload 6, 2) := by decide +kernel
theorem dX2_run_104 : decode cX2_run 104 = .ok (.iload_n 2, 1) := by decide +kernel
theorem dX2_run_105 : decode cX2_run 105 = .ok (.invokestatic 101, 3) := by decide +kernel
theorem dX2_run_108 : decode cX2_run 108 = .ok (.isub, 1) := by decide +kernel
theorem dX2_run_109 : decode cX2_run 109 = .ok (.iastore, 1) := by decide +kernel
theorem dX2_run_110 : decode cX2_run 110 = .ok (.iinc 5 1, 3) := by decide +kernel
theorem dX2_run_113 : decode cX2_run 113 = .ok (.goto (-84), 3) := by decide +kernel
theorem dX2_run_116 : decode cX2_run 116 = .ok (.return_, 1) := by decide +kernel
theorem dX2_pouredIn_0 : decode cX2_pouredIn 0 = .ok (.iconst 0, 1) := by decide +kernel
theorem dX2_pouredIn_1 : decode cX2_pouredIn 1 = .ok (.istore_n 2, 1) := by decide +kernel
theorem dX2_pouredIn_2 : decode cX2_pouredIn 2 = .ok (.iconst 0, 1) := by decide +kernel
theorem dX2_pouredIn_3 : decode cX2_pouredIn 3 = .ok (.istore_n 3, 1) := by decide +kernel
theorem dX2_pouredIn_4 : decode cX2_pouredIn 4 = .ok (.iload_n 3, 1) := by decide +kernel
theorem dX2_pouredIn_5 : decode cX2_pouredIn 5 = .ok (.aload_n 0, 1) := by decide +kernel
theorem dX2_pouredIn_6 : decode cX2_pouredIn 6 = .ok (.getfield 9, 3) := by decide +kernel
theorem dX2_pouredIn_9 : decode cX2_pouredIn 9 = .ok (.getfield 31, 3) := by decide +kernel
theorem dX2_pouredIn_12 : decode cX2_pouredIn 12 = .ok (.if_icmp .ge 31, 3) := by decide +kernel
theorem dX2_pouredIn_15 : decode cX2_pouredIn 15 = .ok (.aload_n 0, 1) := by decide +kernel
theorem dX2_pouredIn_16 : decode cX2_pouredIn 16 = .ok (.getfield 54, 3) := by decide +kernel
theorem dX2_pouredIn_19 : decode cX2_pouredIn 19 = .ok (.iload_n 3, 1) := by decide +kernel
theorem dX2_pouredIn_20 : decode cX2_pouredIn 20 = .ok (.ishr, 1) := by decide +kernel
theorem dX2_pouredIn_21 : decode cX2_pouredIn 21 = .ok (.iconst 1, 1) := by decide +kernel
theorem dX2_pouredIn_22 : decode cX2_pouredIn 22 = .ok (.iand, 1) := by decide +kernel
theorem dX2_pouredIn_23 : decode cX2_pouredIn 23 = .ok (.ifCond .eq 14, 3) := by decide +kernel
theorem dX2_pouredIn_26 : decode cX2_pouredIn 26 = .ok (.iload_n 2, 1) := by decide +kernel
theorem dX2_pouredIn_27 : decode cX2_pouredIn 27 = .ok (.aload_n 0, 1) := by decide +kernel
theorem dX2_pouredIn_28 : decode cX2_pouredIn 28 = .ok (.getfield 17, 3) := by decide +kernel
theorem dX2_pouredIn_31 : decode cX2_pouredIn 31 = .ok (.iload_n 3, 1) := by decide +kernel
theorem dX2_pouredIn_32 : decode cX2_pouredIn 32 = .ok (.aaload, 1) := by decide +kernel
theorem dX2_pouredIn_33 : decode cX2_pouredIn 33 = .ok (.iload_n 1, 1) := by decide +kernel
theorem dX2_pouredIn_34 : decode cX2_pouredIn 34 = .ok (.iaload, 1) := by decide +kernel
theorem dX2_pouredIn_35 : decode cX2_pouredIn 35 = .ok (.iadd, 1) := by decide +kernel
theorem dX2_pouredIn_36 : decode cX2_pouredIn 36 = .ok (.istore_n 2, 1) := by decide +kernel
theorem dX2_pouredIn_37 : decode cX2_pouredIn 37 = .ok (.iinc 3 1, 3) := by decide +kernel
theorem dX2_pouredIn_40 : decode cX2_pouredIn 40 = .ok (.goto (-36), 3) := by decide +kernel
theorem dX2_pouredIn_43 : decode cX2_pouredIn 43 = .ok (.iload_n 2, 1) := by decide +kernel
theorem dX2_pouredIn_44 : decode cX2_pouredIn 44 = .ok (.ireturn, 1) := by decide +kernel
theorem dX3_init_0 : decode cX3_init 0 = .ok (.aload_n 0, 1) := by decide +kernel
theorem dX3_init_1 : decode cX3_init 1 = .ok (.invokespecial 3, 3) := by decide +kernel
theorem dX3_init_4 : decode cX3_init 4 = .ok (.aload_n 0, 1) := by decide +kernel
theorem dX3_init_5 : decode cX3_init 5 = .ok (.sipush 160, 3) := by decide +kernel
theorem dX3_init_8 : decode cX3_init 8 = .ok (.newarray .int, 2) := by decide +kernel
theorem dX3_init_10 : decode cX3_init 10 = .ok (.putfield 9, 3) := by decide +kernel
theorem dX3_init_13 : decode cX3_init 13 = .ok (.return_, 1) := by decide +kernel
theorem dX3_add_0 : decode cX3_add 0 = .ok (.aload_n 0, 1) := by decide +kernel
theorem dX3_add_1 : decode cX3_add 1 = .ok (.getfield 15, 3) := by decide +kernel
theorem dX3_add_4 : decode cX3_add 4 = .ok (.sipush 160, 3) := by decide +kernel
theorem dX3_add_7 : decode cX3_add 7 = .ok (.if_icmp .lt 5, 3) := by decide +kernel
theorem dX3_add_10 : decode cX3_add 10 = .ok (.iconst 0, 1) := by decide +kernel
theorem dX3_add_11 : decode cX3_add 11 = .ok (.ireturn, 1) := by decide +kernel
theorem dX3_add_12 : decode cX3_add 12 = .ok (.aload_n 0, 1) := by decide +kernel
theorem dX3_add_13 : decode cX3_add 13 = .ok (.getfield 9, 3) := by decide +kernel
theorem dX3_add_16 : decode cX3_add 16 = .ok (.aload_n 0, 1) := by decide +kernel
theorem dX3_add_17 : decode cX3_add 17 = .ok (.getfield 15, 3) := by decide +kernel
theorem dX3_add_20 : decode cX3_add 20 = .ok (.iload_n 1, 1) := by decide +kernel
theorem dX3_add_21 : decode cX3_add 21 = .ok (.iastore, 1) := by decide +kernel
theorem dX3_add_22 : decode cX3_add 22 = .ok (.aload_n 0, 1) := by decide +kernel
theorem dX3_add_23 : decode cX3_add 23 = .ok (.dup, 1) := by decide +kernel
theorem dX3_add_24 : decode cX3_add 24 = .ok (.getfield 15, 3) := by decide +kernel
theorem dX3_add_27 : decode cX3_add 27 = .ok (.iconst 1, 1) := by decide +kernel
theorem dX3_add_28 : decode cX3_add 28 = .ok (.iadd, 1) := by decide +kernel
theorem dX3_add_29 : decode cX3_add 29 = .ok (.putfield 15, 3) := by decide +kernel
theorem dX3_add_32 : decode cX3_add 32 = .ok (.iconst 1, 1) := by decide +kernel
theorem dX3_add_33 : decode cX3_add 33 = .ok (.ireturn, 1) := by decide +kernel
theorem dX3_readFromStart_0 : decode cX3_readFromStart 0 = .ok (.aload_n 0, 1) := by decide +kernel
theorem dX3_readFromStart_1 : decode cX3_readFromStart 1 = .ok (.iconst 0, 1) := by decide +kernel
theorem dX3_readFromStart_2 : decode cX3_readFromStart 2 = .ok (.putfield 19, 3) := by decide +kernel
theorem dX3_readFromStart_5 : decode cX3_readFromStart 5 = .ok (.return_, 1) := by decide +kernel
theorem dX3_readToken_0 : decode cX3_readToken 0 = .ok (.aload_n 0, 1) := by decide +kernel
theorem dX3_readToken_1 : decode cX3_readToken 1 = .ok (.aload_n 0, 1) := by decide +kernel
theorem dX3_readToken_2 : decode cX3_readToken 2 = .ok (.getfield 19, 3) := by decide +kernel
theorem dX3_readToken_5 : decode cX3_readToken 5 = .ok (.putfield 22, 3) := by decide +kernel
theorem dX3_readToken_8 : decode cX3_readToken 8 = .ok (.aload_n 0, 1) := by decide +kernel
theorem dX3_readToken_9 : decode cX3_readToken 9 = .ok (.getfield 22, 3) := by decide +kernel
theorem dX3_readToken_12 : decode cX3_readToken 12 = .ok (.aload_n 0, 1) := by decide +kernel
theorem dX3_readToken_13 : decode cX3_readToken 13 = .ok (.getfield 15, 3) := by decide +kernel
theorem dX3_readToken_16 : decode cX3_readToken 16 = .ok (.if_icmp .ge 30, 3) := by decide +kernel
theorem dX3_readToken_19 : decode cX3_readToken 19 = .ok (.aload_n 0, 1) := by decide +kernel
theorem dX3_readToken_20 : decode cX3_readToken 20 = .ok (.getfield 9, 3) := by decide +kernel
theorem dX3_readToken_23 : decode cX3_readToken 23 = .ok (.aload_n 0, 1) := by decide +kernel
theorem dX3_readToken_24 : decode cX3_readToken 24 = .ok (.getfield 22, 3) := by decide +kernel
theorem dX3_readToken_27 : decode cX3_readToken 27 = .ok (.iaload, 1) := by decide +kernel
theorem dX3_readToken_28 : decode cX3_readToken 28 = .ok (.bipush 32, 2) := by decide +kernel
theorem dX3_readToken_30 : decode cX3_readToken 30 = .ok (.if_icmp .ne 16, 3) := by decide +kernel
theorem dX3_readToken_33 : decode cX3_readToken 33 = .ok (.aload_n 0, 1) := by decide +kernel
theorem dX3_readToken_34 : decode cX3_readToken 34 = .ok (.dup, 1) := by decide +kernel
theorem dX3_readToken_35 : decode cX3_readToken 35 = .ok (.getfield 22, 3) := by decide +kernel
theorem dX3_readToken_38 : decode cX3_readToken 38 = .ok (.iconst 1, 1) := by decide +kernel
theorem dX3_readToken_39 : decode cX3_readToken 39 = .ok (.iadd, 1) := by decide +kernel
theorem dX3_readToken_40 : decode cX3_readToken 40 = .ok (.putfield 22, 3) := by decide +kernel
theorem dX3_readToken_43 : decode cX3_readToken 43 = .ok (.goto (-35), 3) := by decide +kernel
theorem dX3_readToken_46 : decode cX3_readToken 46 = .ok (.aload_n 0, 1) := by decide +kernel
theorem dX3_readToken_47 : decode cX3_readToken 47 = .ok (.aload_n 0, 1) := by decide +kernel
theorem dX3_readToken_48 : decode cX3_readToken 48 = .ok (.getfield 22, 3) := by decide +kernel
theorem dX3_readToken_51 : decode cX3_readToken 51 = .ok (.putfield 19, 3) := by decide +kernel
theorem dX3_readToken_54 : decode cX3_readToken 54 = .ok (.aload_n 0, 1) := by decide +kernel
theorem dX3_readToken_55 : decode cX3_readToken 55 = .ok (.aload_n 0, 1) := by decide +kernel
theorem dX3_readToken_56 : decode cX3_readToken 56 = .ok (.aload_n 0, 1) := by decide +kernel
theorem dX3_readToken_57 : decode cX3_readToken 57 = .ok (.getfield 22, 3) := by decide +kernel
theorem dX3_readToken_60 : decode cX3_readToken 60 = .ok (.invokevirtual 25, 3) := by decide +kernel
theorem dX3_readToken_63 : decode cX3_readToken 63 = .ok (.putfield 29, 3) := by decide +kernel
theorem dX3_readToken_66 : decode cX3_readToken 66 = .ok (.aload_n 0, 1) := by decide +kernel
theorem dX3_readToken_67 : decode cX3_readToken 67 = .ok (.getfield 29, 3) := by decide +kernel
theorem dX3_readToken_70 : decode cX3_readToken 70 = .ok (.iconst 3, 1) := by decide +kernel
theorem dX3_readToken_71 : decode cX3_readToken 71 = .ok (.if_icmp .ne 13, 3) := by decide +kernel
theorem dX3_readToken_74 : decode cX3_readToken 74 = .ok (.aload_n 0, 1) := by decide +kernel
theorem dX3_readToken_75 : decode cX3_readToken 75 = .ok (.dup, 1) := by decide +kernel
theorem dX3_readToken_76 : decode cX3_readToken 76 = .ok (.getfield 19, 3) := by decide +kernel
theorem dX3_readToken_79 : decode cX3_readToken 79 = .ok (.iconst 1, 1) := by decide +kernel
theorem dX3_readToken_80 : decode cX3_readToken 80 = .ok (.iadd, 1) := by decide +kernel
theorem dX3_readToken_81 : decode cX3_readToken 81 = .ok (.putfield 19, 3) := by decide +kernel
theorem dX3_readToken_84 : decode cX3_readToken 84 = .ok (.aload_n 0, 1) := by decide +kernel
theorem dX3_readToken_85 : decode cX3_readToken 85 = .ok (.getfield 29, 3) := by decide +kernel
theorem dX3_readToken_88 : decode cX3_readToken 88 = .ok (.iconst 1, 1) := by decide +kernel
theorem dX3_readToken_89 : decode cX3_readToken 89 = .ok (.if_icmp .eq 11, 3) := by decide +kernel
theorem dX3_readToken_92 : decode cX3_readToken 92 = .ok (.aload_n 0, 1) := by decide +kernel
theorem dX3_readToken_93 : decode cX3_readToken 93 = .ok (.getfield 29, 3) := by decide +kernel
theorem dX3_readToken_96 : decode cX3_readToken 96 = .ok (.iconst 2, 1) := by decide +kernel
theorem dX3_readToken_97 : decode cX3_readToken 97 = .ok (.if_icmp .ne 7, 3) := by decide +kernel
theorem dX3_readToken_100 : decode cX3_readToken 100 = .ok (.iconst 1, 1) := by decide +kernel
theorem dX3_readToken_101 : decode cX3_readToken 101 = .ok (.goto 4, 3) := by decide +kernel
theorem dX3_readToken_104 : decode cX3_readToken 104 = .ok (.iconst 0, 1) := by decide +kernel
theorem dX3_readToken_105 : decode cX3_readToken 105 = .ok (.istore_n 1, 1) := by decide +kernel
theorem dX3_readToken_106 : decode cX3_readToken 106 = .ok (.iload_n 1, 1) := by decide +kernel
theorem dX3_readToken_107 : decode cX3_readToken 107 = .ok (.ifCond .eq 42, 3) := by decide +kernel
theorem dX3_readToken_110 : decode cX3_readToken 110 = .ok (.aload_n 0, 1) := by decide +kernel
theorem dX3_readToken_111 : decode cX3_readToken 111 = .ok (.getfield 19, 3) := by decide +kernel
theorem dX3_readToken_114 : decode cX3_readToken 114 = .ok (.aload_n 0, 1) := by decide +kernel
theorem dX3_readToken_115 : decode cX3_readToken 115 = .ok (.getfield 15, 3) := by decide +kernel
theorem dX3_readToken_118 : decode cX3_readToken 118 = .ok (.if_icmp .ge 31, 3) := by decide +kernel
theorem dX3_readToken_121 : decode cX3_readToken 121 = .ok (.aload_n 0, 1) := by decide +kernel
theorem dX3_readToken_122 : decode cX3_readToken 122 = .ok (.aload_n 0, 1) := by decide +kernel
theorem dX3_readToken_123 : decode cX3_readToken 123 = .ok (.getfield 19, 3) := by decide +kernel
theorem dX3_readToken_126 : decode cX3_readToken 126 = .ok (.invokevirtual 25, 3) := by decide +kernel
theorem dX3_readToken_129 : decode cX3_readToken 129 = .ok (.aload_n 0, 1) := by decide +kernel
theorem dX3_readToken_130 : decode cX3_readToken 130 = .ok (.getfield 29, 3) := by decide +kernel
theorem dX3_readToken_133 : decode cX3_readToken 133 = .ok (.if_icmp .ne 16, 3) := by decide +kernel
theorem dX3_readToken_136 : decode cX3_readToken 136 = .ok (.aload_n 0, 1) := by decide +kernel
theorem dX3_readToken_137 : decode cX3_readToken 137 = .ok (.dup, 1) := by decide +kernel
theorem dX3_readToken_138 : decode cX3_readToken 138 = .ok (.getfield 19, 3) := by decide +kernel
theorem dX3_readToken_141 : decode cX3_readToken 141 = .ok (.iconst 1, 1) := by decide +kernel
theorem dX3_readToken_142 : decode cX3_readToken 142 = .ok (.iadd, 1) := by decide +kernel
theorem dX3_readToken_143 : decode cX3_readToken 143 = .ok (.putfield 19, 3) := by decide +kernel
theorem dX3_readToken_146 : decode cX3_readToken 146 = .ok (.goto (-40), 3) := by decide +kernel
theorem dX3_readToken_149 : decode cX3_readToken 149 = .ok (.return_, 1) := by decide +kernel
theorem dX3_typeAt_0 : decode cX3_typeAt 0 = .ok (.iload_n 1, 1) := by decide +kernel
theorem dX3_typeAt_1 : decode cX3_typeAt 1 = .ok (.ifCond .lt 11, 3) := by decide +kernel
theorem dX3_typeAt_4 : decode cX3_typeAt 4 = .ok (.iload_n 1, 1) := by decide +kernel
theorem dX3_typeAt_5 : decode cX3_typeAt 5 = .ok (.aload_n 0, 1) := by decide +kernel
theorem dX3_typeAt_6 : decode cX3_typeAt 6 = .ok (.getfield 15, 3) := by decide +kernel
theorem dX3_typeAt_9 : decode cX3_typeAt 9 = .ok (.if_icmp .lt 5, 3) := by decide +kernel
theorem dX3_typeAt_12 : decode cX3_typeAt 12 = .ok (.iconst 0, 1) := by decide +kernel
theorem dX3_typeAt_13 : decode cX3_typeAt 13 = .ok (.ireturn, 1) := by decide +kernel
theorem dX3_typeAt_14 : decode cX3_typeAt 14 = .ok (.aload_n 0, 1) := by decide +kernel
theorem dX3_typeAt_15 : decode cX3_typeAt 15 = .ok (.getfield 9, 3) := by decide +kernel
theorem dX3_typeAt_18 : decode cX3_typeAt 18 = .ok (.iload_n 1, 1) := by decide +kernel
theorem dX3_typeAt_19 : decode cX3_typeAt 19 = .ok (.iaload, 1) := by decide +kernel
theorem dX3_typeAt_20 : decode cX3_typeAt 20 = .ok (.istore_n 2, 1) := by decide +kernel
theorem dX3_typeAt_21 : decode cX3_typeAt 21 = .ok (.iload_n 2, 1) := by decide +kernel
theorem dX3_typeAt_22 : decode cX3_typeAt 22 = .ok (.bipush 97, 2) := by decide +kernel
theorem dX3_typeAt_24 : decode cX3_typeAt 24 = .ok (.if_icmp .lt 11, 3) := by decide +kernel
theorem dX3_typeAt_27 : decode cX3_typeAt 27 = .ok (.iload_n 2, 1) := by decide +kernel
theorem dX3_typeAt_28 : decode cX3_typeAt 28 = .ok (.bipush 122, 2) := by decide +kernel
theorem dX3_typeAt_30 : decode cX3_typeAt 30 = .ok (.if_icmp .gt 5, 3) := by decide +kernel
theorem dX3_typeAt_33 : decode cX3_typeAt 33 = .ok (.iconst 1, 1) := by decide +kernel
theorem dX3_typeAt_34 : decode cX3_typeAt 34 = .ok (.ireturn, 1) := by decide +kernel
theorem dX3_typeAt_35 : decode cX3_typeAt 35 = .ok (.iload_n 2, 1) := by decide +kernel
theorem dX3_typeAt_36 : decode cX3_typeAt 36 = .ok (.bipush 48, 2) := by decide +kernel
theorem dX3_typeAt_38 : decode cX3_typeAt 38 = .ok (.if_icmp .lt 13, 3) := by decide +kernel
theorem dX3_typeAt_41 : decode cX3_typeAt 41 = .ok (.iload_n 2, 1) := by decide +kernel
theorem dX3_typeAt_42 : decode cX3_typeAt 42 = .ok (.bipush 57, 2) := by decide +kernel
theorem dX3_typeAt_44 : decode cX3_typeAt 44 = .ok (.if_icmp .gt 7, 3) := by decide +kernel
theorem dX3_typeAt_47 : decode cX3_typeAt 47 = .ok (.iconst 2, 1) := by decide +kernel
theorem dX3_typeAt_48 : decode cX3_typeAt 48 = .ok (.goto 4, 3) := by decide +kernel
theorem dX3_typeAt_51 : decode cX3_typeAt 51 = .ok (.iconst 3, 1) := by decide +kernel
theorem dX3_typeAt_52 : decode cX3_typeAt 52 = .ok (.ireturn, 1) := by decide +kernel
theorem dX3_isWord_0 : decode cX3_isWord 0 = .ok (.aload_n 0, 1) := by decide +kernel
theorem dX3_isWord_1 : decode cX3_isWord 1 = .ok (.getfield 29, 3) := by decide +kernel
theorem dX3_isWord_4 : decode cX3_isWord 4 = .ok (.iconst 1, 1) := by decide +kernel
theorem dX3_isWord_5 : decode cX3_isWord 5 = .ok (.if_icmp .ne 19, 3) := by decide +kernel
theorem dX3_isWord_8 : decode cX3_isWord 8 = .ok (.aload_n 1, 1) := by decide +kernel
theorem dX3_isWord_9 : decode cX3_isWord 9 = .ok (.invokevirtual 32, 3) := by decide +kernel
theorem dX3_isWord_12 : decode cX3_isWord 12 = .ok (.aload_n 0, 1) := by decide +kernel
theorem dX3_isWord_13 : decode cX3_isWord 13 = .ok (.getfield 19, 3) := by decide +kernel
theorem dX3_isWord_16 : decode cX3_isWord 16 = .ok (.aload_n 0, 1) := by decide +kernel
theorem dX3_isWord_17 : decode cX3_isWord 17 = .ok (.getfield 22, 3) := by decide +kernel
theorem dX3_isWord_20 : decode cX3_isWord 20 = .ok (.isub, 1) := by decide +kernel
theorem dX3_isWord_21 : decode cX3_isWord 21 = .ok (.if_icmp .eq 5, 3) := by decide +kernel
theorem dX3_isWord_24 : decode cX3_isWord 24 = .ok (.iconst 0, 1) := by decide +kernel
theorem dX3_isWord_25 : decode cX3_isWord 25 = .ok (.ireturn, 1) := by decide +kernel
theorem dX3_isWord_26 : decode cX3_isWord 26 = .ok (.iconst 0, 1) := by decide +kernel
theorem dX3_isWord_27 : decode cX3_isWord 27 = .ok (.istore_n 2, 1) := by decide +kernel
theorem dX3_isWord_28 : decode cX3_isWord 28 = .ok (.iload_n 2, 1) := by decide +kernel
theorem dX3_isWord_29 : decode cX3_isWord 29 = .ok (.aload_n 1, 1) := by decide +kernel
theorem dX3_isWord_30 : decode cX3_isWord 30 = .ok (.invokevirtual 32, 3) := by decide +kernel
theorem dX3_isWord_33 : decode cX3_isWord 33 = .ok (.if_icmp .ge 30, 3) := by decide +kernel
theorem dX3_isWord_36 : decode cX3_isWord 36 = .ok (.aload_n 1, 1) := by decide +kernel
theorem dX3_isWord_37 : decode cX3_isWord 37 = .ok (.iload_n 2, 1) := by decide +kernel
theorem dX3_isWord_38 : decode cX3_isWord 38 = .ok (.invokevirtual 37, 3) := by decide +kernel
theorem dX3_isWord_41 : decode cX3_isWord 41 = .ok (.aload_n 0, 1) := by decide +kernel
theorem dX3_isWord_42 : decode cX3_isWord 42 = .ok (.getfield 9, 3) := by decide +kernel
theorem dX3_isWord_45 : decode cX3_isWord 45 = .ok (.aload_n 0, 1) := by decide +kernel
theorem dX3_isWord_46 : decode cX3_isWord 46 = .ok (.getfield 22, 3) := by decide +kernel
theorem dX3_isWord_49 : decode cX3_isWord 49 = .ok (.iload_n 2, 1) := by decide +kernel
theorem dX3_isWord_50 : decode cX3_isWord 50 = .ok (.iadd, 1) := by decide +kernel
theorem dX3_isWord_51 : decode cX3_isWord 51 = .ok (.iaload, 1) := by decide +kernel
theorem dX3_isWord_52 : decode cX3_isWord 52 = .ok (.if_icmp .eq 5, 3) := by decide +kernel
theorem dX3_isWord_55 : decode cX3_isWord 55 = .ok (.iconst 0, 1) := by decide +kernel
theorem dX3_isWord_56 : decode cX3_isWord 56 = .ok (.ireturn, 1) := by decide +kernel
theorem dX3_isWord_57 : decode cX3_isWord 57 = .ok (.iinc 2 1, 3) := by decide +kernel
theorem dX3_isWord_60 : decode cX3_isWord 60 = .ok (.goto (-32), 3) := by decide +kernel
theorem dX3_isWord_63 : decode cX3_isWord 63 = .ok (.iconst 1, 1) := by decide +kernel
theorem dX3_isWord_64 : decode cX3_isWord 64 = .ok (.ireturn, 1) := by decide +kernel
theorem dX3_isSemicolon_0 : decode cX3_isSemicolon 0 = .ok (.aload_n 0, 1) := by decide +kernel
theorem dX3_isSemicolon_1 : decode cX3_isSemicolon 1 = .ok (.getfield 29, 3) := by decide +kernel
theorem dX3_isSemicolon_4 : decode cX3_isSemicolon 4 = .ok (.iconst 3, 1) := by decide +kernel
theorem dX3_isSemicolon_5 : decode cX3_isSemicolon 5 = .ok (.if_icmp .ne 21, 3) := by decide +kernel
theorem dX3_isSemicolon_8 : decode cX3_isSemicolon 8 = .ok (.aload_n 0, 1) := by decide +kernel
theorem dX3_isSemicolon_9 : decode cX3_isSemicolon 9 = .ok (.getfield 9, 3) := by decide +kernel
theorem dX3_isSemicolon_12 : decode cX3_isSemicolon 12 = .ok (.aload_n 0, 1) := by decide +kernel
theorem dX3_isSemicolon_13 : decode cX3_isSemicolon 13 = .ok (.getfield 22, 3) := by decide +kernel
theorem dX3_isSemicolon_16 : decode cX3_isSemicolon 16 = .ok (.iaload, 1) := by decide +kernel
theorem dX3_isSemicolon_17 : decode cX3_isSemicolon 17 = .ok (.bipush 59, 2) := by decide +kernel
theorem dX3_isSemicolon_19 : decode cX3_isSemicolon 19 = .ok (.if_icmp .ne 7, 3) := by decide +kernel
theorem dX3_isSemicolon_22 : decode cX3_isSemicolon 22 = .ok (.iconst 1, 1) := by decide +kernel
theorem dX3_isSemicolon_23 : decode cX3_isSemicolon 23 = .ok (.goto 4, 3) := by decide +kernel
theorem dX3_isSemicolon_26 : decode cX3_isSemicolon 26 = .ok (.iconst 0, 1) := by decide +kernel
theorem dX3_isSemicolon_27 : decode cX3_isSemicolon 27 = .ok (.ireturn, 1) := by decide +kernel
theorem dX3_number_0 : decode cX3_number 0 = .ok (.aload_n 0, 1) := by decide +kernel
theorem dX3_number_1 : decode cX3_number 1 = .ok (.getfield 29, 3) := by decide +kernel
theorem dX3_number_4 : decode cX3_number 4 = .ok (.iconst 2, 1) := by decide +kernel
theorem dX3_number_5 : decode cX3_number 5 = .ok (.if_icmp .ne 16, 3) := by decide +kernel
theorem dX3_number_8 : decode cX3_number 8 = .ok (.aload_n 0, 1) := by decide +kernel
theorem dX3_number_9 : decode cX3_number 9 = .ok (.getfield 19, 3) := by decide +kernel
theorem dX3_number_12 : decode cX3_number 12 = .ok (.aload_n 0, 1) := by decide +kernel
theorem dX3_number_13 : decode cX3_number 13 = .ok (.getfield 22, 3) := by decide +kernel
theorem dX3_number_16 : decode cX3_number 16 = .ok (.isub, 1) := by decide +kernel
theorem dX3_number_17 : decode cX3_number 17 = .ok (.iconst 2, 1) := by decide +kernel
theorem dX3_number_18 : decode cX3_number 18 = .ok (.if_icmp .le 5, 3) := by decide +kernel
theorem dX3_number_21 : decode cX3_number 21 = .ok (.iconst (-1), 1) := by decide +kernel
theorem dX3_number_22 : decode cX3_number 22 = .ok (.ireturn, 1) := by decide +kernel
theorem dX3_number_23 : decode cX3_number 23 = .ok (.iconst 0, 1) := by decide +kernel
theorem dX3_number_24 : decode cX3_number 24 = .ok (.istore_n 1, 1) := by decide +kernel
theorem dX3_number_25 : decode cX3_number 25 = .ok (.aload_n 0, 1) := by decide +kernel
theorem dX3_number_26 : decode cX3_number 26 = .ok (.getfield 22, 3) := by decide +kernel
theorem dX3_number_29 : decode cX3_number 29 = .ok (.istore_n 2, 1) := by decide +kernel
theorem dX3_number_30 : decode cX3_number 30 = .ok (.iload_n 2, 1) := by decide +kernel
theorem dX3_number_31 : decode cX3_number 31 = .ok (.aload_n 0, 1) := by decide +kernel
theorem dX3_number_32 : decode cX3_number 32 = .ok (.getfield 19, 3) := by decide +kernel
theorem dX3_number_35 : decode cX3_number 35 = .ok (.if_icmp .ge 24, 3) := by decide +kernel
theorem dX3_number_38 : decode cX3_number 38 = .ok (.iload_n 1, 1) := by decide +kernel
theorem dX3_number_39 : decode cX3_number 39 = .ok (.bipush 10, 2) := by decide +kernel
theorem dX3_number_41 : decode cX3_number 41 = .ok (.imul, 1) := by decide +kernel
theorem dX3_number_42 : decode cX3_number 42 = .ok (.aload_n 0, 1) := by decide +kernel
theorem dX3_number_43 : decode cX3_number 43 = .ok (.getfield 9, 3) := by decide +kernel
theorem dX3_number_46 : decode cX3_number 46 = .ok (.iload_n 2, 1) := by decide +kernel
theorem dX3_number_47 : decode cX3_number 47 = .ok (.iaload, 1) := by decide +kernel
theorem dX3_number_48 : decode cX3_number 48 = .ok (.iadd, 1) := by decide +kernel
theorem dX3_number_49 : decode cX3_number 49 = .ok (.bipush 48, 2) := by decide +kernel
theorem dX3_number_51 : decode cX3_number 51 = .ok (.isub, 1) := by decide +kernel
theorem dX3_number_52 : decode cX3_number 52 = .ok (.istore_n 1, 1) := by decide +kernel
theorem dX3_number_53 : decode cX3_number 53 = .ok (.iinc 2 1, 3) := by decide +kernel
theorem dX3_number_56 : decode cX3_number 56 = .ok (.goto (-26), 3) := by decide +kernel
theorem dX3_number_59 : decode cX3_number 59 = .ok (.iload_n 1, 1) := by decide +kernel
theorem dX3_number_60 : decode cX3_number 60 = .ok (.ireturn, 1) := by decide +kernel
theorem dX4_init_0 : decode cX4_init 0 = .ok (.aload_n 0, 1) := by decide +kernel
theorem dX4_init_1 : decode cX4_init 1 = .ok (.invokespecial 3, 3) := by decide +kernel
theorem dX4_init_4 : decode cX4_init 4 = .ok (.aload_n 0, 1) := by decide +kernel
theorem dX4_init_5 : decode cX4_init 5 = .ok (.bipush 8, 2) := by decide +kernel
theorem dX4_init_7 : decode cX4_init 7 = .ok (.anewarray 9, 3) := by decide +kernel
theorem dX4_init_10 : decode cX4_init 10 = .ok (.putfield 11, 3) := by decide +kernel
theorem dX4_init_13 : decode cX4_init 13 = .ok (.iconst 0, 1) := by decide +kernel
theorem dX4_init_14 : decode cX4_init 14 = .ok (.istore_n 1, 1) := by decide +kernel
theorem dX4_init_15 : decode cX4_init 15 = .ok (.iload_n 1, 1) := by decide +kernel
theorem dX4_init_16 : decode cX4_init 16 = .ok (.bipush 8, 2) := by decide +kernel
theorem dX4_init_18 : decode cX4_init 18 = .ok (.if_icmp .ge 22, 3) := by decide +kernel
theorem dX4_init_21 : decode cX4_init 21 = .ok (.aload_n 0, 1) := by decide +kernel
theorem dX4_init_22 : decode cX4_init 22 = .ok (.getfield 11, 3) := by decide +kernel
theorem dX4_init_25 : decode cX4_init 25 = .ok (.iload_n 1, 1) := by decide +kernel
theorem dX4_init_26 : decode cX4_init 26 = .ok (.new 9, 3) := by decide +kernel
theorem dX4_init_29 : decode cX4_init 29 = .ok (.dup, 1) := by decide +kernel
theorem dX4_init_30 : decode cX4_init 30 = .ok (.invokespecial 17, 3) := by decide +kernel
theorem dX4_init_33 : decode cX4_init 33 = .ok (.aastore, 1) := by decide +kernel
theorem dX4_init_34 : decode cX4_init 34 = .ok (.iinc 1 1, 3) := by decide +kernel
theorem dX4_init_37 : decode cX4_init 37 = .ok (.goto (-22), 3) := by decide +kernel
theorem dX4_init_40 : decode cX4_init 40 = .ok (.return_, 1) := by decide +kernel
theorem dX4_push_0 : decode cX4_push 0 = .ok (.aload_n 0, 1) := by decide +kernel
theorem dX4_push_1 : decode cX4_push 1 = .ok (.getfield 11, 3) := by decide +kernel
theorem dX4_push_4 : decode cX4_push 4 = .ok (.aload_n 0, 1) := by decide +kernel
theorem dX4_push_5 : decode cX4_push 5 = .ok (.getfield 18, 3) := by decide +kernel
theorem dX4_push_8 : decode cX4_push 8 = .ok (.aaload, 1) := by decide +kernel
theorem dX4_push_9 : decode cX4_push 9 = .ok (.aload_n 1, 1) := by decide +kernel
theorem dX4_push_10 : decode cX4_push 10 = .ok (.invokevirtual 22, 3) := by decide +kernel
theorem dX4_push_13 : decode cX4_push 13 = .ok (.aload_n 0, 1) := by decide +kernel
theorem dX4_push_14 : decode cX4_push 14 = .ok (.aload_n 0, 1) := by decide +kernel
theorem dX4_push_15 : decode cX4_push 15 = .ok (.getfield 18, 3) := by decide +kernel
theorem dX4_push_18 : decode cX4_push 18 = .ok (.iconst 1, 1) := by decide +kernel
theorem dX4_push_19 : decode cX4_push 19 = .ok (.iadd, 1) := by decide +kernel
theorem dX4_push_20 : decode cX4_push 20 = .ok (.bipush 8, 2) := by decide +kernel
theorem dX4_push_22 : decode cX4_push 22 = .ok (.irem, 1) := by decide +kernel
theorem dX4_push_23 : decode cX4_push 23 = .ok (.putfield 18, 3) := by decide +kernel
theorem dX4_push_26 : decode cX4_push 26 = .ok (.aload_n 0, 1) := by decide +kernel
theorem dX4_push_27 : decode cX4_push 27 = .ok (.bipush 8, 2) := by decide +kernel
theorem dX4_push_29 : decode cX4_push 29 = .ok (.aload_n 0, 1) := by decide +kernel
theorem dX4_push_30 : decode cX4_push 30 = .ok (.getfield 26, 3) := by decide +kernel
theorem dX4_push_33 : decode cX4_push 33 = .ok (.iconst 1, 1) := by decide +kernel
theorem dX4_push_34 : decode cX4_push 34 = .ok (.iadd, 1) := by decide +kernel
theorem dX4_push_35 : decode cX4_push 35 = .ok (.invokestatic 29, 3) := by decide +kernel
theorem dX4_push_38 : decode cX4_push 38 = .ok (.putfield 26, 3) := by decide +kernel
theorem dX4_push_41 : decode cX4_push 41 = .ok (.return_, 1) := by decide +kernel
theorem dX4_pop_0 : decode cX4_pop 0 = .ok (.aload_n 0, 1) := by decide +kernel
theorem dX4_pop_1 : decode cX4_pop 1 = .ok (.getfield 26, 3) := by decide +kernel
theorem dX4_pop_4 : decode cX4_pop 4 = .ok (.ifCond .ne 5, 3) := by decide +kernel
theorem dX4_pop_7 : decode cX4_pop 7 = .ok (.iconst 0, 1) := by decide +kernel
theorem dX4_pop_8 : decode cX4_pop 8 = .ok (.ireturn, 1) := by decide +kernel
theorem dX4_pop_9 : decode cX4_pop 9 = .ok (.aload_n 0, 1) := by decide +kernel
theorem dX4_pop_10 : decode cX4_pop 10 = .ok (.aload_n 0, 1) := by decide +kernel
theorem dX4_pop_11 : decode cX4_pop 11 = .ok (.getfield 18, 3) := by decide +kernel
theorem dX4_pop_14 : decode cX4_pop 14 = .ok (.bipush 8, 2) := by decide +kernel
theorem dX4_pop_16 : decode cX4_pop 16 = .ok (.iadd, 1) := by decide +kernel
theorem dX4_pop_17 : decode cX4_pop 17 = .ok (.iconst 1, 1) := by decide +kernel
theorem dX4_pop_18 : decode cX4_pop 18 = .ok (.isub, 1) := by decide +kernel
theorem dX4_pop_19 : decode cX4_pop 19 = .ok (.bipush 8, 2) := by decide +kernel
theorem dX4_pop_21 : decode cX4_pop 21 = .ok (.irem, 1) := by decide +kernel
theorem dX4_pop_22 : decode cX4_pop 22 = .ok (.putfield 18, 3) := by decide +kernel
theorem dX4_pop_25 : decode cX4_pop 25 = .ok (.aload_n 0, 1) := by decide +kernel
theorem dX4_pop_26 : decode cX4_pop 26 = .ok (.dup, 1) := by decide +kernel
theorem dX4_pop_27 : decode cX4_pop 27 = .ok (.getfield 26, 3) := by decide +kernel
theorem dX4_pop_30 : decode cX4_pop 30 = .ok (.iconst 1, 1) := by decide +kernel
theorem dX4_pop_31 : decode cX4_pop 31 = .ok (.isub, 1) := by decide +kernel
theorem dX4_pop_32 : decode cX4_pop 32 = .ok (.putfield 26, 3) := by decide +kernel
theorem dX4_pop_35 : decode cX4_pop 35 = .ok (.aload_n 1, 1) := by decide +kernel
theorem dX4_pop_36 : decode cX4_pop 36 = .ok (.aload_n 0, 1) := by decide +kernel
theorem dX4_pop_37 : decode cX4_pop 37 = .ok (.getfield 11, 3) := by decide +kernel
theorem dX4_pop_40 : decode cX4_pop 40 = .ok (.aload_n 0, 1) := by decide +kernel
theorem dX4_pop_41 : decode cX4_pop 41 = .ok (.getfield 18, 3) := by decide +kernel
theorem dX4_pop_44 : decode cX4_pop 44 = .ok (.aaload, 1) := by decide +kernel
theorem dX4_pop_45 : decode cX4_pop 45 = .ok (.invokevirtual 22, 3) := by decide +kernel
theorem dX4_pop_48 : decode cX4_pop 48 = .ok (.iconst 1, 1) := by decide +kernel
theorem dX4_pop_49 : decode cX4_pop 49 = .ok (.ireturn, 1) := by decide +kernel
theorem dX5_init_0 : decode cX5_init 0 = .ok (.aload_n 0, 1) := by decide +kernel
theorem dX5_init_1 : decode cX5_init 1 = .ok (.invokespecial 3, 3) := by decide +kernel
theorem dX5_init_4 : decode cX5_init 4 = .ok (.aload_n 0, 1) := by decide +kernel
theorem dX5_init_5 : decode cX5_init 5 = .ok (.iconst 5, 1) := by decide +kernel
theorem dX5_init_6 : decode cX5_init 6 = .ok (.anewarray 9, 3) := by decide +kernel
theorem dX5_init_9 : decode cX5_init 9 = .ok (.putfield 11, 3) := by decide +kernel
theorem dX5_init_12 : decode cX5_init 12 = .ok (.iconst 0, 1) := by decide +kernel
theorem dX5_init_13 : decode cX5_init 13 = .ok (.istore_n 1, 1) := by decide +kernel
theorem dX5_init_14 : decode cX5_init 14 = .ok (.iload_n 1, 1) := by decide +kernel
theorem dX5_init_15 : decode cX5_init 15 = .ok (.iconst 5, 1) := by decide +kernel
theorem dX5_init_16 : decode cX5_init 16 = .ok (.if_icmp .ge 22, 3) := by decide +kernel
theorem dX5_init_19 : decode cX5_init 19 = .ok (.aload_n 0, 1) := by decide +kernel
theorem dX5_init_20 : decode cX5_init 20 = .ok (.getfield 11, 3) := by decide +kernel
theorem dX5_init_23 : decode cX5_init 23 = .ok (.iload_n 1, 1) := by decide +kernel
theorem dX5_init_24 : decode cX5_init 24 = .ok (.new 9, 3) := by decide +kernel
theorem dX5_init_27 : decode cX5_init 27 = .ok (.dup, 1) := by decide +kernel
theorem dX5_init_28 : decode cX5_init 28 = .ok (.invokespecial 17, 3) := by decide +kernel
theorem dX5_init_31 : decode cX5_init 31 = .ok (.aastore, 1) := by decide +kernel
theorem dX5_init_32 : decode cX5_init 32 = .ok (.iinc 1 1, 3) := by decide +kernel
theorem dX5_init_35 : decode cX5_init 35 = .ok (.goto (-21), 3) := by decide +kernel
theorem dX5_init_38 : decode cX5_init 38 = .ok (.return_, 1) := by decide +kernel
theorem dX5_copy_0 : decode cX5_copy 0 = .ok (.aload_n 0, 1) := by decide +kernel
theorem dX5_copy_1 : decode cX5_copy 1 = .ok (.aload_n 1, 1) := by decide +kernel
theorem dX5_copy_2 : decode cX5_copy 2 = .ok (.getfield 18, 3) := by decide +kernel
theorem dX5_copy_5 : decode cX5_copy 5 = .ok (.putfield 18, 3) := by decide +kernel
theorem dX5_copy_8 : decode cX5_copy 8 = .ok (.aload_n 0, 1) := by decide +kernel
theorem dX5_copy_9 : decode cX5_copy 9 = .ok (.aload_n 1, 1) := by decide +kernel
theorem dX5_copy_10 : decode cX5_copy 10 = .ok (.getfield 22, 3) := by decide +kernel
theorem dX5_copy_13 : decode cX5_copy 13 = .ok (.putfield 22, 3) := by decide +kernel
theorem dX5_copy_16 : decode cX5_copy 16 = .ok (.aload_n 0, 1) := by decide +kernel
theorem dX5_copy_17 : decode cX5_copy 17 = .ok (.aload_n 1, 1) := by decide +kernel
theorem dX5_copy_18 : decode cX5_copy 18 = .ok (.getfield 25, 3) := by decide +kernel
theorem dX5_copy_21 : decode cX5_copy 21 = .ok (.putfield 25, 3) := by decide +kernel
theorem dX5_copy_24 : decode cX5_copy 24 = .ok (.aload_n 0, 1) := by decide +kernel
theorem dX5_copy_25 : decode cX5_copy 25 = .ok (.aload_n 1, 1) := by decide +kernel
theorem dX5_copy_26 : decode cX5_copy 26 = .ok (.getfield 28, 3) := by decide +kernel
theorem dX5_copy_29 : decode cX5_copy 29 = .ok (.putfield 28, 3) := by decide +kernel
theorem dX5_copy_32 : decode cX5_copy 32 = .ok (.aload_n 0, 1) := by decide +kernel
theorem dX5_copy_33 : decode cX5_copy 33 = .ok (.aload_n 1, 1) := by decide +kernel
theorem dX5_copy_34 : decode cX5_copy 34 = .ok (.getfield 31, 3) := by decide +kernel
theorem dX5_copy_37 : decode cX5_copy 37 = .ok (.putfield 31, 3) := by decide +kernel
theorem dX5_copy_40 : decode cX5_copy 40 = .ok (.iconst 0, 1) := by decide +kernel
theorem dX5_copy_41 : decode cX5_copy 41 = .ok (.istore_n 2, 1) := by decide +kernel
theorem dX5_copy_42 : decode cX5_copy 42 = .ok (.iload_n 2, 1) := by decide +kernel
theorem dX5_copy_43 : decode cX5_copy 43 = .ok (.iconst 5, 1) := by decide +kernel
theorem dX5_copy_44 : decode cX5_copy 44 = .ok (.if_icmp .ge 24, 3) := by decide +kernel
theorem dX5_copy_47 : decode cX5_copy 47 = .ok (.aload_n 0, 1) := by decide +kernel
theorem dX5_copy_48 : decode cX5_copy 48 = .ok (.getfield 11, 3) := by decide +kernel
theorem dX5_copy_51 : decode cX5_copy 51 = .ok (.iload_n 2, 1) := by decide +kernel
theorem dX5_copy_52 : decode cX5_copy 52 = .ok (.aaload, 1) := by decide +kernel
theorem dX5_copy_53 : decode cX5_copy 53 = .ok (.aload_n 1, 1) := by decide +kernel
theorem dX5_copy_54 : decode cX5_copy 54 = .ok (.getfield 11, 3) := by decide +kernel
theorem dX5_copy_57 : decode cX5_copy 57 = .ok (.iload_n 2, 1) := by decide +kernel
theorem dX5_copy_58 : decode cX5_copy 58 = .ok (.aaload, 1) := by decide +kernel
theorem dX5_copy_59 : decode cX5_copy 59 = .ok (.invokevirtual 34, 3) := by decide +kernel
theorem dX5_copy_62 : decode cX5_copy 62 = .ok (.iinc 2 1, 3) := by decide +kernel
theorem dX5_copy_65 : decode cX5_copy 65 = .ok (.goto (-23), 3) := by decide +kernel
theorem dX5_copy_68 : decode cX5_copy 68 = .ok (.return_, 1) := by decide +kernel
theorem dX5_startAnew_0 : decode cX5_startAnew 0 = .ok (.aload_n 0, 1) := by decide +kernel
theorem dX5_startAnew_1 : decode cX5_startAnew 1 = .ok (.iconst 0, 1) := by decide +kernel
theorem dX5_startAnew_2 : decode cX5_startAnew 2 = .ok (.putfield 18, 3) := by decide +kernel
theorem dX5_startAnew_5 : decode cX5_startAnew 5 = .ok (.aload_n 0, 1) := by decide +kernel
theorem dX5_startAnew_6 : decode cX5_startAnew 6 = .ok (.iconst 0, 1) := by decide +kernel
theorem dX5_startAnew_7 : decode cX5_startAnew 7 = .ok (.putfield 22, 3) := by decide +kernel
theorem dX5_startAnew_10 : decode cX5_startAnew 10 = .ok (.aload_n 0, 1) := by decide +kernel
theorem dX5_startAnew_11 : decode cX5_startAnew 11 = .ok (.iload_n 1, 1) := by decide +kernel
theorem dX5_startAnew_12 : decode cX5_startAnew 12 = .ok (.putfield 25, 3) := by decide +kernel
theorem dX5_startAnew_15 : decode cX5_startAnew 15 = .ok (.aload_n 0, 1) := by decide +kernel
theorem dX5_startAnew_16 : decode cX5_startAnew 16 = .ok (.iconst 0, 1) := by decide +kernel
theorem dX5_startAnew_17 : decode cX5_startAnew 17 = .ok (.putfield 28, 3) := by decide +kernel
theorem dX5_startAnew_20 : decode cX5_startAnew 20 = .ok (.aload_n 0, 1) := by decide +kernel
theorem dX5_startAnew_21 : decode cX5_startAnew 21 = .ok (.iconst 0, 1) := by decide +kernel
theorem dX5_startAnew_22 : decode cX5_startAnew 22 = .ok (.putfield 31, 3) := by decide +kernel
theorem dX5_startAnew_25 : decode cX5_startAnew 25 = .ok (.iconst 0, 1) := by decide +kernel
theorem dX5_startAnew_26 : decode cX5_startAnew 26 = .ok (.istore_n 2, 1) := by decide +kernel
theorem dX5_startAnew_27 : decode cX5_startAnew 27 = .ok (.iload_n 2, 1) := by decide +kernel
theorem dX5_startAnew_28 : decode cX5_startAnew 28 = .ok (.iconst 5, 1) := by decide +kernel
theorem dX5_startAnew_29 : decode cX5_startAnew 29 = .ok (.if_icmp .ge 18, 3) := by decide +kernel
theorem dX5_startAnew_32 : decode cX5_startAnew 32 = .ok (.aload_n 0, 1) := by decide +kernel
theorem dX5_startAnew_33 : decode cX5_startAnew 33 = .ok (.getfield 11, 3) := by decide +kernel
theorem dX5_startAnew_36 : decode cX5_startAnew 36 = .ok (.iload_n 2, 1) := by decide +kernel
theorem dX5_startAnew_37 : decode cX5_startAnew 37 = .ok (.aaload, 1) := by decide +kernel
theorem dX5_startAnew_38 : decode cX5_startAnew 38 = .ok (.invokevirtual 38, 3) := by decide +kernel
theorem dX5_startAnew_41 : decode cX5_startAnew 41 = .ok (.iinc 2 1, 3) := by decide +kernel
theorem dX5_startAnew_44 : decode cX5_startAnew 44 = .ok (.goto (-17), 3) := by decide +kernel
theorem dX5_startAnew_47 : decode cX5_startAnew 47 = .ok (.return_, 1) := by decide +kernel
theorem dX5_passMinute_0 : decode cX5_passMinute 0 = .ok (.aload_n 1, 1) := by decide +kernel
theorem dX5_passMinute_1 : decode cX5_passMinute 1 = .ok (.aload_n 0, 1) := by decide +kernel
theorem dX5_passMinute_2 : decode cX5_passMinute 2 = .ok (.getfield 18, 3) := by decide +kernel
theorem dX5_passMinute_5 : decode cX5_passMinute 5 = .ok (.invokevirtual 41, 3) := by decide +kernel
theorem dX5_passMinute_8 : decode cX5_passMinute 8 = .ok (.istore_n 2, 1) := by decide +kernel
theorem dX5_passMinute_9 : decode cX5_passMinute 9 = .ok (.iconst 0, 1) := by decide +kernel
theorem dX5_passMinute_10 : decode cX5_passMinute 10 = .ok (.istore_n 3, 1) := by decide +kernel
theorem dX5_passMinute_11 : decode cX5_passMinute 11 = .ok (.iconst 0, 1) := by decide +kernel
theorem dX5_passMinute_12 : decode cX5_passMinute 12 = .ok (.istore 4, 2) := by decide +kernel
theorem dX5_passMinute_14 : decode cX5_passMinute 14 = .ok (.iload 4, 2) := by decide +kernel
theorem dX5_passMinute_16 : decode cX5_passMinute 16 = .ok (.aload_n 1, 1) := by decide +kernel
theorem dX5_passMinute_17 : decode cX5_passMinute 17 = .ok (.getfield 47, 3) := by decide +kernel
theorem dX5_passMinute_20 : decode cX5_passMinute 20 = .ok (.if_icmp .ge 30, 3) := by decide +kernel
theorem dX5_passMinute_23 : decode cX5_passMinute 23 = .ok (.iload_n 3, 1) := by decide +kernel
theorem dX5_passMinute_24 : decode cX5_passMinute 24 = .ok (.aload_n 0, 1) := by decide +kernel
theorem dX5_passMinute_25 : decode cX5_passMinute 25 = .ok (.getfield 11, 3) := by decide +kernel
theorem dX5_passMinute_28 : decode cX5_passMinute 28 = .ok (.iload 4, 2) := by decide +kernel
theorem dX5_passMinute_30 : decode cX5_passMinute 30 = .ok (.aaload, 1) := by decide +kernel
theorem dX5_passMinute_31 : decode cX5_passMinute 31 = .ok (.aload_n 1, 1) := by decide +kernel
theorem dX5_passMinute_32 : decode cX5_passMinute 32 = .ok (.getfield 50, 3) := by decide +kernel
theorem dX5_passMinute_35 : decode cX5_passMinute 35 = .ok (.iload 4, 2) := by decide +kernel
theorem dX5_passMinute_37 : decode cX5_passMinute 37 = .ok (.aaload, 1) := by decide +kernel
theorem dX5_passMinute_38 : decode cX5_passMinute 38 = .ok (.iload_n 2, 1) := by decide +kernel
theorem dX5_passMinute_39 : decode cX5_passMinute 39 = .ok (.invokevirtual 54, 3) := by decide +kernel
theorem dX5_passMinute_42 : decode cX5_passMinute 42 = .ok (.iadd, 1) := by decide +kernel
theorem dX5_passMinute_43 : decode cX5_passMinute 43 = .ok (.istore_n 3, 1) := by decide +kernel
theorem dX5_passMinute_44 : decode cX5_passMinute 44 = .ok (.iinc 4 1, 3) := by decide +kernel
theorem dX5_passMinute_47 : decode cX5_passMinute 47 = .ok (.goto (-33), 3) := by decide +kernel
theorem dX5_passMinute_50 : decode cX5_passMinute 50 = .ok (.aload_n 0, 1) := by decide +kernel
theorem dX5_passMinute_51 : decode cX5_passMinute 51 = .ok (.dup, 1) := by decide +kernel
theorem dX5_passMinute_52 : decode cX5_passMinute 52 = .ok (.getfield 31, 3) := by decide +kernel
theorem dX5_passMinute_55 : decode cX5_passMinute 55 = .ok (.iload_n 3, 1) := by decide +kernel
theorem dX5_passMinute_56 : decode cX5_passMinute 56 = .ok (.iadd, 1) := by decide +kernel
theorem dX5_passMinute_57 : decode cX5_passMinute 57 = .ok (.putfield 31, 3) := by decide +kernel
theorem dX5_passMinute_60 : decode cX5_passMinute 60 = .ok (.aload_n 0, 1) := by decide +kernel
theorem dX5_passMinute_61 : decode cX5_passMinute 61 = .ok (.aload_n 1, 1) := by decide +kernel
theorem dX5_passMinute_62 : decode cX5_passMinute 62 = .ok (.getfield 58, 3) := by decide +kernel
theorem dX5_passMinute_65 : decode cX5_passMinute 65 = .ok (.aload_n 0, 1) := by decide +kernel
theorem dX5_passMinute_66 : decode cX5_passMinute 66 = .ok (.getfield 22, 3) := by decide +kernel
theorem dX5_passMinute_69 : decode cX5_passMinute 69 = .ok (.iload_n 3, 1) := by decide +kernel
theorem dX5_passMinute_70 : decode cX5_passMinute 70 = .ok (.iadd, 1) := by decide +kernel
theorem dX5_passMinute_71 : decode cX5_passMinute 71 = .ok (.invokestatic 61, 3) := by decide +kernel
theorem dX5_passMinute_74 : decode cX5_passMinute 74 = .ok (.putfield 22, 3) := by decide +kernel
theorem dX5_passMinute_77 : decode cX5_passMinute 77 = .ok (.aload_n 0, 1) := by decide +kernel
theorem dX5_passMinute_78 : decode cX5_passMinute 78 = .ok (.getfield 22, 3) := by decide +kernel
theorem dX5_passMinute_81 : decode cX5_passMinute 81 = .ok (.aload_n 1, 1) := by decide +kernel
theorem dX5_passMinute_82 : decode cX5_passMinute 82 = .ok (.getfield 58, 3) := by decide +kernel
theorem dX5_passMinute_85 : decode cX5_passMinute 85 = .ok (.if_icmp .ne 13, 3) := by decide +kernel
theorem dX5_passMinute_88 : decode cX5_passMinute 88 = .ok (.aload_n 0, 1) := by decide +kernel
theorem dX5_passMinute_89 : decode cX5_passMinute 89 = .ok (.dup, 1) := by decide +kernel
theorem dX5_passMinute_90 : decode cX5_passMinute 90 = .ok (.getfield 28, 3) := by decide +kernel
theorem dX5_passMinute_93 : decode cX5_passMinute 93 = .ok (.iconst 1, 1) := by decide +kernel
theorem dX5_passMinute_94 : decode cX5_passMinute 94 = .ok (.iadd, 1) := by decide +kernel
theorem dX5_passMinute_95 : decode cX5_passMinute 95 = .ok (.putfield 28, 3) := by decide +kernel
theorem dX5_passMinute_98 : decode cX5_passMinute 98 = .ok (.aload_n 0, 1) := by decide +kernel
theorem dX5_passMinute_99 : decode cX5_passMinute 99 = .ok (.dup, 1) := by decide +kernel
theorem dX5_passMinute_100 : decode cX5_passMinute 100 = .ok (.getfield 22, 3) := by decide +kernel
theorem dX5_passMinute_103 : decode cX5_passMinute 103 = .ok (.aload_n 0, 1) := by decide +kernel
theorem dX5_passMinute_104 : decode cX5_passMinute 104 = .ok (.getfield 22, 3) := by decide +kernel
theorem dX5_passMinute_107 : decode cX5_passMinute 107 = .ok (.aload_n 0, 1) := by decide +kernel
theorem dX5_passMinute_108 : decode cX5_passMinute 108 = .ok (.getfield 25, 3) := by decide +kernel
theorem dX5_passMinute_111 : decode cX5_passMinute 111 = .ok (.invokestatic 67, 3) := by decide +kernel
theorem dX5_passMinute_114 : decode cX5_passMinute 114 = .ok (.isub, 1) := by decide +kernel
theorem dX5_passMinute_115 : decode cX5_passMinute 115 = .ok (.putfield 22, 3) := by decide +kernel
theorem dX5_passMinute_118 : decode cX5_passMinute 118 = .ok (.aload_n 0, 1) := by decide +kernel
theorem dX5_passMinute_119 : decode cX5_passMinute 119 = .ok (.dup, 1) := by decide +kernel
theorem dX5_passMinute_120 : decode cX5_passMinute 120 = .ok (.getfield 18, 3) := by decide +kernel
theorem dX5_passMinute_123 : decode cX5_passMinute 123 = .ok (.iconst 1, 1) := by decide +kernel
theorem dX5_passMinute_124 : decode cX5_passMinute 124 = .ok (.iadd, 1) := by decide +kernel
theorem dX5_passMinute_125 : decode cX5_passMinute 125 = .ok (.putfield 18, 3) := by decide +kernel
theorem dX5_passMinute_128 : decode cX5_passMinute 128 = .ok (.return_, 1) := by decide +kernel
theorem dX5_workers_0 : decode cX5_workers 0 = .ok (.iconst 0, 1) := by decide +kernel
theorem dX5_workers_1 : decode cX5_workers 1 = .ok (.istore_n 1, 1) := by decide +kernel
theorem dX5_workers_2 : decode cX5_workers 2 = .ok (.iconst 0, 1) := by decide +kernel
theorem dX5_workers_3 : decode cX5_workers 3 = .ok (.istore_n 2, 1) := by decide +kernel
theorem dX5_workers_4 : decode cX5_workers 4 = .ok (.iload_n 2, 1) := by decide +kernel
theorem dX5_workers_5 : decode cX5_workers 5 = .ok (.iconst 5, 1) := by decide +kernel
theorem dX5_workers_6 : decode cX5_workers 6 = .ok (.if_icmp .ge 27, 3) := by decide +kernel
theorem dX5_workers_9 : decode cX5_workers 9 = .ok (.aload_n 0, 1) := by decide +kernel
theorem dX5_workers_10 : decode cX5_workers 10 = .ok (.getfield 11, 3) := by decide +kernel
theorem dX5_workers_13 : decode cX5_workers 13 = .ok (.iload_n 2, 1) := by decide +kernel
theorem dX5_workers_14 : decode cX5_workers 14 = .ok (.aaload, 1) := by decide +kernel
theorem dX5_workers_15 : decode cX5_workers 15 = .ok (.getfield 70, 3) := by decide +kernel
theorem dX5_workers_18 : decode cX5_workers 18 = .ok (.ifCond .eq 9, 3) := by decide +kernel
theorem dX5_workers_21 : decode cX5_workers 21 = .ok (.iload_n 1, 1) := by decide +kernel
theorem dX5_workers_22 : decode cX5_workers 22 = .ok (.iconst 1, 1) := by decide +kernel
theorem dX5_workers_23 : decode cX5_workers 23 = .ok (.iload_n 2, 1) := by decide +kernel
theorem dX5_workers_24 : decode cX5_workers 24 = .ok (.ishl, 1) := by decide +kernel
theorem dX5_workers_25 : decode cX5_workers 25 = .ok (.ior, 1) := by decide +kernel
theorem dX5_workers_26 : decode cX5_workers 26 = .ok (.istore_n 1, 1) := by decide +kernel
theorem dX5_workers_27 : decode cX5_workers 27 = .ok (.iinc 2 1, 3) := by decide +kernel
theorem dX5_workers_30 : decode cX5_workers 30 = .ok (.goto (-26), 3) := by decide +kernel
theorem dX5_workers_33 : decode cX5_workers 33 = .ok (.iload_n 1, 1) := by decide +kernel
theorem dX5_workers_34 : decode cX5_workers 34 = .ok (.ireturn, 1) := by decide +kernel
theorem dX6_init_0 : decode cX6_init 0 = .ok (.aload_n 0, 1) := by decide +kernel
theorem dX6_init_1 : decode cX6_init 1 = .ok (.invokespecial 3, 3) := by decide +kernel
theorem dX6_init_4 : decode cX6_init 4 = .ok (.return_, 1) := by decide +kernel
theorem dX6_walk_0 : decode cX6_walk 0 = .ok (.aload_n 0, 1) := by decide +kernel
theorem dX6_walk_1 : decode cX6_walk 1 = .ok (.getfield 9, 3) := by decide +kernel
theorem dX6_walk_4 : decode cX6_walk 4 = .ok (.iconst 1, 1) := by decide +kernel
theorem dX6_walk_5 : decode cX6_walk 5 = .ok (.if_icmp .eq 8, 3) := by decide +kernel
theorem dX6_walk_8 : decode cX6_walk 8 = .ok (.aload_n 0, 1) := by decide +kernel
theorem dX6_walk_9 : decode cX6_walk 9 = .ok (.getfield 15, 3) := by decide +kernel
theorem dX6_walk_12 : decode cX6_walk 12 = .ok (.ireturn, 1) := by decide +kernel
theorem dX6_walk_13 : decode cX6_walk 13 = .ok (.iload_n 1, 1) := by decide +kernel
theorem dX6_walk_14 : decode cX6_walk 14 = .ok (.iconst 3, 1) := by decide +kernel
theorem dX6_walk_15 : decode cX6_walk 15 = .ok (.if_icmp .ge 16, 3) := by decide +kernel
theorem dX6_walk_18 : decode cX6_walk 18 = .ok (.iconst 1, 1) := by decide +kernel
theorem dX6_walk_19 : decode cX6_walk 19 = .ok (.aload_n 0, 1) := by decide +kernel
theorem dX6_walk_20 : decode cX6_walk 20 = .ok (.getfield 15, 3) := by decide +kernel
theorem dX6_walk_23 : decode cX6_walk 23 = .ok (.iconst 1, 1) := by decide +kernel
theorem dX6_walk_24 : decode cX6_walk 24 = .ok (.isub, 1) := by decide +kernel
theorem dX6_walk_25 : decode cX6_walk 25 = .ok (.invokestatic 18, 3) := by decide +kernel
theorem dX6_walk_28 : decode cX6_walk 28 = .ok (.goto 9, 3) := by decide +kernel
theorem dX6_walk_31 : decode cX6_walk 31 = .ok (.aload_n 0, 1) := by decide +kernel
theorem dX6_walk_32 : decode cX6_walk 32 = .ok (.getfield 15, 3) := by decide +kernel
theorem dX6_walk_35 : decode cX6_walk 35 = .ok (.iconst 1, 1) := by decide +kernel
theorem dX6_walk_36 : decode cX6_walk 36 = .ok (.iadd, 1) := by decide +kernel
theorem dX6_walk_37 : decode cX6_walk 37 = .ok (.ireturn, 1) := by decide +kernel
theorem dX6_walkBack_0 : decode cX6_walkBack 0 = .ok (.aload_n 0, 1) := by decide +kernel
theorem dX6_walkBack_1 : decode cX6_walkBack 1 = .ok (.getfield 9, 3) := by decide +kernel
theorem dX6_walkBack_4 : decode cX6_walkBack 4 = .ok (.iconst 2, 1) := by decide +kernel
theorem dX6_walkBack_5 : decode cX6_walkBack 5 = .ok (.if_icmp .ne 13, 3) := by decide +kernel
theorem dX6_walkBack_8 : decode cX6_walkBack 8 = .ok (.aload_n 0, 1) := by decide +kernel
theorem dX6_walkBack_9 : decode cX6_walkBack 9 = .ok (.iload_n 1, 1) := by decide +kernel
theorem dX6_walkBack_10 : decode cX6_walkBack 10 = .ok (.invokevirtual 24, 3) := by decide +kernel
theorem dX6_walkBack_13 : decode cX6_walkBack 13 = .ok (.iconst 2, 1) := by decide +kernel
theorem dX6_walkBack_14 : decode cX6_walkBack 14 = .ok (.iadd, 1) := by decide +kernel
theorem dX6_walkBack_15 : decode cX6_walkBack 15 = .ok (.goto 8, 3) := by decide +kernel
theorem dX6_walkBack_18 : decode cX6_walkBack 18 = .ok (.aload_n 0, 1) := by decide +kernel
theorem dX6_walkBack_19 : decode cX6_walkBack 19 = .ok (.iload_n 1, 1) := by decide +kernel
theorem dX6_walkBack_20 : decode cX6_walkBack 20 = .ok (.invokevirtual 24, 3) := by decide +kernel
theorem dX6_walkBack_23 : decode cX6_walkBack 23 = .ok (.ireturn, 1) := by decide +kernel
theorem dX6_drip_0 : decode cX6_drip 0 = .ok (.aload_n 0, 1) := by decide +kernel
theorem dX6_drip_1 : decode cX6_drip 1 = .ok (.getfield 28, 3) := by decide +kernel
theorem dX6_drip_4 : decode cX6_drip 4 = .ok (.tableswitch 55 1 3 #[28, 35, 48], 28) := by decide +kernel
theorem dX6_drip_32 : decode cX6_drip 32 = .ok (.aload_n 0, 1) := by decide +kernel
theorem dX6_drip_33 : decode cX6_drip 33 = .ok (.getfield 31, 3) := by decide +kernel
theorem dX6_drip_36 : decode cX6_drip 36 = .ok (.iconst 2, 1) := by decide +kernel
theorem dX6_drip_37 : decode cX6_drip 37 = .ok (.idiv, 1) := by decide +kernel
theorem dX6_drip_38 : decode cX6_drip 38 = .ok (.ireturn, 1) := by decide +kernel
theorem dX6_drip_39 : decode cX6_drip 39 = .ok (.iconst 0, 1) := by decide +kernel
theorem dX6_drip_40 : decode cX6_drip 40 = .ok (.aload_n 0, 1) := by decide +kernel
theorem dX6_drip_41 : decode cX6_drip 41 = .ok (.getfield 31, 3) := by decide +kernel
theorem dX6_drip_44 : decode cX6_drip 44 = .ok (.iconst 2, 1) := by decide +kernel
theorem dX6_drip_45 : decode cX6_drip 45 = .ok (.idiv, 1) := by decide +kernel
theorem dX6_drip_46 : decode cX6_drip 46 = .ok (.iconst 1, 1) := by decide +kernel
theorem dX6_drip_47 : decode cX6_drip 47 = .ok (.isub, 1) := by decide +kernel
theorem dX6_drip_48 : decode cX6_drip 48 = .ok (.invokestatic 18, 3) := by decide +kernel
theorem dX6_drip_51 : decode cX6_drip 51 = .ok (.ireturn, 1) := by decide +kernel
theorem dX6_drip_52 : decode cX6_drip 52 = .ok (.aload_n 0, 1) := by decide +kernel
theorem dX6_drip_53 : decode cX6_drip 53 = .ok (.getfield 31, 3) := by decide +kernel
theorem dX6_drip_56 : decode cX6_drip 56 = .ok (.iconst 2, 1) := by decide +kernel
theorem dX6_drip_57 : decode cX6_drip 57 = .ok (.iadd, 1) := by decide +kernel
theorem dX6_drip_58 : decode cX6_drip 58 = .ok (.ireturn, 1) := by decide +kernel
theorem dX6_drip_59 : decode cX6_drip 59 = .ok (.aload_n 0, 1) := by decide +kernel
theorem dX6_drip_60 : decode cX6_drip 60 = .ok (.getfield 31, 3) := by decide +kernel
theorem dX6_drip_63 : decode cX6_drip 63 = .ok (.ireturn, 1) := by decide +kernel
theorem dX7_init_0 : decode cX7_init 0 = .ok (.aload_n 0, 1) := by decide +kernel
theorem dX7_init_1 : decode cX7_init 1 = .ok (.invokespecial 3, 3) := by decide +kernel
theorem dX7_init_4 : decode cX7_init 4 = .ok (.aload_n 0, 1) := by decide +kernel
theorem dX7_init_5 : decode cX7_init 5 = .ok (.iconst 5, 1) := by decide +kernel
theorem dX7_init_6 : decode cX7_init 6 = .ok (.anewarray 9, 3) := by decide +kernel
theorem dX7_init_9 : decode cX7_init 9 = .ok (.putfield 11, 3) := by decide +kernel
theorem dX7_init_12 : decode cX7_init 12 = .ok (.iconst 0, 1) := by decide +kernel
theorem dX7_init_13 : decode cX7_init 13 = .ok (.istore_n 1, 1) := by decide +kernel
theorem dX7_init_14 : decode cX7_init 14 = .ok (.iload_n 1, 1) := by decide +kernel
theorem dX7_init_15 : decode cX7_init 15 = .ok (.iconst 5, 1) := by decide +kernel
theorem dX7_init_16 : decode cX7_init 16 = .ok (.if_icmp .ge 22, 3) := by decide +kernel
theorem dX7_init_19 : decode cX7_init 19 = .ok (.aload_n 0, 1) := by decide +kernel
theorem dX7_init_20 : decode cX7_init 20 = .ok (.getfield 11, 3) := by decide +kernel
theorem dX7_init_23 : decode cX7_init 23 = .ok (.iload_n 1, 1) := by decide +kernel
theorem dX7_init_24 : decode cX7_init 24 = .ok (.new 9, 3) := by decide +kernel
theorem dX7_init_27 : decode cX7_init 27 = .ok (.dup, 1) := by decide +kernel
theorem dX7_init_28 : decode cX7_init 28 = .ok (.invokespecial 17, 3) := by decide +kernel
theorem dX7_init_31 : decode cX7_init 31 = .ok (.aastore, 1) := by decide +kernel
theorem dX7_init_32 : decode cX7_init 32 = .ok (.iinc 1 1, 3) := by decide +kernel
theorem dX7_init_35 : decode cX7_init 35 = .ok (.goto (-21), 3) := by decide +kernel
theorem dX7_init_38 : decode cX7_init 38 = .ok (.aload_n 0, 1) := by decide +kernel
theorem dX7_init_39 : decode cX7_init 39 = .ok (.invokevirtual 18, 3) := by decide +kernel
theorem dX7_init_42 : decode cX7_init 42 = .ok (.return_, 1) := by decide +kernel
theorem dX7_setAsAtFirst_0 : decode cX7_setAsAtFirst 0 = .ok (.aload_n 0, 1) := by decide +kernel
theorem dX7_setAsAtFirst_1 : decode cX7_setAsAtFirst 1 = .ok (.iconst 0, 1) := by decide +kernel
theorem dX7_setAsAtFirst_2 : decode cX7_setAsAtFirst 2 = .ok (.putfield 21, 3) := by decide +kernel
theorem dX7_setAsAtFirst_5 : decode cX7_setAsAtFirst 5 = .ok (.aload_n 0, 1) := by decide +kernel
theorem dX7_setAsAtFirst_6 : decode cX7_setAsAtFirst 6 = .ok (.iconst 0, 1) := by decide +kernel
theorem dX7_setAsAtFirst_7 : decode cX7_setAsAtFirst 7 = .ok (.putfield 25, 3) := by decide +kernel
theorem dX7_setAsAtFirst_10 : decode cX7_setAsAtFirst 10 = .ok (.aload_n 0, 1) := by decide +kernel
theorem dX7_setAsAtFirst_11 : decode cX7_setAsAtFirst 11 = .ok (.iconst 3, 1) := by decide +kernel
theorem dX7_setAsAtFirst_12 : decode cX7_setAsAtFirst 12 = .ok (.putfield 28, 3) := by decide +kernel
theorem dX7_setAsAtFirst_15 : decode cX7_setAsAtFirst 15 = .ok (.aload_n 0, 1) := by decide +kernel
theorem dX7_setAsAtFirst_16 : decode cX7_setAsAtFirst 16 = .ok (.bipush 50, 2) := by decide +kernel
theorem dX7_setAsAtFirst_18 : decode cX7_setAsAtFirst 18 = .ok (.putfield 31, 3) := by decide +kernel
theorem dX7_setAsAtFirst_21 : decode cX7_setAsAtFirst 21 = .ok (.aload_n 0, 1) := by decide +kernel
theorem dX7_setAsAtFirst_22 : decode cX7_setAsAtFirst 22 = .ok (.iconst 2, 1) := by decide +kernel
theorem dX7_setAsAtFirst_23 : decode cX7_setAsAtFirst 23 = .ok (.putfield 34, 3) := by decide +kernel
theorem dX7_setAsAtFirst_26 : decode cX7_setAsAtFirst 26 = .ok (.aload_n 0, 1) := by decide +kernel
theorem dX7_setAsAtFirst_27 : decode cX7_setAsAtFirst 27 = .ok (.iconst (-1), 1) := by decide +kernel
theorem dX7_setAsAtFirst_28 : decode cX7_setAsAtFirst 28 = .ok (.iconst (-1), 1) := by decide +kernel
theorem dX7_setAsAtFirst_29 : decode cX7_setAsAtFirst 29 = .ok (.invokevirtual 37, 3) := by decide +kernel
theorem dX7_setAsAtFirst_32 : decode cX7_setAsAtFirst 32 = .ok (.return_, 1) := by decide +kernel
theorem dX7_setFrost_0 : decode cX7_setFrost 0 = .ok (.aload_n 0, 1) := by decide +kernel
theorem dX7_setFrost_1 : decode cX7_setFrost 1 = .ok (.iload_n 1, 1) := by decide +kernel
theorem dX7_setFrost_2 : decode cX7_setFrost 2 = .ok (.putfield 41, 3) := by decide +kernel
theorem dX7_setFrost_5 : decode cX7_setFrost 5 = .ok (.aload_n 0, 1) := by decide +kernel
theorem dX7_setFrost_6 : decode cX7_setFrost 6 = .ok (.iload_n 2, 1) := by decide +kernel
theorem dX7_setFrost_7 : decode cX7_setFrost 7 = .ok (.putfield 44, 3) := by decide +kernel
theorem dX7_setFrost_10 : decode cX7_setFrost 10 = .ok (.return_, 1) := by decide +kernel
theorem dX7_isFrost_0 : decode cX7_isFrost 0 = .ok (.iload_n 1, 1) := by decide +kernel
theorem dX7_isFrost_1 : decode cX7_isFrost 1 = .ok (.aload_n 0, 1) := by decide +kernel
theorem dX7_isFrost_2 : decode cX7_isFrost 2 = .ok (.getfield 41, 3) := by decide +kernel
theorem dX7_isFrost_5 : decode cX7_isFrost 5 = .ok (.if_icmp .lt 15, 3) := by decide +kernel
theorem dX7_isFrost_8 : decode cX7_isFrost 8 = .ok (.iload_n 1, 1) := by decide +kernel
theorem dX7_isFrost_9 : decode cX7_isFrost 9 = .ok (.aload_n 0, 1) := by decide +kernel
theorem dX7_isFrost_10 : decode cX7_isFrost 10 = .ok (.getfield 44, 3) := by decide +kernel
theorem dX7_isFrost_13 : decode cX7_isFrost 13 = .ok (.if_icmp .gt 7, 3) := by decide +kernel
theorem dX7_isFrost_16 : decode cX7_isFrost 16 = .ok (.iconst 1, 1) := by decide +kernel
theorem dX7_isFrost_17 : decode cX7_isFrost 17 = .ok (.goto 4, 3) := by decide +kernel
theorem dX7_isFrost_20 : decode cX7_isFrost 20 = .ok (.iconst 0, 1) := by decide +kernel
theorem dX7_isFrost_21 : decode cX7_isFrost 21 = .ok (.ireturn, 1) := by decide +kernel
theorem dX7_hear_0 : decode cX7_hear 0 = .ok (.iload_n 1, 1) := by decide +kernel
theorem dX7_hear_1 : decode cX7_hear 1 = .ok (.tableswitch 96 0 5 #[39, 46, 57, 70, 78, 86], 39) := by decide +kernel
theorem dX7_hear_40 : decode cX7_hear 40 = .ok (.aload_n 0, 1) := by decide +kernel
theorem dX7_hear_41 : decode cX7_hear 41 = .ok (.invokevirtual 18, 3) := by decide +kernel
theorem dX7_hear_44 : decode cX7_hear 44 = .ok (.goto 59, 3) := by decide +kernel
theorem dX7_hear_47 : decode cX7_hear 47 = .ok (.aload_n 0, 1) := by decide +kernel
theorem dX7_hear_48 : decode cX7_hear 48 = .ok (.iload_n 2, 1) := by decide +kernel
theorem dX7_hear_49 : decode cX7_hear 49 = .ok (.iload_n 3, 1) := by decide +kernel
theorem dX7_hear_50 : decode cX7_hear 50 = .ok (.iload 4, 2) := by decide +kernel
theorem dX7_hear_52 : decode cX7_hear 52 = .ok (.invokevirtual 47, 3) := by decide +kernel
theorem dX7_hear_55 : decode cX7_hear 55 = .ok (.goto 48, 3) := by decide +kernel
theorem dX7_hear_58 : decode cX7_hear 58 = .ok (.aload_n 0, 1) := by decide +kernel
theorem dX7_hear_59 : decode cX7_hear 59 = .ok (.iload_n 2, 1) := by decide +kernel
theorem dX7_hear_60 : decode cX7_hear 60 = .ok (.putfield 25, 3) := by decide +kernel
theorem dX7_hear_63 : decode cX7_hear 63 = .ok (.aload_n 0, 1) := by decide +kernel
theorem dX7_hear_64 : decode cX7_hear 64 = .ok (.iload_n 3, 1) := by decide +kernel
theorem dX7_hear_65 : decode cX7_hear 65 = .ok (.putfield 28, 3) := by decide +kernel
theorem dX7_hear_68 : decode cX7_hear 68 = .ok (.goto 35, 3) := by decide +kernel
theorem dX7_hear_71 : decode cX7_hear 71 = .ok (.aload_n 0, 1) := by decide +kernel
theorem dX7_hear_72 : decode cX7_hear 72 = .ok (.iload_n 3, 1) := by decide +kernel
theorem dX7_hear_73 : decode cX7_hear 73 = .ok (.putfield 31, 3) := by decide +kernel
theorem dX7_hear_76 : decode cX7_hear 76 = .ok (.goto 27, 3) := by decide +kernel
theorem dX7_hear_79 : decode cX7_hear 79 = .ok (.aload_n 0, 1) := by decide +kernel
theorem dX7_hear_80 : decode cX7_hear 80 = .ok (.iload_n 3, 1) := by decide +kernel
theorem dX7_hear_81 : decode cX7_hear 81 = .ok (.putfield 34, 3) := by decide +kernel
theorem dX7_hear_84 : decode cX7_hear 84 = .ok (.goto 19, 3) := by decide +kernel
theorem dX7_hear_87 : decode cX7_hear 87 = .ok (.aload_n 0, 1) := by decide +kernel
theorem dX7_hear_88 : decode cX7_hear 88 = .ok (.iload_n 3, 1) := by decide +kernel
theorem dX7_hear_89 : decode cX7_hear 89 = .ok (.iload 4, 2) := by decide +kernel
theorem dX7_hear_91 : decode cX7_hear 91 = .ok (.invokevirtual 37, 3) := by decide +kernel
theorem dX7_hear_94 : decode cX7_hear 94 = .ok (.goto 9, 3) := by decide +kernel
theorem dX7_hear_97 : decode cX7_hear 97 = .ok (.aload_n 0, 1) := by decide +kernel
theorem dX7_hear_98 : decode cX7_hear 98 = .ok (.iconst (-1), 1) := by decide +kernel
theorem dX7_hear_99 : decode cX7_hear 99 = .ok (.iconst (-1), 1) := by decide +kernel
theorem dX7_hear_100 : decode cX7_hear 100 = .ok (.invokevirtual 37, 3) := by decide +kernel
theorem dX7_hear_103 : decode cX7_hear 103 = .ok (.return_, 1) := by decide +kernel
theorem dX7_addSister_0 : decode cX7_addSister 0 = .ok (.aload_n 0, 1) := by decide +kernel
theorem dX7_addSister_1 : decode cX7_addSister 1 = .ok (.getfield 21, 3) := by decide +kernel
theorem dX7_addSister_4 : decode cX7_addSister 4 = .ok (.iconst 5, 1) := by decide +kernel
theorem dX7_addSister_5 : decode cX7_addSister 5 = .ok (.if_icmp .lt 4, 3) := by decide +kernel
theorem dX7_addSister_8 : decode cX7_addSister 8 = .ok (.return_, 1) := by decide +kernel
theorem dX7_addSister_9 : decode cX7_addSister 9 = .ok (.aload_n 0, 1) := by decide +kernel
theorem dX7_addSister_10 : decode cX7_addSister 10 = .ok (.getfield 11, 3) := by decide +kernel
theorem dX7_addSister_13 : decode cX7_addSister 13 = .ok (.aload_n 0, 1) := by decide +kernel
theorem dX7_addSister_14 : decode cX7_addSister 14 = .ok (.getfield 21, 3) := by decide +kernel
theorem dX7_addSister_17 : decode cX7_addSister 17 = .ok (.aaload, 1) := by decide +kernel
theorem dX7_addSister_18 : decode cX7_addSister 18 = .ok (.astore 4, 2) := by decide +kernel
theorem dX7_addSister_20 : decode cX7_addSister 20 = .ok (.aload 4, 2) := by decide +kernel
theorem dX7_addSister_22 : decode cX7_addSister 22 = .ok (.iload_n 1, 1) := by decide +kernel
theorem dX7_addSister_23 : decode cX7_addSister 23 = .ok (.putfield 51, 3) := by decide +kernel
theorem dX7_addSister_26 : decode cX7_addSister 26 = .ok (.aload 4, 2) := by decide +kernel
theorem dX7_addSister_28 : decode cX7_addSister 28 = .ok (.iload_n 2, 1) := by decide +kernel
theorem dX7_addSister_29 : decode cX7_addSister 29 = .ok (.putfield 54, 3) := by decide +kernel
theorem dX7_addSister_32 : decode cX7_addSister 32 = .ok (.aload 4, 2) := by decide +kernel
theorem dX7_addSister_34 : decode cX7_addSister 34 = .ok (.iload_n 3, 1) := by decide +kernel
theorem dX7_addSister_35 : decode cX7_addSister 35 = .ok (.putfield 57, 3) := by decide +kernel
theorem dX7_addSister_38 : decode cX7_addSister 38 = .ok (.aload 4, 2) := by decide +kernel
theorem dX7_addSister_40 : decode cX7_addSister 40 = .ok (.aload_n 0, 1) := by decide +kernel
theorem dX7_addSister_41 : decode cX7_addSister 41 = .ok (.getfield 25, 3) := by decide +kernel
theorem dX7_addSister_44 : decode cX7_addSister 44 = .ok (.putfield 60, 3) := by decide +kernel
theorem dX7_addSister_47 : decode cX7_addSister 47 = .ok (.aload 4, 2) := by decide +kernel
theorem dX7_addSister_49 : decode cX7_addSister 49 = .ok (.aload_n 0, 1) := by decide +kernel
theorem dX7_addSister_50 : decode cX7_addSister 50 = .ok (.getfield 28, 3) := by decide +kernel
theorem dX7_addSister_53 : decode cX7_addSister 53 = .ok (.putfield 61, 3) := by decide +kernel
theorem dX7_addSister_56 : decode cX7_addSister 56 = .ok (.aload_n 0, 1) := by decide +kernel
theorem dX7_addSister_57 : decode cX7_addSister 57 = .ok (.dup, 1) := by decide +kernel
theorem dX7_addSister_58 : decode cX7_addSister 58 = .ok (.getfield 21, 3) := by decide +kernel
theorem dX7_addSister_61 : decode cX7_addSister 61 = .ok (.iconst 1, 1) := by decide +kernel
theorem dX7_addSister_62 : decode cX7_addSister 62 = .ok (.iadd, 1) := by decide +kernel
theorem dX7_addSister_63 : decode cX7_addSister 63 = .ok (.putfield 21, 3) := by decide +kernel
theorem dX7_addSister_66 : decode cX7_addSister 66 = .ok (.return_, 1) := by decide +kernel
theorem dX8_init_0 : decode cX8_init 0 = .ok (.aload_n 0, 1) := by decide +kernel
theorem dX8_init_1 : decode cX8_init 1 = .ok (.invokespecial 3, 3) := by decide +kernel
theorem dX8_init_4 : decode cX8_init 4 = .ok (.return_, 1) := by decide +kernel
theorem dX8_copy_0 : decode cX8_copy 0 = .ok (.aload_n 0, 1) := by decide +kernel
theorem dX8_copy_1 : decode cX8_copy 1 = .ok (.aload_n 1, 1) := by decide +kernel
theorem dX8_copy_2 : decode cX8_copy 2 = .ok (.getfield 9, 3) := by decide +kernel
theorem dX8_copy_5 : decode cX8_copy 5 = .ok (.putfield 9, 3) := by decide +kernel
theorem dX8_copy_8 : decode cX8_copy 8 = .ok (.aload_n 0, 1) := by decide +kernel
theorem dX8_copy_9 : decode cX8_copy 9 = .ok (.aload_n 1, 1) := by decide +kernel
theorem dX8_copy_10 : decode cX8_copy 10 = .ok (.getfield 15, 3) := by decide +kernel
theorem dX8_copy_13 : decode cX8_copy 13 = .ok (.putfield 15, 3) := by decide +kernel
theorem dX8_copy_16 : decode cX8_copy 16 = .ok (.aload_n 0, 1) := by decide +kernel
theorem dX8_copy_17 : decode cX8_copy 17 = .ok (.aload_n 1, 1) := by decide +kernel
theorem dX8_copy_18 : decode cX8_copy 18 = .ok (.getfield 18, 3) := by decide +kernel
theorem dX8_copy_21 : decode cX8_copy 21 = .ok (.putfield 18, 3) := by decide +kernel
theorem dX8_copy_24 : decode cX8_copy 24 = .ok (.aload_n 0, 1) := by decide +kernel
theorem dX8_copy_25 : decode cX8_copy 25 = .ok (.aload_n 1, 1) := by decide +kernel
theorem dX8_copy_26 : decode cX8_copy 26 = .ok (.getfield 21, 3) := by decide +kernel
theorem dX8_copy_29 : decode cX8_copy 29 = .ok (.putfield 21, 3) := by decide +kernel
theorem dX8_copy_32 : decode cX8_copy 32 = .ok (.aload_n 0, 1) := by decide +kernel
theorem dX8_copy_33 : decode cX8_copy 33 = .ok (.aload_n 1, 1) := by decide +kernel
theorem dX8_copy_34 : decode cX8_copy 34 = .ok (.getfield 24, 3) := by decide +kernel
theorem dX8_copy_37 : decode cX8_copy 37 = .ok (.putfield 24, 3) := by decide +kernel
theorem dX8_copy_40 : decode cX8_copy 40 = .ok (.return_, 1) := by decide +kernel
theorem dX8_startAnew_0 : decode cX8_startAnew 0 = .ok (.aload_n 0, 1) := by decide +kernel
theorem dX8_startAnew_1 : decode cX8_startAnew 1 = .ok (.invokevirtual 27, 3) := by decide +kernel
theorem dX8_startAnew_4 : decode cX8_startAnew 4 = .ok (.aload_n 0, 1) := by decide +kernel
theorem dX8_startAnew_5 : decode cX8_startAnew 5 = .ok (.iconst 0, 1) := by decide +kernel
theorem dX8_startAnew_6 : decode cX8_startAnew 6 = .ok (.putfield 21, 3) := by decide +kernel
theorem dX8_startAnew_9 : decode cX8_startAnew 9 = .ok (.aload_n 0, 1) := by decide +kernel
theorem dX8_startAnew_10 : decode cX8_startAnew 10 = .ok (.iconst 0, 1) := by decide +kernel
theorem dX8_startAnew_11 : decode cX8_startAnew 11 = .ok (.putfield 24, 3) := by decide +kernel
theorem dX8_startAnew_14 : decode cX8_startAnew 14 = .ok (.return_, 1) := by decide +kernel
theorem dX8_sitDown_0 : decode cX8_sitDown 0 = .ok (.aload_n 0, 1) := by decide +kernel
theorem dX8_sitDown_1 : decode cX8_sitDown 1 = .ok (.iconst 0, 1) := by decide +kernel
theorem dX8_sitDown_2 : decode cX8_sitDown 2 = .ok (.putfield 9, 3) := by decide +kernel
theorem dX8_sitDown_5 : decode cX8_sitDown 5 = .ok (.aload_n 0, 1) := by decide +kernel
theorem dX8_sitDown_6 : decode cX8_sitDown 6 = .ok (.iconst 0, 1) := by decide +kernel
theorem dX8_sitDown_7 : decode cX8_sitDown 7 = .ok (.putfield 15, 3) := by decide +kernel
theorem dX8_sitDown_10 : decode cX8_sitDown 10 = .ok (.aload_n 0, 1) := by decide +kernel
theorem dX8_sitDown_11 : decode cX8_sitDown 11 = .ok (.iconst 0, 1) := by decide +kernel
theorem dX8_sitDown_12 : decode cX8_sitDown 12 = .ok (.putfield 18, 3) := by decide +kernel
theorem dX8_sitDown_15 : decode cX8_sitDown 15 = .ok (.return_, 1) := by decide +kernel
theorem dX8_draw_0 : decode cX8_draw 0 = .ok (.aload_n 0, 1) := by decide +kernel
theorem dX8_draw_1 : decode cX8_draw 1 = .ok (.iconst 1, 1) := by decide +kernel
theorem dX8_draw_2 : decode cX8_draw 2 = .ok (.putfield 9, 3) := by decide +kernel
theorem dX8_draw_5 : decode cX8_draw 5 = .ok (.aload_n 0, 1) := by decide +kernel
theorem dX8_draw_6 : decode cX8_draw 6 = .ok (.aload_n 1, 1) := by decide +kernel
theorem dX8_draw_7 : decode cX8_draw 7 = .ok (.aload_n 0, 1) := by decide +kernel
theorem dX8_draw_8 : decode cX8_draw 8 = .ok (.getfield 21, 3) := by decide +kernel
theorem dX8_draw_11 : decode cX8_draw 11 = .ok (.invokevirtual 30, 3) := by decide +kernel
theorem dX8_draw_14 : decode cX8_draw 14 = .ok (.putfield 15, 3) := by decide +kernel
theorem dX8_draw_17 : decode cX8_draw 17 = .ok (.aload_n 0, 1) := by decide +kernel
theorem dX8_draw_18 : decode cX8_draw 18 = .ok (.aload_n 1, 1) := by decide +kernel
theorem dX8_draw_19 : decode cX8_draw 19 = .ok (.getfield 36, 3) := by decide +kernel
theorem dX8_draw_22 : decode cX8_draw 22 = .ok (.putfield 18, 3) := by decide +kernel
theorem dX8_draw_25 : decode cX8_draw 25 = .ok (.return_, 1) := by decide +kernel
theorem dX8_passMinute_0 : decode cX8_passMinute 0 = .ok (.iload_n 2, 1) := by decide +kernel
theorem dX8_passMinute_1 : decode cX8_passMinute 1 = .ok (.ifCond .eq 7, 3) := by decide +kernel
theorem dX8_passMinute_4 : decode cX8_passMinute 4 = .ok (.iconst 0, 1) := by decide +kernel
theorem dX8_passMinute_5 : decode cX8_passMinute 5 = .ok (.goto 7, 3) := by decide +kernel
theorem dX8_passMinute_8 : decode cX8_passMinute 8 = .ok (.aload_n 1, 1) := by decide +kernel
theorem dX8_passMinute_9 : decode cX8_passMinute 9 = .ok (.invokevirtual 39, 3) := by decide +kernel
theorem dX8_passMinute_12 : decode cX8_passMinute 12 = .ok (.istore_n 3, 1) := by decide +kernel
theorem dX8_passMinute_13 : decode cX8_passMinute 13 = .ok (.aload_n 0, 1) := by decide +kernel
theorem dX8_passMinute_14 : decode cX8_passMinute 14 = .ok (.getfield 24, 3) := by decide +kernel
theorem dX8_passMinute_17 : decode cX8_passMinute 17 = .ok (.ifCond .le 17, 3) := by decide +kernel
theorem dX8_passMinute_20 : decode cX8_passMinute 20 = .ok (.iload_n 3, 1) := by decide +kernel
theorem dX8_passMinute_21 : decode cX8_passMinute 21 = .ok (.iconst 2, 1) := by decide +kernel
theorem dX8_passMinute_22 : decode cX8_passMinute 22 = .ok (.idiv, 1) := by decide +kernel
theorem dX8_passMinute_23 : decode cX8_passMinute 23 = .ok (.istore_n 3, 1) := by decide +kernel
theorem dX8_passMinute_24 : decode cX8_passMinute 24 = .ok (.aload_n 0, 1) := by decide +kernel
theorem dX8_passMinute_25 : decode cX8_passMinute 25 = .ok (.dup, 1) := by decide +kernel
theorem dX8_passMinute_26 : decode cX8_passMinute 26 = .ok (.getfield 24, 3) := by decide +kernel
theorem dX8_passMinute_29 : decode cX8_passMinute 29 = .ok (.iconst 1, 1) := by decide +kernel
theorem dX8_passMinute_30 : decode cX8_passMinute 30 = .ok (.isub, 1) := by decide +kernel
theorem dX8_passMinute_31 : decode cX8_passMinute 31 = .ok (.putfield 24, 3) := by decide +kernel
theorem dX8_passMinute_34 : decode cX8_passMinute 34 = .ok (.aload_n 0, 1) := by decide +kernel
theorem dX8_passMinute_35 : decode cX8_passMinute 35 = .ok (.getfield 9, 3) := by decide +kernel
theorem dX8_passMinute_38 : decode cX8_passMinute 38 = .ok (.ifCond .ne 5, 3) := by decide +kernel
theorem dX8_passMinute_41 : decode cX8_passMinute 41 = .ok (.iconst 0, 1) := by decide +kernel
theorem dX8_passMinute_42 : decode cX8_passMinute 42 = .ok (.ireturn, 1) := by decide +kernel
theorem dX8_passMinute_43 : decode cX8_passMinute 43 = .ok (.aload_n 0, 1) := by decide +kernel
theorem dX8_passMinute_44 : decode cX8_passMinute 44 = .ok (.iconst 0, 1) := by decide +kernel
theorem dX8_passMinute_45 : decode cX8_passMinute 45 = .ok (.aload_n 0, 1) := by decide +kernel
theorem dX8_passMinute_46 : decode cX8_passMinute 46 = .ok (.getfield 18, 3) := by decide +kernel
theorem dX8_passMinute_49 : decode cX8_passMinute 49 = .ok (.iload_n 3, 1) := by decide +kernel
theorem dX8_passMinute_50 : decode cX8_passMinute 50 = .ok (.isub, 1) := by decide +kernel
theorem dX8_passMinute_51 : decode cX8_passMinute 51 = .ok (.invokestatic 43, 3) := by decide +kernel
theorem dX8_passMinute_54 : decode cX8_passMinute 54 = .ok (.putfield 18, 3) := by decide +kernel
theorem dX8_passMinute_57 : decode cX8_passMinute 57 = .ok (.aload_n 0, 1) := by decide +kernel
theorem dX8_passMinute_58 : decode cX8_passMinute 58 = .ok (.dup, 1) := by decide +kernel
theorem dX8_passMinute_59 : decode cX8_passMinute 59 = .ok (.getfield 15, 3) := by decide +kernel
theorem dX8_passMinute_62 : decode cX8_passMinute 62 = .ok (.iconst 1, 1) := by decide +kernel
theorem dX8_passMinute_63 : decode cX8_passMinute 63 = .ok (.isub, 1) := by decide +kernel
theorem dX8_passMinute_64 : decode cX8_passMinute 64 = .ok (.putfield 15, 3) := by decide +kernel
theorem dX8_passMinute_67 : decode cX8_passMinute 67 = .ok (.aload_n 0, 1) := by decide +kernel
theorem dX8_passMinute_68 : decode cX8_passMinute 68 = .ok (.getfield 15, 3) := by decide +kernel
theorem dX8_passMinute_71 : decode cX8_passMinute 71 = .ok (.ifCond .le 5, 3) := by decide +kernel
theorem dX8_passMinute_74 : decode cX8_passMinute 74 = .ok (.iconst 0, 1) := by decide +kernel
theorem dX8_passMinute_75 : decode cX8_passMinute 75 = .ok (.ireturn, 1) := by decide +kernel
theorem dX8_passMinute_76 : decode cX8_passMinute 76 = .ok (.aload_n 0, 1) := by decide +kernel
theorem dX8_passMinute_77 : decode cX8_passMinute 77 = .ok (.getfield 9, 3) := by decide +kernel
theorem dX8_passMinute_80 : decode cX8_passMinute 80 = .ok (.iconst 1, 1) := by decide +kernel
theorem dX8_passMinute_81 : decode cX8_passMinute 81 = .ok (.if_icmp .ne 9, 3) := by decide +kernel
theorem dX8_passMinute_84 : decode cX8_passMinute 84 = .ok (.aload_n 0, 1) := by decide +kernel
theorem dX8_passMinute_85 : decode cX8_passMinute 85 = .ok (.aload_n 1, 1) := by decide +kernel
theorem dX8_passMinute_86 : decode cX8_passMinute 86 = .ok (.invokevirtual 49, 3) := by decide +kernel
theorem dX8_passMinute_89 : decode cX8_passMinute 89 = .ok (.ireturn, 1) := by decide +kernel
theorem dX8_passMinute_90 : decode cX8_passMinute 90 = .ok (.aload_n 0, 1) := by decide +kernel
theorem dX8_passMinute_91 : decode cX8_passMinute 91 = .ok (.dup, 1) := by decide +kernel
theorem dX8_passMinute_92 : decode cX8_passMinute 92 = .ok (.getfield 21, 3) := by decide +kernel
theorem dX8_passMinute_95 : decode cX8_passMinute 95 = .ok (.iconst 1, 1) := by decide +kernel
theorem dX8_passMinute_96 : decode cX8_passMinute 96 = .ok (.iadd, 1) := by decide +kernel
theorem dX8_passMinute_97 : decode cX8_passMinute 97 = .ok (.putfield 21, 3) := by decide +kernel
theorem dX8_passMinute_100 : decode cX8_passMinute 100 = .ok (.aload_n 0, 1) := by decide +kernel
theorem dX8_passMinute_101 : decode cX8_passMinute 101 = .ok (.aload_n 1, 1) := by decide +kernel
theorem dX8_passMinute_102 : decode cX8_passMinute 102 = .ok (.invokevirtual 53, 3) := by decide +kernel
theorem dX8_passMinute_105 : decode cX8_passMinute 105 = .ok (.iconst 0, 1) := by decide +kernel
theorem dX8_passMinute_106 : decode cX8_passMinute 106 = .ok (.ireturn, 1) := by decide +kernel
theorem dX8_pour_0 : decode cX8_pour 0 = .ok (.aload_n 0, 1) := by decide +kernel
theorem dX8_pour_1 : decode cX8_pour 1 = .ok (.getfield 18, 3) := by decide +kernel
theorem dX8_pour_4 : decode cX8_pour 4 = .ok (.istore_n 2, 1) := by decide +kernel
theorem dX8_pour_5 : decode cX8_pour 5 = .ok (.aload_n 0, 1) := by decide +kernel
theorem dX8_pour_6 : decode cX8_pour 6 = .ok (.iconst 2, 1) := by decide +kernel
theorem dX8_pour_7 : decode cX8_pour 7 = .ok (.putfield 9, 3) := by decide +kernel
theorem dX8_pour_10 : decode cX8_pour 10 = .ok (.aload_n 0, 1) := by decide +kernel
theorem dX8_pour_11 : decode cX8_pour 11 = .ok (.aload_n 1, 1) := by decide +kernel
theorem dX8_pour_12 : decode cX8_pour 12 = .ok (.aload_n 0, 1) := by decide +kernel
theorem dX8_pour_13 : decode cX8_pour 13 = .ok (.getfield 21, 3) := by decide +kernel
theorem dX8_pour_16 : decode cX8_pour 16 = .ok (.invokevirtual 57, 3) := by decide +kernel
theorem dX8_pour_19 : decode cX8_pour 19 = .ok (.putfield 15, 3) := by decide +kernel
theorem dX8_pour_22 : decode cX8_pour 22 = .ok (.aload_n 0, 1) := by decide +kernel
theorem dX8_pour_23 : decode cX8_pour 23 = .ok (.iconst 0, 1) := by decide +kernel
theorem dX8_pour_24 : decode cX8_pour 24 = .ok (.putfield 18, 3) := by decide +kernel
theorem dX8_pour_27 : decode cX8_pour 27 = .ok (.iload_n 2, 1) := by decide +kernel
theorem dX8_pour_28 : decode cX8_pour 28 = .ok (.ireturn, 1) := by decide +kernel
theorem dX9_values_0 : decode cX9_values 0 = .ok (.getstatic 42, 3) := by decide +kernel
theorem dX9_values_3 : decode cX9_values 3 = .ok (.invokevirtual 46, 3) := by decide +kernel
theorem dX9_values_6 : decode cX9_values 6 = .ok (.checkcast 47, 3) := by decide +kernel
theorem dX9_values_9 : decode cX9_values 9 = .ok (.areturn, 1) := by decide +kernel
theorem dX9_numbers_0 : decode cX9_numbers 0 = .ok (.aload_n 0, 1) := by decide +kernel
theorem dX9_numbers_1 : decode cX9_numbers 1 = .ok (.getfield 65, 3) := by decide +kernel
theorem dX9_numbers_4 : decode cX9_numbers 4 = .ok (.tableswitch 48 0 6 #[44, 46, 48, 48, 48, 46, 44], 44) := by decide +kernel
theorem dX9_numbers_48 : decode cX9_numbers 48 = .ok (.iconst 0, 1) := by decide +kernel
theorem dX9_numbers_49 : decode cX9_numbers 49 = .ok (.ireturn, 1) := by decide +kernel
theorem dX9_numbers_50 : decode cX9_numbers 50 = .ok (.iconst 2, 1) := by decide +kernel
theorem dX9_numbers_51 : decode cX9_numbers 51 = .ok (.ireturn, 1) := by decide +kernel
theorem dX9_numbers_52 : decode cX9_numbers 52 = .ok (.iconst 1, 1) := by decide +kernel
theorem dX9_numbers_53 : decode cX9_numbers 53 = .ok (.ireturn, 1) := by decide +kernel
theorem dX9_leastNumber_0 : decode cX9_leastNumber 0 = .ok (.aload_n 0, 1) := by decide +kernel
theorem dX9_leastNumber_1 : decode cX9_leastNumber 1 = .ok (.getfield 65, 3) := by decide +kernel
theorem dX9_leastNumber_4 : decode cX9_leastNumber 4 = .ok (.tableswitch 48 1 5 #[36, 48, 36, 48, 38], 36) := by decide +kernel
theorem dX9_leastNumber_40 : decode cX9_leastNumber 40 = .ok (.iconst 1, 1) := by decide +kernel
theorem dX9_leastNumber_41 : decode cX9_leastNumber 41 = .ok (.ireturn, 1) := by decide +kernel
theorem dX9_leastNumber_42 : decode cX9_leastNumber 42 = .ok (.iload_n 1, 1) := by decide +kernel
theorem dX9_leastNumber_43 : decode cX9_leastNumber 43 = .ok (.ifCond .ne 7, 3) := by decide +kernel
theorem dX9_leastNumber_46 : decode cX9_leastNumber 46 = .ok (.iconst 0, 1) := by decide +kernel
theorem dX9_leastNumber_47 : decode cX9_leastNumber 47 = .ok (.goto 4, 3) := by decide +kernel
theorem dX9_leastNumber_50 : decode cX9_leastNumber 50 = .ok (.iload_n 2, 1) := by decide +kernel
theorem dX9_leastNumber_51 : decode cX9_leastNumber 51 = .ok (.ireturn, 1) := by decide +kernel
theorem dX9_leastNumber_52 : decode cX9_leastNumber 52 = .ok (.iconst 0, 1) := by decide +kernel
theorem dX9_leastNumber_53 : decode cX9_leastNumber 53 = .ok (.ireturn, 1) := by decide +kernel
theorem dX9_mostNumber_0 : decode cX9_mostNumber 0 = .ok (.aload_n 0, 1) := by decide +kernel
theorem dX9_mostNumber_1 : decode cX9_mostNumber 1 = .ok (.getfield 65, 3) := by decide +kernel
theorem dX9_mostNumber_4 : decode cX9_mostNumber 4 = .ok (.tableswitch 51 1 5 #[36, 51, 48, 51, 48], 36) := by decide +kernel
theorem dX9_mostNumber_40 : decode cX9_mostNumber 40 = .ok (.iload_n 1, 1) := by decide +kernel
theorem dX9_mostNumber_41 : decode cX9_mostNumber 41 = .ok (.ifCond .ne 8, 3) := by decide +kernel
theorem dX9_mostNumber_44 : decode cX9_mostNumber 44 = .ok (.bipush 6, 2) := by decide +kernel
theorem dX9_mostNumber_46 : decode cX9_mostNumber 46 = .ok (.goto 5, 3) := by decide +kernel
theorem dX9_mostNumber_49 : decode cX9_mostNumber 49 = .ok (.bipush 40, 2) := by decide +kernel
theorem dX9_mostNumber_51 : decode cX9_mostNumber 51 = .ok (.ireturn, 1) := by decide +kernel
end
section
theorem dX9_mostNumber_52 : decode cX9_mostNumber 52 = .ok (.bipush 99, 2) := by decide +kernel
theorem dX9_mostNumber_54 : decode cX9_mostNumber 54 = .ok (.ireturn, 1) := by decide +kernel
theorem dX9_mostNumber_55 : decode cX9_mostNumber 55 = .ok (.bipush 9, 2) := by decide +kernel
theorem dX9_mostNumber_57 : decode cX9_mostNumber 57 = .ok (.ireturn, 1) := by decide +kernel
theorem dX10_init_0 : decode cX10_init 0 = .ok (.aload_n 0, 1) := by decide +kernel
theorem dX10_init_1 : decode cX10_init 1 = .ok (.invokespecial 1, 3) := by decide +kernel
theorem dX10_init_4 : decode cX10_init 4 = .ok (.aload_n 0, 1) := by decide +kernel
theorem dX10_init_5 : decode cX10_init 5 = .ok (.new 7, 3) := by decide +kernel
theorem dX10_init_8 : decode cX10_init 8 = .ok (.dup, 1) := by decide +kernel
theorem dX10_init_9 : decode cX10_init 9 = .ok (.invokespecial 9, 3) := by decide +kernel
theorem dX10_init_12 : decode cX10_init 12 = .ok (.putfield 10, 3) := by decide +kernel
theorem dX10_init_15 : decode cX10_init 15 = .ok (.aload_n 0, 1) := by decide +kernel
theorem dX10_init_16 : decode cX10_init 16 = .ok (.new 16, 3) := by decide +kernel
theorem dX10_init_19 : decode cX10_init 19 = .ok (.dup, 1) := by decide +kernel
theorem dX10_init_20 : decode cX10_init 20 = .ok (.invokespecial 18, 3) := by decide +kernel
theorem dX10_init_23 : decode cX10_init 23 = .ok (.putfield 19, 3) := by decide +kernel
theorem dX10_init_26 : decode cX10_init 26 = .ok (.aload_n 0, 1) := by decide +kernel
theorem dX10_init_27 : decode cX10_init 27 = .ok (.new 23, 3) := by decide +kernel
theorem dX10_init_30 : decode cX10_init 30 = .ok (.dup, 1) := by decide +kernel
theorem dX10_init_31 : decode cX10_init 31 = .ok (.invokespecial 25, 3) := by decide +kernel
theorem dX10_init_34 : decode cX10_init 34 = .ok (.putfield 26, 3) := by decide +kernel
theorem dX10_init_37 : decode cX10_init 37 = .ok (.aload_n 0, 1) := by decide +kernel
theorem dX10_init_38 : decode cX10_init 38 = .ok (.new 30, 3) := by decide +kernel
theorem dX10_init_41 : decode cX10_init 41 = .ok (.dup, 1) := by decide +kernel
theorem dX10_init_42 : decode cX10_init 42 = .ok (.invokespecial 32, 3) := by decide +kernel
theorem dX10_init_45 : decode cX10_init 45 = .ok (.putfield 33, 3) := by decide +kernel
theorem dX10_init_48 : decode cX10_init 48 = .ok (.aload_n 0, 1) := by decide +kernel
theorem dX10_init_49 : decode cX10_init 49 = .ok (.new 37, 3) := by decide +kernel
theorem dX10_init_52 : decode cX10_init 52 = .ok (.dup, 1) := by decide +kernel
theorem dX10_init_53 : decode cX10_init 53 = .ok (.invokespecial 39, 3) := by decide +kernel
theorem dX10_init_56 : decode cX10_init 56 = .ok (.putfield 40, 3) := by decide +kernel
theorem dX10_init_59 : decode cX10_init 59 = .ok (.aload_n 0, 1) := by decide +kernel
theorem dX10_init_60 : decode cX10_init 60 = .ok (.iconst 2, 1) := by decide +kernel
theorem dX10_init_61 : decode cX10_init 61 = .ok (.anewarray 30, 3) := by decide +kernel
theorem dX10_init_64 : decode cX10_init 64 = .ok (.putfield 44, 3) := by decide +kernel
theorem dX10_init_67 : decode cX10_init 67 = .ok (.iconst 0, 1) := by decide +kernel
theorem dX10_init_68 : decode cX10_init 68 = .ok (.istore_n 1, 1) := by decide +kernel
theorem dX10_init_69 : decode cX10_init 69 = .ok (.iload_n 1, 1) := by decide +kernel
theorem dX10_init_70 : decode cX10_init 70 = .ok (.iconst 2, 1) := by decide +kernel
theorem dX10_init_71 : decode cX10_init 71 = .ok (.if_icmp .ge 22, 3) := by decide +kernel
theorem dX10_init_74 : decode cX10_init 74 = .ok (.aload_n 0, 1) := by decide +kernel
theorem dX10_init_75 : decode cX10_init 75 = .ok (.getfield 44, 3) := by decide +kernel
theorem dX10_init_78 : decode cX10_init 78 = .ok (.iload_n 1, 1) := by decide +kernel
theorem dX10_init_79 : decode cX10_init 79 = .ok (.new 30, 3) := by decide +kernel
theorem dX10_init_82 : decode cX10_init 82 = .ok (.dup, 1) := by decide +kernel
theorem dX10_init_83 : decode cX10_init 83 = .ok (.invokespecial 32, 3) := by decide +kernel
theorem dX10_init_86 : decode cX10_init 86 = .ok (.aastore, 1) := by decide +kernel
theorem dX10_init_87 : decode cX10_init 87 = .ok (.iinc 1 1, 3) := by decide +kernel
theorem dX10_init_90 : decode cX10_init 90 = .ok (.goto (-21), 3) := by decide +kernel
theorem dX10_init_93 : decode cX10_init 93 = .ok (.aload_n 0, 1) := by decide +kernel
theorem dX10_init_94 : decode cX10_init 94 = .ok (.iconst 2, 1) := by decide +kernel
theorem dX10_init_95 : decode cX10_init 95 = .ok (.newarray .boolean, 2) := by decide +kernel
theorem dX10_init_97 : decode cX10_init 97 = .ok (.putfield 48, 3) := by decide +kernel
theorem dX10_init_100 : decode cX10_init 100 = .ok (.aload_n 0, 1) := by decide +kernel
theorem dX10_init_101 : decode cX10_init 101 = .ok (.new 52, 3) := by decide +kernel
theorem dX10_init_104 : decode cX10_init 104 = .ok (.dup, 1) := by decide +kernel
theorem dX10_init_105 : decode cX10_init 105 = .ok (.aload_n 0, 1) := by decide +kernel
theorem dX10_init_106 : decode cX10_init 106 = .ok (.getfield 10, 3) := by decide +kernel
theorem dX10_init_109 : decode cX10_init 109 = .ok (.invokespecial 54, 3) := by decide +kernel
theorem dX10_init_112 : decode cX10_init 112 = .ok (.putfield 57, 3) := by decide +kernel
theorem dX10_init_115 : decode cX10_init 115 = .ok (.aload_n 0, 1) := by decide +kernel
theorem dX10_init_116 : decode cX10_init 116 = .ok (.new 61, 3) := by decide +kernel
theorem dX10_init_119 : decode cX10_init 119 = .ok (.dup, 1) := by decide +kernel
theorem dX10_init_120 : decode cX10_init 120 = .ok (.aload_n 0, 1) := by decide +kernel
theorem dX10_init_121 : decode cX10_init 121 = .ok (.getfield 10, 3) := by decide +kernel
theorem dX10_init_124 : decode cX10_init 124 = .ok (.invokespecial 63, 3) := by decide +kernel
theorem dX10_init_127 : decode cX10_init 127 = .ok (.putfield 64, 3) := by decide +kernel
theorem dX10_init_130 : decode cX10_init 130 = .ok (.aload_n 0, 1) := by decide +kernel
theorem dX10_init_131 : decode cX10_init 131 = .ok (.bipush 6, 2) := by decide +kernel
theorem dX10_init_133 : decode cX10_init 133 = .ok (.newarray .int, 2) := by decide +kernel
theorem dX10_init_135 : decode cX10_init 135 = .ok (.putfield 68, 3) := by decide +kernel
theorem dX10_init_138 : decode cX10_init 138 = .ok (.aload_n 0, 1) := by decide +kernel
theorem dX10_init_139 : decode cX10_init 139 = .ok (.bipush 6, 2) := by decide +kernel
theorem dX10_init_141 : decode cX10_init 141 = .ok (.newarray .int, 2) := by decide +kernel
theorem dX10_init_143 : decode cX10_init 143 = .ok (.putfield 72, 3) := by decide +kernel
theorem dX10_init_146 : decode cX10_init 146 = .ok (.aload_n 0, 1) := by decide +kernel
theorem dX10_init_147 : decode cX10_init 147 = .ok (.getfield 33, 3) := by decide +kernel
theorem dX10_init_150 : decode cX10_init 150 = .ok (.aload_n 0, 1) := by decide +kernel
theorem dX10_init_151 : decode cX10_init 151 = .ok (.getfield 10, 3) := by decide +kernel
theorem dX10_init_154 : decode cX10_init 154 = .ok (.getfield 75, 3) := by decide +kernel
theorem dX10_init_157 : decode cX10_init 157 = .ok (.invokevirtual 79, 3) := by decide +kernel
theorem dX10_init_160 : decode cX10_init 160 = .ok (.return_, 1) := by decide +kernel
theorem dX10_write_0 : decode cX10_write 0 = .ok (.iload_n 1, 1) := by decide +kernel
theorem dX10_write_1 : decode cX10_write 1 = .ok (.iconst 0, 1) := by decide +kernel
theorem dX10_write_2 : decode cX10_write 2 = .ok (.sipush 255, 3) := by decide +kernel
theorem dX10_write_5 : decode cX10_write 5 = .ok (.invokestatic 83, 3) := by decide +kernel
theorem dX10_write_8 : decode cX10_write 8 = .ok (.ifCond .eq 6, 3) := by decide +kernel
theorem dX10_write_11 : decode cX10_write 11 = .ok (.bipush (-3), 2) := by decide +kernel
theorem dX10_write_13 : decode cX10_write 13 = .ok (.ireturn, 1) := by decide +kernel
theorem dX10_write_14 : decode cX10_write 14 = .ok (.aload_n 0, 1) := by decide +kernel
theorem dX10_write_15 : decode cX10_write 15 = .ok (.getfield 19, 3) := by decide +kernel
theorem dX10_write_18 : decode cX10_write 18 = .ok (.iload_n 1, 1) := by decide +kernel
theorem dX10_write_19 : decode cX10_write 19 = .ok (.invokevirtual 87, 3) := by decide +kernel
theorem dX10_write_22 : decode cX10_write 22 = .ok (.ifCond .eq 13, 3) := by decide +kernel
theorem dX10_write_25 : decode cX10_write 25 = .ok (.aload_n 0, 1) := by decide +kernel
theorem dX10_write_26 : decode cX10_write 26 = .ok (.getfield 19, 3) := by decide +kernel
theorem dX10_write_29 : decode cX10_write 29 = .ok (.getfield 91, 3) := by decide +kernel
theorem dX10_write_32 : decode cX10_write 32 = .ok (.goto 5, 3) := by decide +kernel
theorem dX10_write_35 : decode cX10_write 35 = .ok (.bipush (-5), 2) := by decide +kernel
theorem dX10_write_37 : decode cX10_write 37 = .ok (.ireturn, 1) := by decide +kernel
theorem dX10_erase_0 : decode cX10_erase 0 = .ok (.aload_n 0, 1) := by decide +kernel
theorem dX10_erase_1 : decode cX10_erase 1 = .ok (.getfield 19, 3) := by decide +kernel
theorem dX10_erase_4 : decode cX10_erase 4 = .ok (.getfield 91, 3) := by decide +kernel
theorem dX10_erase_7 : decode cX10_erase 7 = .ok (.istore_n 1, 1) := by decide +kernel
theorem dX10_erase_8 : decode cX10_erase 8 = .ok (.aload_n 0, 1) := by decide +kernel
theorem dX10_erase_9 : decode cX10_erase 9 = .ok (.getfield 19, 3) := by decide +kernel
theorem dX10_erase_12 : decode cX10_erase 12 = .ok (.iconst 0, 1) := by decide +kernel
theorem dX10_erase_13 : decode cX10_erase 13 = .ok (.putfield 91, 3) := by decide +kernel
theorem dX10_erase_16 : decode cX10_erase 16 = .ok (.iload_n 1, 1) := by decide +kernel
theorem dX10_erase_17 : decode cX10_erase 17 = .ok (.ireturn, 1) := by decide +kernel
theorem dX10_fault_0 : decode cX10_fault 0 = .ok (.aload_n 0, 1) := by decide +kernel
theorem dX10_fault_1 : decode cX10_fault 1 = .ok (.getfield 26, 3) := by decide +kernel
theorem dX10_fault_4 : decode cX10_fault 4 = .ok (.aload_n 0, 1) := by decide +kernel
theorem dX10_fault_5 : decode cX10_fault 5 = .ok (.getfield 19, 3) := by decide +kernel
theorem dX10_fault_8 : decode cX10_fault 8 = .ok (.aload_n 0, 1) := by decide +kernel
theorem dX10_fault_9 : decode cX10_fault 9 = .ok (.getfield 10, 3) := by decide +kernel
theorem dX10_fault_12 : decode cX10_fault 12 = .ok (.getfield 94, 3) := by decide +kernel
theorem dX10_fault_15 : decode cX10_fault 15 = .ok (.invokevirtual 97, 3) := by decide +kernel
theorem dX10_fault_18 : decode cX10_fault 18 = .ok (.ireturn, 1) := by decide +kernel
theorem dX10_well_0 : decode cX10_well 0 = .ok (.aload_n 0, 1) := by decide +kernel
theorem dX10_well_1 : decode cX10_well 1 = .ok (.getfield 26, 3) := by decide +kernel
theorem dX10_well_4 : decode cX10_well 4 = .ok (.aload_n 0, 1) := by decide +kernel
theorem dX10_well_5 : decode cX10_well 5 = .ok (.getfield 19, 3) := by decide +kernel
theorem dX10_well_8 : decode cX10_well 8 = .ok (.aload_n 0, 1) := by decide +kernel
theorem dX10_well_9 : decode cX10_well 9 = .ok (.getfield 10, 3) := by decide +kernel
theorem dX10_well_12 : decode cX10_well 12 = .ok (.getfield 94, 3) := by decide +kernel
theorem dX10_well_15 : decode cX10_well 15 = .ok (.invokevirtual 97, 3) := by decide +kernel
theorem dX10_well_18 : decode cX10_well 18 = .ok (.iconst (-1), 1) := by decide +kernel
theorem dX10_well_19 : decode cX10_well 19 = .ok (.if_icmp .eq 6, 3) := by decide +kernel
theorem dX10_well_22 : decode cX10_well 22 = .ok (.bipush (-4), 2) := by decide +kernel
theorem dX10_well_24 : decode cX10_well 24 = .ok (.ireturn, 1) := by decide +kernel
theorem dX10_well_25 : decode cX10_well 25 = .ok (.iconst 0, 1) := by decide +kernel
theorem dX10_well_26 : decode cX10_well 26 = .ok (.istore_n 1, 1) := by decide +kernel
theorem dX10_well_27 : decode cX10_well 27 = .ok (.iload_n 1, 1) := by decide +kernel
theorem dX10_well_28 : decode cX10_well 28 = .ok (.aload_n 0, 1) := by decide +kernel
theorem dX10_well_29 : decode cX10_well 29 = .ok (.getfield 26, 3) := by decide +kernel
theorem dX10_well_32 : decode cX10_well 32 = .ok (.getfield 101, 3) := by decide +kernel
theorem dX10_well_35 : decode cX10_well 35 = .ok (.if_icmp .ge 52, 3) := by decide +kernel
theorem dX10_well_38 : decode cX10_well 38 = .ok (.aload_n 0, 1) := by decide +kernel
theorem dX10_well_39 : decode cX10_well 39 = .ok (.getfield 10, 3) := by decide +kernel
theorem dX10_well_42 : decode cX10_well 42 = .ok (.aload_n 0, 1) := by decide +kernel
theorem dX10_well_43 : decode cX10_well 43 = .ok (.getfield 26, 3) := by decide +kernel
theorem dX10_well_46 : decode cX10_well 46 = .ok (.getfield 102, 3) := by decide +kernel
theorem dX10_well_49 : decode cX10_well 49 = .ok (.iload_n 1, 1) := by decide +kernel
theorem dX10_well_50 : decode cX10_well 50 = .ok (.iaload, 1) := by decide +kernel
theorem dX10_well_51 : decode cX10_well 51 = .ok (.aload_n 0, 1) := by decide +kernel
theorem dX10_well_52 : decode cX10_well 52 = .ok (.getfield 26, 3) := by decide +kernel
theorem dX10_well_55 : decode cX10_well 55 = .ok (.getfield 105, 3) := by decide +kernel
theorem dX10_well_58 : decode cX10_well 58 = .ok (.iload_n 1, 1) := by decide +kernel
theorem dX10_well_59 : decode cX10_well 59 = .ok (.iaload, 1) := by decide +kernel
theorem dX10_well_60 : decode cX10_well 60 = .ok (.aload_n 0, 1) := by decide +kernel
theorem dX10_well_61 : decode cX10_well 61 = .ok (.getfield 26, 3) := by decide +kernel
theorem dX10_well_64 : decode cX10_well 64 = .ok (.getfield 108, 3) := by decide +kernel
theorem dX10_well_67 : decode cX10_well 67 = .ok (.iload_n 1, 1) := by decide +kernel
theorem dX10_well_68 : decode cX10_well 68 = .ok (.iaload, 1) := by decide +kernel
theorem dX10_well_69 : decode cX10_well 69 = .ok (.aload_n 0, 1) := by decide +kernel
theorem dX10_well_70 : decode cX10_well 70 = .ok (.getfield 26, 3) := by decide +kernel
theorem dX10_well_73 : decode cX10_well 73 = .ok (.getfield 111, 3) := by decide +kernel
theorem dX10_well_76 : decode cX10_well 76 = .ok (.iload_n 1, 1) := by decide +kernel
theorem dX10_well_77 : decode cX10_well 77 = .ok (.iaload, 1) := by decide +kernel
theorem dX10_well_78 : decode cX10_well 78 = .ok (.invokevirtual 114, 3) := by decide +kernel
theorem dX10_well_81 : decode cX10_well 81 = .ok (.iinc 1 1, 3) := by decide +kernel
theorem dX10_well_84 : decode cX10_well 84 = .ok (.goto (-57), 3) := by decide +kernel
theorem dX10_well_87 : decode cX10_well 87 = .ok (.aload_n 0, 1) := by decide +kernel
theorem dX10_well_88 : decode cX10_well 88 = .ok (.getfield 19, 3) := by decide +kernel
theorem dX10_well_91 : decode cX10_well 91 = .ok (.iconst 0, 1) := by decide +kernel
theorem dX10_well_92 : decode cX10_well 92 = .ok (.putfield 91, 3) := by decide +kernel
theorem dX10_well_95 : decode cX10_well 95 = .ok (.aload_n 0, 1) := by decide +kernel
theorem dX10_well_96 : decode cX10_well 96 = .ok (.getfield 33, 3) := by decide +kernel
theorem dX10_well_99 : decode cX10_well 99 = .ok (.aload_n 0, 1) := by decide +kernel
theorem dX10_well_100 : decode cX10_well 100 = .ok (.getfield 10, 3) := by decide +kernel
theorem dX10_well_103 : decode cX10_well 103 = .ok (.getfield 75, 3) := by decide +kernel
theorem dX10_well_106 : decode cX10_well 106 = .ok (.invokevirtual 79, 3) := by decide +kernel
theorem dX10_well_109 : decode cX10_well 109 = .ok (.aload_n 0, 1) := by decide +kernel
theorem dX10_well_110 : decode cX10_well 110 = .ok (.getfield 40, 3) := by decide +kernel
theorem dX10_well_113 : decode cX10_well 113 = .ok (.iconst 0, 1) := by decide +kernel
theorem dX10_well_114 : decode cX10_well 114 = .ok (.putfield 118, 3) := by decide +kernel
theorem dX10_well_117 : decode cX10_well 117 = .ok (.iconst 0, 1) := by decide +kernel
theorem dX10_well_118 : decode cX10_well 118 = .ok (.istore_n 1, 1) := by decide +kernel
theorem dX10_well_119 : decode cX10_well 119 = .ok (.iload_n 1, 1) := by decide +kernel
theorem dX10_well_120 : decode cX10_well 120 = .ok (.iconst 2, 1) := by decide +kernel
theorem dX10_well_121 : decode cX10_well 121 = .ok (.if_icmp .ge 16, 3) := by decide +kernel
theorem dX10_well_124 : decode cX10_well 124 = .ok (.aload_n 0, 1) := by decide +kernel
theorem dX10_well_125 : decode cX10_well 125 = .ok (.getfield 48, 3) := by decide +kernel
theorem dX10_well_128 : decode cX10_well 128 = .ok (.iload_n 1, 1) := by decide +kernel
theorem dX10_well_129 : decode cX10_well 129 = .ok (.iconst 0, 1) := by decide +kernel
theorem dX10_well_130 : decode cX10_well 130 = .ok (.bastore, 1) := by decide +kernel
theorem dX10_well_131 : decode cX10_well 131 = .ok (.iinc 1 1, 3) := by decide +kernel
theorem dX10_well_134 : decode cX10_well 134 = .ok (.goto (-15), 3) := by decide +kernel
theorem dX10_well_137 : decode cX10_well 137 = .ok (.aload_n 0, 1) := by decide +kernel
theorem dX10_well_138 : decode cX10_well 138 = .ok (.iconst 0, 1) := by decide +kernel
theorem dX10_well_139 : decode cX10_well 139 = .ok (.putfield 121, 3) := by decide +kernel
theorem dX10_well_142 : decode cX10_well 142 = .ok (.aload_n 0, 1) := by decide +kernel
theorem dX10_well_143 : decode cX10_well 143 = .ok (.getfield 26, 3) := by decide +kernel
theorem dX10_well_146 : decode cX10_well 146 = .ok (.getfield 101, 3) := by decide +kernel
theorem dX10_well_149 : decode cX10_well 149 = .ok (.ireturn, 1) := by decide +kernel
theorem dX10_sister_0 : decode cX10_sister 0 = .ok (.aload_n 0, 1) := by decide +kernel
theorem dX10_sister_1 : decode cX10_sister 1 = .ok (.iload_n 1, 1) := by decide +kernel
theorem dX10_sister_2 : decode cX10_sister 2 = .ok (.invokevirtual 124, 3) := by decide +kernel
theorem dX10_sister_5 : decode cX10_sister 5 = .ok (.ifCond .eq 6, 3) := by decide +kernel
theorem dX10_sister_8 : decode cX10_sister 8 = .ok (.bipush (-2), 2) := by decide +kernel
theorem dX10_sister_10 : decode cX10_sister 10 = .ok (.ireturn, 1) := by decide +kernel
theorem dX10_sister_11 : decode cX10_sister 11 = .ok (.iload_n 2, 1) := by decide +kernel
theorem dX10_sister_12 : decode cX10_sister 12 = .ok (.tableswitch 186 0 9 #[56, 69, 82, 95, 108, 121, 134, 147, 160, 173], 56) := by decide +kernel
theorem dX10_sister_68 : decode cX10_sister 68 = .ok (.aload_n 0, 1) := by decide +kernel
theorem dX10_sister_69 : decode cX10_sister 69 = .ok (.getfield 10, 3) := by decide +kernel
theorem dX10_sister_72 : decode cX10_sister 72 = .ok (.getfield 127, 3) := by decide +kernel
theorem dX10_sister_75 : decode cX10_sister 75 = .ok (.iload_n 1, 1) := by decide +kernel
theorem dX10_sister_76 : decode cX10_sister 76 = .ok (.aaload, 1) := by decide +kernel
theorem dX10_sister_77 : decode cX10_sister 77 = .ok (.getfield 131, 3) := by decide +kernel
theorem dX10_sister_80 : decode cX10_sister 80 = .ok (.ireturn, 1) := by decide +kernel
theorem dX10_sister_81 : decode cX10_sister 81 = .ok (.aload_n 0, 1) := by decide +kernel
theorem dX10_sister_82 : decode cX10_sister 82 = .ok (.getfield 10, 3) := by decide +kernel
theorem dX10_sister_85 : decode cX10_sister 85 = .ok (.getfield 127, 3) := by decide +kernel
theorem dX10_sister_88 : decode cX10_sister 88 = .ok (.iload_n 1, 1) := by decide +kernel
theorem dX10_sister_89 : decode cX10_sister 89 = .ok (.aaload, 1) := by decide +kernel
theorem dX10_sister_90 : decode cX10_sister 90 = .ok (.getfield 136, 3) := by decide +kernel
theorem dX10_sister_93 : decode cX10_sister 93 = .ok (.ireturn, 1) := by decide +kernel
theorem dX10_sister_94 : decode cX10_sister 94 = .ok (.aload_n 0, 1) := by decide +kernel
theorem dX10_sister_95 : decode cX10_sister 95 = .ok (.getfield 10, 3) := by decide +kernel
theorem dX10_sister_98 : decode cX10_sister 98 = .ok (.getfield 127, 3) := by decide +kernel
theorem dX10_sister_101 : decode cX10_sister 101 = .ok (.iload_n 1, 1) := by decide +kernel
theorem dX10_sister_102 : decode cX10_sister 102 = .ok (.aaload, 1) := by decide +kernel
theorem dX10_sister_103 : decode cX10_sister 103 = .ok (.getfield 139, 3) := by decide +kernel
theorem dX10_sister_106 : decode cX10_sister 106 = .ok (.ireturn, 1) := by decide +kernel
theorem dX10_sister_107 : decode cX10_sister 107 = .ok (.aload_n 0, 1) := by decide +kernel
theorem dX10_sister_108 : decode cX10_sister 108 = .ok (.getfield 10, 3) := by decide +kernel
theorem dX10_sister_111 : decode cX10_sister 111 = .ok (.getfield 127, 3) := by decide +kernel
theorem dX10_sister_114 : decode cX10_sister 114 = .ok (.iload_n 1, 1) := by decide +kernel
theorem dX10_sister_115 : decode cX10_sister 115 = .ok (.aaload, 1) := by decide +kernel
theorem dX10_sister_116 : decode cX10_sister 116 = .ok (.getfield 142, 3) := by decide +kernel
theorem dX10_sister_119 : decode cX10_sister 119 = .ok (.ireturn, 1) := by decide +kernel
theorem dX10_sister_120 : decode cX10_sister 120 = .ok (.aload_n 0, 1) := by decide +kernel
theorem dX10_sister_121 : decode cX10_sister 121 = .ok (.getfield 10, 3) := by decide +kernel
theorem dX10_sister_124 : decode cX10_sister 124 = .ok (.getfield 127, 3) := by decide +kernel
theorem dX10_sister_127 : decode cX10_sister 127 = .ok (.iload_n 1, 1) := by decide +kernel
theorem dX10_sister_128 : decode cX10_sister 128 = .ok (.aaload, 1) := by decide +kernel
theorem dX10_sister_129 : decode cX10_sister 129 = .ok (.getfield 145, 3) := by decide +kernel
theorem dX10_sister_132 : decode cX10_sister 132 = .ok (.ireturn, 1) := by decide +kernel
theorem dX10_sister_133 : decode cX10_sister 133 = .ok (.aload_n 0, 1) := by decide +kernel
theorem dX10_sister_134 : decode cX10_sister 134 = .ok (.getfield 33, 3) := by decide +kernel
theorem dX10_sister_137 : decode cX10_sister 137 = .ok (.getfield 148, 3) := by decide +kernel
theorem dX10_sister_140 : decode cX10_sister 140 = .ok (.iload_n 1, 1) := by decide +kernel
theorem dX10_sister_141 : decode cX10_sister 141 = .ok (.aaload, 1) := by decide +kernel
theorem dX10_sister_142 : decode cX10_sister 142 = .ok (.getfield 152, 3) := by decide +kernel
theorem dX10_sister_145 : decode cX10_sister 145 = .ok (.ireturn, 1) := by decide +kernel
theorem dX10_sister_146 : decode cX10_sister 146 = .ok (.aload_n 0, 1) := by decide +kernel
theorem dX10_sister_147 : decode cX10_sister 147 = .ok (.getfield 33, 3) := by decide +kernel
theorem dX10_sister_150 : decode cX10_sister 150 = .ok (.getfield 148, 3) := by decide +kernel
theorem dX10_sister_153 : decode cX10_sister 153 = .ok (.iload_n 1, 1) := by decide +kernel
theorem dX10_sister_154 : decode cX10_sister 154 = .ok (.aaload, 1) := by decide +kernel
theorem dX10_sister_155 : decode cX10_sister 155 = .ok (.getfield 157, 3) := by decide +kernel
theorem dX10_sister_158 : decode cX10_sister 158 = .ok (.ireturn, 1) := by decide +kernel
theorem dX10_sister_159 : decode cX10_sister 159 = .ok (.aload_n 0, 1) := by decide +kernel
theorem dX10_sister_160 : decode cX10_sister 160 = .ok (.getfield 33, 3) := by decide +kernel
theorem dX10_sister_163 : decode cX10_sister 163 = .ok (.getfield 148, 3) := by decide +kernel
theorem dX10_sister_166 : decode cX10_sister 166 = .ok (.iload_n 1, 1) := by decide +kernel
theorem dX10_sister_167 : decode cX10_sister 167 = .ok (.aaload, 1) := by decide +kernel
theorem dX10_sister_168 : decode cX10_sister 168 = .ok (.getfield 160, 3) := by decide +kernel
theorem dX10_sister_171 : decode cX10_sister 171 = .ok (.ireturn, 1) := by decide +kernel
theorem dX10_sister_172 : decode cX10_sister 172 = .ok (.aload_n 0, 1) := by decide +kernel
theorem dX10_sister_173 : decode cX10_sister 173 = .ok (.getfield 33, 3) := by decide +kernel
theorem dX10_sister_176 : decode cX10_sister 176 = .ok (.getfield 148, 3) := by decide +kernel
theorem dX10_sister_179 : decode cX10_sister 179 = .ok (.iload_n 1, 1) := by decide +kernel
theorem dX10_sister_180 : decode cX10_sister 180 = .ok (.aaload, 1) := by decide +kernel
theorem dX10_sister_181 : decode cX10_sister 181 = .ok (.getfield 163, 3) := by decide +kernel
theorem dX10_sister_184 : decode cX10_sister 184 = .ok (.ireturn, 1) := by decide +kernel
theorem dX10_sister_185 : decode cX10_sister 185 = .ok (.aload_n 0, 1) := by decide +kernel
theorem dX10_sister_186 : decode cX10_sister 186 = .ok (.getfield 33, 3) := by decide +kernel
theorem dX10_sister_189 : decode cX10_sister 189 = .ok (.getfield 148, 3) := by decide +kernel
theorem dX10_sister_192 : decode cX10_sister 192 = .ok (.iload_n 1, 1) := by decide +kernel
theorem dX10_sister_193 : decode cX10_sister 193 = .ok (.aaload, 1) := by decide +kernel
theorem dX10_sister_194 : decode cX10_sister 194 = .ok (.getfield 166, 3) := by decide +kernel
theorem dX10_sister_197 : decode cX10_sister 197 = .ok (.ireturn, 1) := by decide +kernel
theorem dX10_sister_198 : decode cX10_sister 198 = .ok (.bipush (-3), 2) := by decide +kernel
theorem dX10_sister_200 : decode cX10_sister 200 = .ok (.ireturn, 1) := by decide +kernel
theorem dX10_as_0 : decode cX10_as 0 = .ok (.aload_n 0, 1) := by decide +kernel
theorem dX10_as_1 : decode cX10_as 1 = .ok (.iload_n 1, 1) := by decide +kernel
theorem dX10_as_2 : decode cX10_as 2 = .ok (.invokevirtual 124, 3) := by decide +kernel
theorem dX10_as_5 : decode cX10_as 5 = .ok (.ifCond .eq 6, 3) := by decide +kernel
theorem dX10_as_8 : decode cX10_as 8 = .ok (.bipush (-2), 2) := by decide +kernel
theorem dX10_as_10 : decode cX10_as 10 = .ok (.ireturn, 1) := by decide +kernel
theorem dX10_as_11 : decode cX10_as 11 = .ok (.iload_n 2, 1) := by decide +kernel
theorem dX10_as_12 : decode cX10_as 12 = .ok (.iconst 0, 1) := by decide +kernel
theorem dX10_as_13 : decode cX10_as 13 = .ok (.getstatic 169, 3) := by decide +kernel
theorem dX10_as_16 : decode cX10_as 16 = .ok (.arraylength, 1) := by decide +kernel
theorem dX10_as_17 : decode cX10_as 17 = .ok (.iconst 1, 1) := by decide +kernel
theorem dX10_as_18 : decode cX10_as 18 = .ok (.isub, 1) := by decide +kernel
theorem dX10_as_19 : decode cX10_as 19 = .ok (.invokestatic 83, 3) := by decide +kernel
theorem dX10_as_22 : decode cX10_as 22 = .ok (.ifCond .eq 6, 3) := by decide +kernel
theorem dX10_as_25 : decode cX10_as 25 = .ok (.bipush (-3), 2) := by decide +kernel
theorem dX10_as_27 : decode cX10_as 27 = .ok (.ireturn, 1) := by decide +kernel
theorem dX10_as_28 : decode cX10_as 28 = .ok (.aload_n 0, 1) := by decide +kernel
theorem dX10_as_29 : decode cX10_as 29 = .ok (.getfield 10, 3) := by decide +kernel
theorem dX10_as_32 : decode cX10_as 32 = .ok (.getfield 127, 3) := by decide +kernel
theorem dX10_as_35 : decode cX10_as 35 = .ok (.iload_n 1, 1) := by decide +kernel
theorem dX10_as_36 : decode cX10_as 36 = .ok (.aaload, 1) := by decide +kernel
theorem dX10_as_37 : decode cX10_as 37 = .ok (.astore_n 3, 1) := by decide +kernel
theorem dX10_as_38 : decode cX10_as 38 = .ok (.getstatic 169, 3) := by decide +kernel
theorem dX10_as_41 : decode cX10_as 41 = .ok (.aload_n 3, 1) := by decide +kernel
theorem dX10_as_42 : decode cX10_as 42 = .ok (.getfield 131, 3) := by decide +kernel
theorem dX10_as_45 : decode cX10_as 45 = .ok (.iconst 1, 1) := by decide +kernel
theorem dX10_as_46 : decode cX10_as 46 = .ok (.iadd, 1) := by decide +kernel
theorem dX10_as_47 : decode cX10_as 47 = .ok (.iload_n 2, 1) := by decide +kernel
theorem dX10_as_48 : decode cX10_as 48 = .ok (.invokestatic 172, 3) := by decide +kernel
theorem dX10_as_51 : decode cX10_as 51 = .ok (.ifCond .ne 6, 3) := by decide +kernel
theorem dX10_as_54 : decode cX10_as 54 = .ok (.bipush (-4), 2) := by decide +kernel
theorem dX10_as_56 : decode cX10_as 56 = .ok (.ireturn, 1) := by decide +kernel
theorem dX10_as_57 : decode cX10_as 57 = .ok (.aload_n 3, 1) := by decide +kernel
theorem dX10_as_58 : decode cX10_as 58 = .ok (.aload_n 0, 1) := by decide +kernel
theorem dX10_as_59 : decode cX10_as 59 = .ok (.getfield 33, 3) := by decide +kernel
theorem dX10_as_62 : decode cX10_as 62 = .ok (.getfield 148, 3) := by decide +kernel
theorem dX10_as_65 : decode cX10_as 65 = .ok (.iload_n 1, 1) := by decide +kernel
theorem dX10_as_66 : decode cX10_as 66 = .ok (.aaload, 1) := by decide +kernel
theorem dX10_as_67 : decode cX10_as 67 = .ok (.getfield 163, 3) := by decide +kernel
theorem dX10_as_70 : decode cX10_as 70 = .ok (.invokevirtual 176, 3) := by decide +kernel
theorem dX10_as_73 : decode cX10_as 73 = .ok (.ireturn, 1) := by decide +kernel
theorem dX10_sieveAs_0 : decode cX10_sieveAs 0 = .ok (.aload_n 0, 1) := by decide +kernel
theorem dX10_sieveAs_1 : decode cX10_sieveAs 1 = .ok (.iload_n 1, 1) := by decide +kernel
theorem dX10_sieveAs_2 : decode cX10_sieveAs 2 = .ok (.invokevirtual 124, 3) := by decide +kernel
theorem dX10_sieveAs_5 : decode cX10_sieveAs 5 = .ok (.ifCond .eq 6, 3) := by decide +kernel
theorem dX10_sieveAs_8 : decode cX10_sieveAs 8 = .ok (.bipush (-2), 2) := by decide +kernel
theorem dX10_sieveAs_10 : decode cX10_sieveAs 10 = .ok (.ireturn, 1) := by decide +kernel
theorem dX10_sieveAs_11 : decode cX10_sieveAs 11 = .ok (.iload_n 2, 1) := by decide +kernel
theorem dX10_sieveAs_12 : decode cX10_sieveAs 12 = .ok (.iconst 0, 1) := by decide +kernel
theorem dX10_sieveAs_13 : decode cX10_sieveAs 13 = .ok (.getstatic 180, 3) := by decide +kernel
theorem dX10_sieveAs_16 : decode cX10_sieveAs 16 = .ok (.arraylength, 1) := by decide +kernel
theorem dX10_sieveAs_17 : decode cX10_sieveAs 17 = .ok (.iconst 1, 1) := by decide +kernel
theorem dX10_sieveAs_18 : decode cX10_sieveAs 18 = .ok (.isub, 1) := by decide +kernel
theorem dX10_sieveAs_19 : decode cX10_sieveAs 19 = .ok (.invokestatic 83, 3) := by decide +kernel
theorem dX10_sieveAs_22 : decode cX10_sieveAs 22 = .ok (.ifCond .eq 6, 3) := by decide +kernel
theorem dX10_sieveAs_25 : decode cX10_sieveAs 25 = .ok (.bipush (-3), 2) := by decide +kernel
theorem dX10_sieveAs_27 : decode cX10_sieveAs 27 = .ok (.ireturn, 1) := by decide +kernel
theorem dX10_sieveAs_28 : decode cX10_sieveAs 28 = .ok (.aload_n 0, 1) := by decide +kernel
theorem dX10_sieveAs_29 : decode cX10_sieveAs 29 = .ok (.getfield 10, 3) := by decide +kernel
theorem dX10_sieveAs_32 : decode cX10_sieveAs 32 = .ok (.getfield 127, 3) := by decide +kernel
theorem dX10_sieveAs_35 : decode cX10_sieveAs 35 = .ok (.iload_n 1, 1) := by decide +kernel
theorem dX10_sieveAs_36 : decode cX10_sieveAs 36 = .ok (.aaload, 1) := by decide +kernel
theorem dX10_sieveAs_37 : decode cX10_sieveAs 37 = .ok (.astore_n 3, 1) := by decide +kernel
theorem dX10_sieveAs_38 : decode cX10_sieveAs 38 = .ok (.getstatic 180, 3) := by decide +kernel
theorem dX10_sieveAs_41 : decode cX10_sieveAs 41 = .ok (.aload_n 3, 1) := by decide +kernel
theorem dX10_sieveAs_42 : decode cX10_sieveAs 42 = .ok (.getfield 142, 3) := by decide +kernel
theorem dX10_sieveAs_45 : decode cX10_sieveAs 45 = .ok (.iconst 1, 1) := by decide +kernel
theorem dX10_sieveAs_46 : decode cX10_sieveAs 46 = .ok (.iadd, 1) := by decide +kernel
theorem dX10_sieveAs_47 : decode cX10_sieveAs 47 = .ok (.iload_n 2, 1) := by decide +kernel
theorem dX10_sieveAs_48 : decode cX10_sieveAs 48 = .ok (.invokestatic 172, 3) := by decide +kernel
theorem dX10_sieveAs_51 : decode cX10_sieveAs 51 = .ok (.ifCond .ne 6, 3) := by decide +kernel
theorem dX10_sieveAs_54 : decode cX10_sieveAs 54 = .ok (.bipush (-4), 2) := by decide +kernel
theorem dX10_sieveAs_56 : decode cX10_sieveAs 56 = .ok (.ireturn, 1) := by decide +kernel
theorem dX10_sieveAs_57 : decode cX10_sieveAs 57 = .ok (.aload_n 3, 1) := by decide +kernel
theorem dX10_sieveAs_58 : decode cX10_sieveAs 58 = .ok (.invokevirtual 183, 3) := by decide +kernel
theorem dX10_sieveAs_61 : decode cX10_sieveAs 61 = .ok (.ireturn, 1) := by decide +kernel
theorem dX10_begin_0 : decode cX10_begin 0 = .ok (.aload_n 0, 1) := by decide +kernel
theorem dX10_begin_1 : decode cX10_begin 1 = .ok (.iload_n 1, 1) := by decide +kernel
theorem dX10_begin_2 : decode cX10_begin 2 = .ok (.invokevirtual 124, 3) := by decide +kernel
theorem dX10_begin_5 : decode cX10_begin 5 = .ok (.ifCond .eq 6, 3) := by decide +kernel
theorem dX10_begin_8 : decode cX10_begin 8 = .ok (.bipush (-2), 2) := by decide +kernel
theorem dX10_begin_10 : decode cX10_begin 10 = .ok (.ireturn, 1) := by decide +kernel
theorem dX10_begin_11 : decode cX10_begin 11 = .ok (.aload_n 0, 1) := by decide +kernel
theorem dX10_begin_12 : decode cX10_begin 12 = .ok (.getfield 33, 3) := by decide +kernel
theorem dX10_begin_15 : decode cX10_begin 15 = .ok (.getfield 148, 3) := by decide +kernel
theorem dX10_begin_18 : decode cX10_begin 18 = .ok (.iload_n 1, 1) := by decide +kernel
theorem dX10_begin_19 : decode cX10_begin 19 = .ok (.aaload, 1) := by decide +kernel
theorem dX10_begin_20 : decode cX10_begin 20 = .ok (.getfield 152, 3) := by decide +kernel
theorem dX10_begin_23 : decode cX10_begin 23 = .ok (.ifCond .eq 6, 3) := by decide +kernel
theorem dX10_begin_26 : decode cX10_begin 26 = .ok (.bipush (-4), 2) := by decide +kernel
theorem dX10_begin_28 : decode cX10_begin 28 = .ok (.ireturn, 1) := by decide +kernel
theorem dX10_begin_29 : decode cX10_begin 29 = .ok (.aload_n 0, 1) := by decide +kernel
theorem dX10_begin_30 : decode cX10_begin 30 = .ok (.getfield 40, 3) := by decide +kernel
theorem dX10_begin_33 : decode cX10_begin 33 = .ok (.aload_n 0, 1) := by decide +kernel
theorem dX10_begin_34 : decode cX10_begin 34 = .ok (.getfield 33, 3) := by decide +kernel
theorem dX10_begin_37 : decode cX10_begin 37 = .ok (.invokevirtual 187, 3) := by decide +kernel
theorem dX10_begin_40 : decode cX10_begin 40 = .ok (.aload_n 0, 1) := by decide +kernel
theorem dX10_begin_41 : decode cX10_begin 41 = .ok (.getfield 33, 3) := by decide +kernel
theorem dX10_begin_44 : decode cX10_begin 44 = .ok (.getfield 148, 3) := by decide +kernel
theorem dX10_begin_47 : decode cX10_begin 47 = .ok (.iload_n 1, 1) := by decide +kernel
theorem dX10_begin_48 : decode cX10_begin 48 = .ok (.aaload, 1) := by decide +kernel
theorem dX10_begin_49 : decode cX10_begin 49 = .ok (.aload_n 0, 1) := by decide +kernel
theorem dX10_begin_50 : decode cX10_begin 50 = .ok (.getfield 10, 3) := by decide +kernel
theorem dX10_begin_53 : decode cX10_begin 53 = .ok (.getfield 127, 3) := by decide +kernel
theorem dX10_begin_56 : decode cX10_begin 56 = .ok (.iload_n 1, 1) := by decide +kernel
theorem dX10_begin_57 : decode cX10_begin 57 = .ok (.aaload, 1) := by decide +kernel
theorem dX10_begin_58 : decode cX10_begin 58 = .ok (.invokevirtual 191, 3) := by decide +kernel
theorem dX10_begin_61 : decode cX10_begin 61 = .ok (.aload_n 0, 1) := by decide +kernel
theorem dX10_begin_62 : decode cX10_begin 62 = .ok (.getfield 33, 3) := by decide +kernel
theorem dX10_begin_65 : decode cX10_begin 65 = .ok (.getfield 148, 3) := by decide +kernel
theorem dX10_begin_68 : decode cX10_begin 68 = .ok (.iload_n 1, 1) := by decide +kernel
theorem dX10_begin_69 : decode cX10_begin 69 = .ok (.aaload, 1) := by decide +kernel
theorem dX10_begin_70 : decode cX10_begin 70 = .ok (.getfield 157, 3) := by decide +kernel
theorem dX10_begin_73 : decode cX10_begin 73 = .ok (.ireturn, 1) := by decide +kernel
theorem dX10_rest_0 : decode cX10_rest 0 = .ok (.aload_n 0, 1) := by decide +kernel
theorem dX10_rest_1 : decode cX10_rest 1 = .ok (.iload_n 1, 1) := by decide +kernel
theorem dX10_rest_2 : decode cX10_rest 2 = .ok (.invokevirtual 124, 3) := by decide +kernel
theorem dX10_rest_5 : decode cX10_rest 5 = .ok (.ifCond .eq 6, 3) := by decide +kernel
theorem dX10_rest_8 : decode cX10_rest 8 = .ok (.bipush (-2), 2) := by decide +kernel
theorem dX10_rest_10 : decode cX10_rest 10 = .ok (.ireturn, 1) := by decide +kernel
theorem dX10_rest_11 : decode cX10_rest 11 = .ok (.aload_n 0, 1) := by decide +kernel
theorem dX10_rest_12 : decode cX10_rest 12 = .ok (.getfield 33, 3) := by decide +kernel
theorem dX10_rest_15 : decode cX10_rest 15 = .ok (.getfield 148, 3) := by decide +kernel
theorem dX10_rest_18 : decode cX10_rest 18 = .ok (.iload_n 1, 1) := by decide +kernel
theorem dX10_rest_19 : decode cX10_rest 19 = .ok (.aaload, 1) := by decide +kernel
theorem dX10_rest_20 : decode cX10_rest 20 = .ok (.getfield 152, 3) := by decide +kernel
theorem dX10_rest_23 : decode cX10_rest 23 = .ok (.ifCond .ne 6, 3) := by decide +kernel
theorem dX10_rest_26 : decode cX10_rest 26 = .ok (.bipush (-4), 2) := by decide +kernel
theorem dX10_rest_28 : decode cX10_rest 28 = .ok (.ireturn, 1) := by decide +kernel
theorem dX10_rest_29 : decode cX10_rest 29 = .ok (.aload_n 0, 1) := by decide +kernel
theorem dX10_rest_30 : decode cX10_rest 30 = .ok (.getfield 40, 3) := by decide +kernel
theorem dX10_rest_33 : decode cX10_rest 33 = .ok (.aload_n 0, 1) := by decide +kernel
theorem dX10_rest_34 : decode cX10_rest 34 = .ok (.getfield 33, 3) := by decide +kernel
theorem dX10_rest_37 : decode cX10_rest 37 = .ok (.invokevirtual 187, 3) := by decide +kernel
theorem dX10_rest_40 : decode cX10_rest 40 = .ok (.aload_n 0, 1) := by decide +kernel
theorem dX10_rest_41 : decode cX10_rest 41 = .ok (.getfield 33, 3) := by decide +kernel
theorem dX10_rest_44 : decode cX10_rest 44 = .ok (.getfield 148, 3) := by decide +kernel
theorem dX10_rest_47 : decode cX10_rest 47 = .ok (.iload_n 1, 1) := by decide +kernel
theorem dX10_rest_48 : decode cX10_rest 48 = .ok (.aaload, 1) := by decide +kernel
theorem dX10_rest_49 : decode cX10_rest 49 = .ok (.getfield 160, 3) := by decide +kernel
theorem dX10_rest_52 : decode cX10_rest 52 = .ok (.istore_n 2, 1) := by decide +kernel
theorem dX10_rest_53 : decode cX10_rest 53 = .ok (.aload_n 0, 1) := by decide +kernel
theorem dX10_rest_54 : decode cX10_rest 54 = .ok (.getfield 33, 3) := by decide +kernel
theorem dX10_rest_57 : decode cX10_rest 57 = .ok (.getfield 148, 3) := by decide +kernel
theorem dX10_rest_60 : decode cX10_rest 60 = .ok (.iload_n 1, 1) := by decide +kernel
theorem dX10_rest_61 : decode cX10_rest 61 = .ok (.aaload, 1) := by decide +kernel
theorem dX10_rest_62 : decode cX10_rest 62 = .ok (.invokevirtual 195, 3) := by decide +kernel
theorem dX10_rest_65 : decode cX10_rest 65 = .ok (.iload_n 2, 1) := by decide +kernel
theorem dX10_rest_66 : decode cX10_rest 66 = .ok (.ireturn, 1) := by decide +kernel
theorem dX10_moss_0 : decode cX10_moss 0 = .ok (.aload_n 0, 1) := by decide +kernel
theorem dX10_moss_1 : decode cX10_moss 1 = .ok (.iload_n 1, 1) := by decide +kernel
theorem dX10_moss_2 : decode cX10_moss 2 = .ok (.invokevirtual 124, 3) := by decide +kernel
theorem dX10_moss_5 : decode cX10_moss 5 = .ok (.ifCond .eq 6, 3) := by decide +kernel
theorem dX10_moss_8 : decode cX10_moss 8 = .ok (.bipush (-2), 2) := by decide +kernel
theorem dX10_moss_10 : decode cX10_moss 10 = .ok (.ireturn, 1) := by decide +kernel
theorem dX10_moss_11 : decode cX10_moss 11 = .ok (.aload_n 0, 1) := by decide +kernel
theorem dX10_moss_12 : decode cX10_moss 12 = .ok (.getfield 33, 3) := by decide +kernel
theorem dX10_moss_15 : decode cX10_moss 15 = .ok (.getfield 148, 3) := by decide +kernel
theorem dX10_moss_18 : decode cX10_moss 18 = .ok (.iload_n 1, 1) := by decide +kernel
theorem dX10_moss_19 : decode cX10_moss 19 = .ok (.aaload, 1) := by decide +kernel
theorem dX10_moss_20 : decode cX10_moss 20 = .ok (.getfield 166, 3) := by decide +kernel
theorem dX10_moss_23 : decode cX10_moss 23 = .ok (.ifCond .le 6, 3) := by decide +kernel
theorem dX10_moss_26 : decode cX10_moss 26 = .ok (.bipush (-4), 2) := by decide +kernel
theorem dX10_moss_28 : decode cX10_moss 28 = .ok (.ireturn, 1) := by decide +kernel
theorem dX10_moss_29 : decode cX10_moss 29 = .ok (.aload_n 0, 1) := by decide +kernel
theorem dX10_moss_30 : decode cX10_moss 30 = .ok (.getfield 40, 3) := by decide +kernel
theorem dX10_moss_33 : decode cX10_moss 33 = .ok (.aload_n 0, 1) := by decide +kernel
theorem dX10_moss_34 : decode cX10_moss 34 = .ok (.getfield 33, 3) := by decide +kernel
theorem dX10_moss_37 : decode cX10_moss 37 = .ok (.invokevirtual 187, 3) := by decide +kernel
theorem dX10_moss_40 : decode cX10_moss 40 = .ok (.aload_n 0, 1) := by decide +kernel
theorem dX10_moss_41 : decode cX10_moss 41 = .ok (.getfield 33, 3) := by decide +kernel
theorem dX10_moss_44 : decode cX10_moss 44 = .ok (.getfield 148, 3) := by decide +kernel
theorem dX10_moss_47 : decode cX10_moss 47 = .ok (.iload_n 1, 1) := by decide +kernel
theorem dX10_moss_48 : decode cX10_moss 48 = .ok (.aaload, 1) := by decide +kernel
theorem dX10_moss_49 : decode cX10_moss 49 = .ok (.bipush 30, 2) := by decide +kernel
theorem dX10_moss_51 : decode cX10_moss 51 = .ok (.putfield 166, 3) := by decide +kernel
theorem dX10_moss_54 : decode cX10_moss 54 = .ok (.bipush 30, 2) := by decide +kernel
theorem dX10_moss_56 : decode cX10_moss 56 = .ok (.ireturn, 1) := by decide +kernel
theorem dX10_smear_0 : decode cX10_smear 0 = .ok (.iload_n 1, 1) := by decide +kernel
theorem dX10_smear_1 : decode cX10_smear 1 = .ok (.iconst 1, 1) := by decide +kernel
theorem dX10_smear_2 : decode cX10_smear 2 = .ok (.bipush 9, 2) := by decide +kernel
theorem dX10_smear_4 : decode cX10_smear 4 = .ok (.invokestatic 83, 3) := by decide +kernel
theorem dX10_smear_7 : decode cX10_smear 7 = .ok (.ifCond .eq 6, 3) := by decide +kernel
theorem dX10_smear_10 : decode cX10_smear 10 = .ok (.bipush (-3), 2) := by decide +kernel
theorem dX10_smear_12 : decode cX10_smear 12 = .ok (.ireturn, 1) := by decide +kernel
theorem dX10_smear_13 : decode cX10_smear 13 = .ok (.aload_n 0, 1) := by decide +kernel
theorem dX10_smear_14 : decode cX10_smear 14 = .ok (.getfield 33, 3) := by decide +kernel
theorem dX10_smear_17 : decode cX10_smear 17 = .ok (.getfield 198, 3) := by decide +kernel
theorem dX10_smear_20 : decode cX10_smear 20 = .ok (.ifCond .ne 6, 3) := by decide +kernel
theorem dX10_smear_23 : decode cX10_smear 23 = .ok (.bipush (-4), 2) := by decide +kernel
theorem dX10_smear_25 : decode cX10_smear 25 = .ok (.ireturn, 1) := by decide +kernel
theorem dX10_smear_26 : decode cX10_smear 26 = .ok (.aload_n 0, 1) := by decide +kernel
theorem dX10_smear_27 : decode cX10_smear 27 = .ok (.getfield 40, 3) := by decide +kernel
theorem dX10_smear_30 : decode cX10_smear 30 = .ok (.aload_n 0, 1) := by decide +kernel
theorem dX10_smear_31 : decode cX10_smear 31 = .ok (.getfield 33, 3) := by decide +kernel
theorem dX10_smear_34 : decode cX10_smear 34 = .ok (.invokevirtual 187, 3) := by decide +kernel
theorem dX10_smear_37 : decode cX10_smear 37 = .ok (.aload_n 0, 1) := by decide +kernel
theorem dX10_smear_38 : decode cX10_smear 38 = .ok (.getfield 33, 3) := by decide +kernel
theorem dX10_smear_41 : decode cX10_smear 41 = .ok (.iconst 0, 1) := by decide +kernel
theorem dX10_smear_42 : decode cX10_smear 42 = .ok (.aload_n 0, 1) := by decide +kernel
theorem dX10_smear_43 : decode cX10_smear 43 = .ok (.getfield 33, 3) := by decide +kernel
theorem dX10_smear_46 : decode cX10_smear 46 = .ok (.getfield 198, 3) := by decide +kernel
theorem dX10_smear_49 : decode cX10_smear 49 = .ok (.iload_n 1, 1) := by decide +kernel
theorem dX10_smear_50 : decode cX10_smear 50 = .ok (.isub, 1) := by decide +kernel
theorem dX10_smear_51 : decode cX10_smear 51 = .ok (.invokestatic 199, 3) := by decide +kernel
theorem dX10_smear_54 : decode cX10_smear 54 = .ok (.putfield 198, 3) := by decide +kernel
theorem dX10_smear_57 : decode cX10_smear 57 = .ok (.aload_n 0, 1) := by decide +kernel
theorem dX10_smear_58 : decode cX10_smear 58 = .ok (.getfield 33, 3) := by decide +kernel
theorem dX10_smear_61 : decode cX10_smear 61 = .ok (.getfield 198, 3) := by decide +kernel
theorem dX10_smear_64 : decode cX10_smear 64 = .ok (.ireturn, 1) := by decide +kernel
theorem dX10_go_0 : decode cX10_go 0 = .ok (.iload_n 1, 1) := by decide +kernel
theorem dX10_go_1 : decode cX10_go 1 = .ok (.iconst 1, 1) := by decide +kernel
theorem dX10_go_2 : decode cX10_go 2 = .ok (.bipush 99, 2) := by decide +kernel
theorem dX10_go_4 : decode cX10_go 4 = .ok (.invokestatic 83, 3) := by decide +kernel
theorem dX10_go_7 : decode cX10_go 7 = .ok (.ifCond .eq 6, 3) := by decide +kernel
theorem dX10_go_10 : decode cX10_go 10 = .ok (.bipush (-3), 2) := by decide +kernel
theorem dX10_go_12 : decode cX10_go 12 = .ok (.ireturn, 1) := by decide +kernel
theorem dX10_go_13 : decode cX10_go 13 = .ok (.aload_n 0, 1) := by decide +kernel
theorem dX10_go_14 : decode cX10_go 14 = .ok (.getfield 33, 3) := by decide +kernel
theorem dX10_go_17 : decode cX10_go 17 = .ok (.getfield 205, 3) := by decide +kernel
theorem dX10_go_20 : decode cX10_go 20 = .ok (.iload_n 1, 1) := by decide +kernel
theorem dX10_go_21 : decode cX10_go 21 = .ok (.iadd, 1) := by decide +kernel
theorem dX10_go_22 : decode cX10_go 22 = .ok (.sipush 999, 3) := by decide +kernel
theorem dX10_go_25 : decode cX10_go 25 = .ok (.if_icmp .le 6, 3) := by decide +kernel
theorem dX10_go_28 : decode cX10_go 28 = .ok (.bipush (-5), 2) := by decide +kernel
theorem dX10_go_30 : decode cX10_go 30 = .ok (.ireturn, 1) := by decide +kernel
theorem dX10_go_31 : decode cX10_go 31 = .ok (.aload_n 0, 1) := by decide +kernel
theorem dX10_go_32 : decode cX10_go 32 = .ok (.getfield 40, 3) := by decide +kernel
theorem dX10_go_35 : decode cX10_go 35 = .ok (.aload_n 0, 1) := by decide +kernel
theorem dX10_go_36 : decode cX10_go 36 = .ok (.getfield 33, 3) := by decide +kernel
theorem dX10_go_39 : decode cX10_go 39 = .ok (.invokevirtual 187, 3) := by decide +kernel
theorem dX10_go_42 : decode cX10_go 42 = .ok (.iconst 0, 1) := by decide +kernel
theorem dX10_go_43 : decode cX10_go 43 = .ok (.istore_n 2, 1) := by decide +kernel
theorem dX10_go_44 : decode cX10_go 44 = .ok (.iload_n 2, 1) := by decide +kernel
theorem dX10_go_45 : decode cX10_go 45 = .ok (.iload_n 1, 1) := by decide +kernel
theorem dX10_go_46 : decode cX10_go 46 = .ok (.if_icmp .ge 20, 3) := by decide +kernel
theorem dX10_go_49 : decode cX10_go 49 = .ok (.aload_n 0, 1) := by decide +kernel
theorem dX10_go_50 : decode cX10_go 50 = .ok (.getfield 33, 3) := by decide +kernel
theorem dX10_go_53 : decode cX10_go 53 = .ok (.aload_n 0, 1) := by decide +kernel
theorem dX10_go_54 : decode cX10_go 54 = .ok (.getfield 10, 3) := by decide +kernel
theorem dX10_go_57 : decode cX10_go 57 = .ok (.invokevirtual 208, 3) := by decide +kernel
theorem dX10_go_60 : decode cX10_go 60 = .ok (.iinc 2 1, 3) := by decide +kernel
theorem dX10_go_63 : decode cX10_go 63 = .ok (.goto (-19), 3) := by decide +kernel
theorem dX10_go_66 : decode cX10_go 66 = .ok (.aload_n 0, 1) := by decide +kernel
theorem dX10_go_67 : decode cX10_go 67 = .ok (.getfield 33, 3) := by decide +kernel
theorem dX10_go_70 : decode cX10_go 70 = .ok (.getfield 211, 3) := by decide +kernel
theorem dX10_go_73 : decode cX10_go 73 = .ok (.ireturn, 1) := by decide +kernel
theorem dX10_undo_0 : decode cX10_undo 0 = .ok (.aload_n 0, 1) := by decide +kernel
theorem dX10_undo_1 : decode cX10_undo 1 = .ok (.getfield 40, 3) := by decide +kernel
theorem dX10_undo_4 : decode cX10_undo 4 = .ok (.aload_n 0, 1) := by decide +kernel
theorem dX10_undo_5 : decode cX10_undo 5 = .ok (.getfield 33, 3) := by decide +kernel
theorem dX10_undo_8 : decode cX10_undo 8 = .ok (.invokevirtual 214, 3) := by decide +kernel
theorem dX10_undo_11 : decode cX10_undo 11 = .ok (.ifCond .eq 13, 3) := by decide +kernel
theorem dX10_undo_14 : decode cX10_undo 14 = .ok (.aload_n 0, 1) := by decide +kernel
theorem dX10_undo_15 : decode cX10_undo 15 = .ok (.getfield 40, 3) := by decide +kernel
theorem dX10_undo_18 : decode cX10_undo 18 = .ok (.getfield 118, 3) := by decide +kernel
theorem dX10_undo_21 : decode cX10_undo 21 = .ok (.goto 5, 3) := by decide +kernel
theorem dX10_undo_24 : decode cX10_undo 24 = .ok (.bipush (-4), 2) := by decide +kernel
theorem dX10_undo_26 : decode cX10_undo 26 = .ok (.ireturn, 1) := by decide +kernel
theorem dX10_keep_0 : decode cX10_keep 0 = .ok (.iload_n 1, 1) := by decide +kernel
theorem dX10_keep_1 : decode cX10_keep 1 = .ok (.iconst 0, 1) := by decide +kernel
theorem dX10_keep_2 : decode cX10_keep 2 = .ok (.iconst 1, 1) := by decide +kernel
theorem dX10_keep_3 : decode cX10_keep 3 = .ok (.invokestatic 83, 3) := by decide +kernel
theorem dX10_keep_6 : decode cX10_keep 6 = .ok (.ifCond .eq 6, 3) := by decide +kernel
theorem dX10_keep_9 : decode cX10_keep 9 = .ok (.bipush (-2), 2) := by decide +kernel
theorem dX10_keep_11 : decode cX10_keep 11 = .ok (.ireturn, 1) := by decide +kernel
theorem dX10_keep_12 : decode cX10_keep 12 = .ok (.aload_n 0, 1) := by decide +kernel
theorem dX10_keep_13 : decode cX10_keep 13 = .ok (.getfield 44, 3) := by decide +kernel
theorem dX10_keep_16 : decode cX10_keep 16 = .ok (.iload_n 1, 1) := by decide +kernel
theorem dX10_keep_17 : decode cX10_keep 17 = .ok (.aaload, 1) := by decide +kernel
theorem dX10_keep_18 : decode cX10_keep 18 = .ok (.aload_n 0, 1) := by decide +kernel
theorem dX10_keep_19 : decode cX10_keep 19 = .ok (.getfield 33, 3) := by decide +kernel
theorem dX10_keep_22 : decode cX10_keep 22 = .ok (.invokevirtual 218, 3) := by decide +kernel
theorem dX10_keep_25 : decode cX10_keep 25 = .ok (.aload_n 0, 1) := by decide +kernel
theorem dX10_keep_26 : decode cX10_keep 26 = .ok (.getfield 48, 3) := by decide +kernel
theorem dX10_keep_29 : decode cX10_keep 29 = .ok (.iload_n 1, 1) := by decide +kernel
theorem dX10_keep_30 : decode cX10_keep 30 = .ok (.iconst 1, 1) := by decide +kernel
theorem dX10_keep_31 : decode cX10_keep 31 = .ok (.bastore, 1) := by decide +kernel
theorem dX10_keep_32 : decode cX10_keep 32 = .ok (.aload_n 0, 1) := by decide +kernel
theorem dX10_keep_33 : decode cX10_keep 33 = .ok (.getfield 33, 3) := by decide +kernel
theorem dX10_keep_36 : decode cX10_keep 36 = .ok (.getfield 205, 3) := by decide +kernel
theorem dX10_keep_39 : decode cX10_keep 39 = .ok (.ireturn, 1) := by decide +kernel
theorem dX10_back_0 : decode cX10_back 0 = .ok (.iload_n 1, 1) := by decide +kernel
theorem dX10_back_1 : decode cX10_back 1 = .ok (.iconst 0, 1) := by decide +kernel
theorem dX10_back_2 : decode cX10_back 2 = .ok (.iconst 1, 1) := by decide +kernel
theorem dX10_back_3 : decode cX10_back 3 = .ok (.invokestatic 83, 3) := by decide +kernel
theorem dX10_back_6 : decode cX10_back 6 = .ok (.ifCond .eq 6, 3) := by decide +kernel
theorem dX10_back_9 : decode cX10_back 9 = .ok (.bipush (-2), 2) := by decide +kernel
theorem dX10_back_11 : decode cX10_back 11 = .ok (.ireturn, 1) := by decide +kernel
theorem dX10_back_12 : decode cX10_back 12 = .ok (.aload_n 0, 1) := by decide +kernel
theorem dX10_back_13 : decode cX10_back 13 = .ok (.getfield 48, 3) := by decide +kernel
theorem dX10_back_16 : decode cX10_back 16 = .ok (.iload_n 1, 1) := by decide +kernel
theorem dX10_back_17 : decode cX10_back 17 = .ok (.baload, 1) := by decide +kernel
theorem dX10_back_18 : decode cX10_back 18 = .ok (.ifCond .ne 6, 3) := by decide +kernel
theorem dX10_back_21 : decode cX10_back 21 = .ok (.bipush (-4), 2) := by decide +kernel
theorem dX10_back_23 : decode cX10_back 23 = .ok (.ireturn, 1) := by decide +kernel
theorem dX10_back_24 : decode cX10_back 24 = .ok (.aload_n 0, 1) := by decide +kernel
theorem dX10_back_25 : decode cX10_back 25 = .ok (.getfield 33, 3) := by decide +kernel
theorem dX10_back_28 : decode cX10_back 28 = .ok (.aload_n 0, 1) := by decide +kernel
theorem dX10_back_29 : decode cX10_back 29 = .ok (.getfield 44, 3) := by decide +kernel
theorem dX10_back_32 : decode cX10_back 32 = .ok (.iload_n 1, 1) := by decide +kernel
theorem dX10_back_33 : decode cX10_back 33 = .ok (.aaload, 1) := by decide +kernel
theorem dX10_back_34 : decode cX10_back 34 = .ok (.invokevirtual 218, 3) := by decide +kernel
theorem dX10_back_37 : decode cX10_back 37 = .ok (.aload_n 0, 1) := by decide +kernel
theorem dX10_back_38 : decode cX10_back 38 = .ok (.getfield 40, 3) := by decide +kernel
theorem dX10_back_41 : decode cX10_back 41 = .ok (.iconst 0, 1) := by decide +kernel
theorem dX10_back_42 : decode cX10_back 42 = .ok (.putfield 118, 3) := by decide +kernel
theorem dX10_back_45 : decode cX10_back 45 = .ok (.aload_n 0, 1) := by decide +kernel
theorem dX10_back_46 : decode cX10_back 46 = .ok (.getfield 33, 3) := by decide +kernel
theorem dX10_back_49 : decode cX10_back 49 = .ok (.getfield 205, 3) := by decide +kernel
theorem dX10_back_52 : decode cX10_back 52 = .ok (.ireturn, 1) := by decide +kernel
theorem dX10_level_0 : decode cX10_level 0 = .ok (.iload_n 1, 1) := by decide +kernel
theorem dX10_level_1 : decode cX10_level 1 = .ok (.iconst 0, 1) := by decide +kernel
theorem dX10_level_2 : decode cX10_level 2 = .ok (.bipush 99, 2) := by decide +kernel
theorem dX10_level_4 : decode cX10_level 4 = .ok (.invokestatic 83, 3) := by decide +kernel
theorem dX10_level_7 : decode cX10_level 7 = .ok (.ifCond .eq 6, 3) := by decide +kernel
theorem dX10_level_10 : decode cX10_level 10 = .ok (.bipush (-3), 2) := by decide +kernel
theorem dX10_level_12 : decode cX10_level 12 = .ok (.ireturn, 1) := by decide +kernel
theorem dX10_level_13 : decode cX10_level 13 = .ok (.aload_n 0, 1) := by decide +kernel
theorem dX10_level_14 : decode cX10_level 14 = .ok (.getfield 57, 3) := by decide +kernel
theorem dX10_level_17 : decode cX10_level 17 = .ok (.aload_n 0, 1) := by decide +kernel
theorem dX10_level_18 : decode cX10_level 18 = .ok (.getfield 33, 3) := by decide +kernel
theorem dX10_level_21 : decode cX10_level 21 = .ok (.iload_n 1, 1) := by decide +kernel
theorem dX10_level_22 : decode cX10_level 22 = .ok (.invokevirtual 221, 3) := by decide +kernel
theorem dX10_level_25 : decode cX10_level 25 = .ok (.aload_n 0, 1) := by decide +kernel
theorem dX10_level_26 : decode cX10_level 26 = .ok (.getfield 57, 3) := by decide +kernel
theorem dX10_level_29 : decode cX10_level 29 = .ok (.aload_n 0, 1) := by decide +kernel
theorem dX10_level_30 : decode cX10_level 30 = .ok (.getfield 33, 3) := by decide +kernel
theorem dX10_level_33 : decode cX10_level 33 = .ok (.getfield 211, 3) := by decide +kernel
theorem dX10_level_36 : decode cX10_level 36 = .ok (.aload_n 0, 1) := by decide +kernel
theorem dX10_level_37 : decode cX10_level 37 = .ok (.getfield 33, 3) := by decide +kernel
theorem dX10_level_40 : decode cX10_level 40 = .ok (.getfield 198, 3) := by decide +kernel
theorem dX10_level_43 : decode cX10_level 43 = .ok (.iload_n 1, 1) := by decide +kernel
theorem dX10_level_44 : decode cX10_level 44 = .ok (.invokevirtual 225, 3) := by decide +kernel
theorem dX10_level_47 : decode cX10_level 47 = .ok (.aload_n 0, 1) := by decide +kernel
theorem dX10_level_48 : decode cX10_level 48 = .ok (.getfield 57, 3) := by decide +kernel
theorem dX10_level_51 : decode cX10_level 51 = .ok (.getfield 229, 3) := by decide +kernel
theorem dX10_level_54 : decode cX10_level 54 = .ok (.iload_n 1, 1) := by decide +kernel
theorem dX10_level_55 : decode cX10_level 55 = .ok (.iaload, 1) := by decide +kernel
theorem dX10_level_56 : decode cX10_level 56 = .ok (.ireturn, 1) := by decide +kernel
theorem dX10_highest_0 : decode cX10_highest 0 = .ok (.iload_n 1, 1) := by decide +kernel
theorem dX10_highest_1 : decode cX10_highest 1 = .ok (.iconst 0, 1) := by decide +kernel
theorem dX10_highest_2 : decode cX10_highest 2 = .ok (.bipush 99, 2) := by decide +kernel
theorem dX10_highest_4 : decode cX10_highest 4 = .ok (.invokestatic 83, 3) := by decide +kernel
theorem dX10_highest_7 : decode cX10_highest 7 = .ok (.ifCond .eq 6, 3) := by decide +kernel
theorem dX10_highest_10 : decode cX10_highest 10 = .ok (.bipush (-3), 2) := by decide +kernel
theorem dX10_highest_12 : decode cX10_highest 12 = .ok (.ireturn, 1) := by decide +kernel
theorem dX10_highest_13 : decode cX10_highest 13 = .ok (.aload_n 0, 1) := by decide +kernel
theorem dX10_highest_14 : decode cX10_highest 14 = .ok (.getfield 57, 3) := by decide +kernel
theorem dX10_highest_17 : decode cX10_highest 17 = .ok (.aload_n 0, 1) := by decide +kernel
theorem dX10_highest_18 : decode cX10_highest 18 = .ok (.getfield 33, 3) := by decide +kernel
theorem dX10_highest_21 : decode cX10_highest 21 = .ok (.iload_n 1, 1) := by decide +kernel
theorem dX10_highest_22 : decode cX10_highest 22 = .ok (.invokevirtual 221, 3) := by decide +kernel
theorem dX10_highest_25 : decode cX10_highest 25 = .ok (.aload_n 0, 1) := by decide +kernel
theorem dX10_highest_26 : decode cX10_highest 26 = .ok (.getfield 57, 3) := by decide +kernel
theorem dX10_highest_29 : decode cX10_highest 29 = .ok (.aload_n 0, 1) := by decide +kernel
theorem dX10_highest_30 : decode cX10_highest 30 = .ok (.getfield 33, 3) := by decide +kernel
theorem dX10_highest_33 : decode cX10_highest 33 = .ok (.getfield 211, 3) := by decide +kernel
theorem dX10_highest_36 : decode cX10_highest 36 = .ok (.aload_n 0, 1) := by decide +kernel
theorem dX10_highest_37 : decode cX10_highest 37 = .ok (.getfield 33, 3) := by decide +kernel
theorem dX10_highest_40 : decode cX10_highest 40 = .ok (.getfield 198, 3) := by decide +kernel
theorem dX10_highest_43 : decode cX10_highest 43 = .ok (.iload_n 1, 1) := by decide +kernel
theorem dX10_highest_44 : decode cX10_highest 44 = .ok (.invokevirtual 225, 3) := by decide +kernel
theorem dX10_highest_47 : decode cX10_highest 47 = .ok (.aload_n 0, 1) := by decide +kernel
theorem dX10_highest_48 : decode cX10_highest 48 = .ok (.getfield 57, 3) := by decide +kernel
theorem dX10_highest_51 : decode cX10_highest 51 = .ok (.getfield 232, 3) := by decide +kernel
theorem dX10_highest_54 : decode cX10_highest 54 = .ok (.ireturn, 1) := by decide +kernel
theorem dX10_full_0 : decode cX10_full 0 = .ok (.aload_n 0, 1) := by decide +kernel
theorem dX10_full_1 : decode cX10_full 1 = .ok (.aload_n 0, 1) := by decide +kernel
theorem dX10_full_2 : decode cX10_full 2 = .ok (.getfield 33, 3) := by decide +kernel
theorem dX10_full_5 : decode cX10_full 5 = .ok (.getfield 198, 3) := by decide +kernel
theorem dX10_full_8 : decode cX10_full 8 = .ok (.invokevirtual 235, 3) := by decide +kernel
theorem dX10_full_11 : decode cX10_full 11 = .ok (.ireturn, 1) := by decide +kernel
theorem dX10_mossTo_0 : decode cX10_mossTo 0 = .ok (.iload_n 1, 1) := by decide +kernel
theorem dX10_mossTo_1 : decode cX10_mossTo 1 = .ok (.iconst 1, 1) := by decide +kernel
theorem dX10_mossTo_2 : decode cX10_mossTo 2 = .ok (.bipush 99, 2) := by decide +kernel
theorem dX10_mossTo_4 : decode cX10_mossTo 4 = .ok (.invokestatic 83, 3) := by decide +kernel
theorem dX10_mossTo_7 : decode cX10_mossTo 7 = .ok (.ifCond .eq 6, 3) := by decide +kernel
theorem dX10_mossTo_10 : decode cX10_mossTo 10 = .ok (.bipush (-3), 2) := by decide +kernel
theorem dX10_mossTo_12 : decode cX10_mossTo 12 = .ok (.ireturn, 1) := by decide +kernel
theorem dX10_mossTo_13 : decode cX10_mossTo 13 = .ok (.aload_n 0, 1) := by decide +kernel
theorem dX10_mossTo_14 : decode cX10_mossTo 14 = .ok (.getfield 57, 3) := by decide +kernel
theorem dX10_mossTo_17 : decode cX10_mossTo 17 = .ok (.aload_n 0, 1) := by decide +kernel
theorem dX10_mossTo_18 : decode cX10_mossTo 18 = .ok (.getfield 33, 3) := by decide +kernel
theorem dX10_mossTo_21 : decode cX10_mossTo 21 = .ok (.iload_n 1, 1) := by decide +kernel
theorem dX10_mossTo_22 : decode cX10_mossTo 22 = .ok (.invokevirtual 221, 3) := by decide +kernel
theorem dX10_mossTo_25 : decode cX10_mossTo 25 = .ok (.aload_n 0, 1) := by decide +kernel
theorem dX10_mossTo_26 : decode cX10_mossTo 26 = .ok (.getfield 57, 3) := by decide +kernel
theorem dX10_mossTo_29 : decode cX10_mossTo 29 = .ok (.aload_n 0, 1) := by decide +kernel
theorem dX10_mossTo_30 : decode cX10_mossTo 30 = .ok (.getfield 33, 3) := by decide +kernel
theorem dX10_mossTo_33 : decode cX10_mossTo 33 = .ok (.getfield 211, 3) := by decide +kernel
theorem dX10_mossTo_36 : decode cX10_mossTo 36 = .ok (.aload_n 0, 1) := by decide +kernel
theorem dX10_mossTo_37 : decode cX10_mossTo 37 = .ok (.getfield 33, 3) := by decide +kernel
theorem dX10_mossTo_40 : decode cX10_mossTo 40 = .ok (.getfield 198, 3) := by decide +kernel
theorem dX10_mossTo_43 : decode cX10_mossTo 43 = .ok (.iload_n 1, 1) := by decide +kernel
theorem dX10_mossTo_44 : decode cX10_mossTo 44 = .ok (.invokevirtual 225, 3) := by decide +kernel
theorem dX10_mossTo_47 : decode cX10_mossTo 47 = .ok (.aload_n 0, 1) := by decide +kernel
theorem dX10_mossTo_48 : decode cX10_mossTo 48 = .ok (.getfield 57, 3) := by decide +kernel
theorem dX10_mossTo_51 : decode cX10_mossTo 51 = .ok (.getfield 229, 3) := by decide +kernel
theorem dX10_mossTo_54 : decode cX10_mossTo 54 = .ok (.iload_n 1, 1) := by decide +kernel
theorem dX10_mossTo_55 : decode cX10_mossTo 55 = .ok (.iaload, 1) := by decide +kernel
theorem dX10_mossTo_56 : decode cX10_mossTo 56 = .ok (.istore_n 2, 1) := by decide +kernel
theorem dX10_mossTo_57 : decode cX10_mossTo 57 = .ok (.iconst (-1), 1) := by decide +kernel
theorem dX10_mossTo_58 : decode cX10_mossTo 58 = .ok (.istore_n 3, 1) := by decide +kernel
theorem dX10_mossTo_59 : decode cX10_mossTo 59 = .ok (.iconst 0, 1) := by decide +kernel
theorem dX10_mossTo_60 : decode cX10_mossTo 60 = .ok (.istore 4, 2) := by decide +kernel
theorem dX10_mossTo_62 : decode cX10_mossTo 62 = .ok (.iload 4, 2) := by decide +kernel
theorem dX10_mossTo_64 : decode cX10_mossTo 64 = .ok (.aload_n 0, 1) := by decide +kernel
theorem dX10_mossTo_65 : decode cX10_mossTo 65 = .ok (.getfield 10, 3) := by decide +kernel
theorem dX10_mossTo_68 : decode cX10_mossTo 68 = .ok (.getfield 94, 3) := by decide +kernel
theorem dX10_mossTo_71 : decode cX10_mossTo 71 = .ok (.if_icmp .ge 107, 3) := by decide +kernel
theorem dX10_mossTo_74 : decode cX10_mossTo 74 = .ok (.aload_n 0, 1) := by decide +kernel
theorem dX10_mossTo_75 : decode cX10_mossTo 75 = .ok (.getfield 33, 3) := by decide +kernel
theorem dX10_mossTo_78 : decode cX10_mossTo 78 = .ok (.getfield 148, 3) := by decide +kernel
theorem dX10_mossTo_81 : decode cX10_mossTo 81 = .ok (.iload 4, 2) := by decide +kernel
theorem dX10_mossTo_83 : decode cX10_mossTo 83 = .ok (.aaload, 1) := by decide +kernel
theorem dX10_mossTo_84 : decode cX10_mossTo 84 = .ok (.getfield 166, 3) := by decide +kernel
theorem dX10_mossTo_87 : decode cX10_mossTo 87 = .ok (.ifCond .le 6, 3) := by decide +kernel
theorem dX10_mossTo_90 : decode cX10_mossTo 90 = .ok (.goto 82, 3) := by decide +kernel
theorem dX10_mossTo_93 : decode cX10_mossTo 93 = .ok (.aload_n 0, 1) := by decide +kernel
theorem dX10_mossTo_94 : decode cX10_mossTo 94 = .ok (.getfield 57, 3) := by decide +kernel
theorem dX10_mossTo_97 : decode cX10_mossTo 97 = .ok (.aload_n 0, 1) := by decide +kernel
theorem dX10_mossTo_98 : decode cX10_mossTo 98 = .ok (.getfield 33, 3) := by decide +kernel
theorem dX10_mossTo_101 : decode cX10_mossTo 101 = .ok (.iload 4, 2) := by decide +kernel
theorem dX10_mossTo_103 : decode cX10_mossTo 103 = .ok (.bipush 30, 2) := by decide +kernel
theorem dX10_mossTo_105 : decode cX10_mossTo 105 = .ok (.iload_n 1, 1) := by decide +kernel
theorem dX10_mossTo_106 : decode cX10_mossTo 106 = .ok (.invokevirtual 238, 3) := by decide +kernel
theorem dX10_mossTo_109 : decode cX10_mossTo 109 = .ok (.aload_n 0, 1) := by decide +kernel
theorem dX10_mossTo_110 : decode cX10_mossTo 110 = .ok (.getfield 57, 3) := by decide +kernel
theorem dX10_mossTo_113 : decode cX10_mossTo 113 = .ok (.aload_n 0, 1) := by decide +kernel
theorem dX10_mossTo_114 : decode cX10_mossTo 114 = .ok (.getfield 33, 3) := by decide +kernel
theorem dX10_mossTo_117 : decode cX10_mossTo 117 = .ok (.getfield 211, 3) := by decide +kernel
theorem dX10_mossTo_120 : decode cX10_mossTo 120 = .ok (.aload_n 0, 1) := by decide +kernel
theorem dX10_mossTo_121 : decode cX10_mossTo 121 = .ok (.getfield 33, 3) := by decide +kernel
theorem dX10_mossTo_124 : decode cX10_mossTo 124 = .ok (.getfield 198, 3) := by decide +kernel
theorem dX10_mossTo_127 : decode cX10_mossTo 127 = .ok (.iload_n 1, 1) := by decide +kernel
theorem dX10_mossTo_128 : decode cX10_mossTo 128 = .ok (.invokevirtual 225, 3) := by decide +kernel
theorem dX10_mossTo_131 : decode cX10_mossTo 131 = .ok (.aload_n 0, 1) := by decide +kernel
theorem dX10_mossTo_132 : decode cX10_mossTo 132 = .ok (.getfield 57, 3) := by decide +kernel
theorem dX10_mossTo_135 : decode cX10_mossTo 135 = .ok (.getfield 229, 3) := by decide +kernel
theorem dX10_mossTo_138 : decode cX10_mossTo 138 = .ok (.iload_n 1, 1) := by decide +kernel
theorem dX10_mossTo_139 : decode cX10_mossTo 139 = .ok (.iaload, 1) := by decide +kernel
theorem dX10_mossTo_140 : decode cX10_mossTo 140 = .ok (.iload_n 2, 1) := by decide +kernel
theorem dX10_mossTo_141 : decode cX10_mossTo 141 = .ok (.if_icmp .le 16, 3) := by decide +kernel
theorem dX10_mossTo_144 : decode cX10_mossTo 144 = .ok (.aload_n 0, 1) := by decide +kernel
theorem dX10_mossTo_145 : decode cX10_mossTo 145 = .ok (.getfield 57, 3) := by decide +kernel
theorem dX10_mossTo_148 : decode cX10_mossTo 148 = .ok (.getfield 229, 3) := by decide +kernel
theorem dX10_mossTo_151 : decode cX10_mossTo 151 = .ok (.iload_n 1, 1) := by decide +kernel
theorem dX10_mossTo_152 : decode cX10_mossTo 152 = .ok (.iaload, 1) := by decide +kernel
theorem dX10_mossTo_153 : decode cX10_mossTo 153 = .ok (.istore_n 2, 1) := by decide +kernel
theorem dX10_mossTo_154 : decode cX10_mossTo 154 = .ok (.iload 4, 2) := by decide +kernel
theorem dX10_mossTo_156 : decode cX10_mossTo 156 = .ok (.istore_n 3, 1) := by decide +kernel
theorem dX10_mossTo_157 : decode cX10_mossTo 157 = .ok (.aload_n 0, 1) := by decide +kernel
theorem dX10_mossTo_158 : decode cX10_mossTo 158 = .ok (.getfield 57, 3) := by decide +kernel
theorem dX10_mossTo_161 : decode cX10_mossTo 161 = .ok (.aload_n 0, 1) := by decide +kernel
theorem dX10_mossTo_162 : decode cX10_mossTo 162 = .ok (.getfield 33, 3) := by decide +kernel
theorem dX10_mossTo_165 : decode cX10_mossTo 165 = .ok (.iload 4, 2) := by decide +kernel
theorem dX10_mossTo_167 : decode cX10_mossTo 167 = .ok (.iconst 0, 1) := by decide +kernel
theorem dX10_mossTo_168 : decode cX10_mossTo 168 = .ok (.iload_n 1, 1) := by decide +kernel
theorem dX10_mossTo_169 : decode cX10_mossTo 169 = .ok (.invokevirtual 238, 3) := by decide +kernel
theorem dX10_mossTo_172 : decode cX10_mossTo 172 = .ok (.iinc 4 1, 3) := by decide +kernel
theorem dX10_mossTo_175 : decode cX10_mossTo 175 = .ok (.goto (-113), 3) := by decide +kernel
theorem dX10_mossTo_178 : decode cX10_mossTo 178 = .ok (.iload_n 3, 1) := by decide +kernel
theorem dX10_mossTo_179 : decode cX10_mossTo 179 = .ok (.ireturn, 1) := by decide +kernel
theorem dX10_adds_0 : decode cX10_adds 0 = .ok (.aload_n 0, 1) := by decide +kernel
theorem dX10_adds_1 : decode cX10_adds 1 = .ok (.iload_n 1, 1) := by decide +kernel
theorem dX10_adds_2 : decode cX10_adds 2 = .ok (.invokevirtual 124, 3) := by decide +kernel
theorem dX10_adds_5 : decode cX10_adds 5 = .ok (.ifCond .eq 6, 3) := by decide +kernel
theorem dX10_adds_8 : decode cX10_adds 8 = .ok (.bipush (-2), 2) := by decide +kernel
theorem dX10_adds_10 : decode cX10_adds 10 = .ok (.ireturn, 1) := by decide +kernel
theorem dX10_adds_11 : decode cX10_adds 11 = .ok (.iload_n 2, 1) := by decide +kernel
theorem dX10_adds_12 : decode cX10_adds 12 = .ok (.iconst 1, 1) := by decide +kernel
theorem dX10_adds_13 : decode cX10_adds 13 = .ok (.bipush 99, 2) := by decide +kernel
theorem dX10_adds_15 : decode cX10_adds 15 = .ok (.invokestatic 83, 3) := by decide +kernel
theorem dX10_adds_18 : decode cX10_adds 18 = .ok (.ifCond .eq 6, 3) := by decide +kernel
theorem dX10_adds_21 : decode cX10_adds 21 = .ok (.bipush (-3), 2) := by decide +kernel
theorem dX10_adds_23 : decode cX10_adds 23 = .ok (.ireturn, 1) := by decide +kernel
theorem dX10_adds_24 : decode cX10_adds 24 = .ok (.aload_n 0, 1) := by decide +kernel
theorem dX10_adds_25 : decode cX10_adds 25 = .ok (.getfield 57, 3) := by decide +kernel
theorem dX10_adds_28 : decode cX10_adds 28 = .ok (.aload_n 0, 1) := by decide +kernel
theorem dX10_adds_29 : decode cX10_adds 29 = .ok (.getfield 33, 3) := by decide +kernel
theorem dX10_adds_32 : decode cX10_adds 32 = .ok (.iload_n 2, 1) := by decide +kernel
theorem dX10_adds_33 : decode cX10_adds 33 = .ok (.invokevirtual 221, 3) := by decide +kernel
theorem dX10_adds_36 : decode cX10_adds 36 = .ok (.aload_n 0, 1) := by decide +kernel
theorem dX10_adds_37 : decode cX10_adds 37 = .ok (.getfield 57, 3) := by decide +kernel
theorem dX10_adds_40 : decode cX10_adds 40 = .ok (.aload_n 0, 1) := by decide +kernel
theorem dX10_adds_41 : decode cX10_adds 41 = .ok (.getfield 33, 3) := by decide +kernel
theorem dX10_adds_44 : decode cX10_adds 44 = .ok (.getfield 211, 3) := by decide +kernel
theorem dX10_adds_47 : decode cX10_adds 47 = .ok (.aload_n 0, 1) := by decide +kernel
theorem dX10_adds_48 : decode cX10_adds 48 = .ok (.getfield 33, 3) := by decide +kernel
theorem dX10_adds_51 : decode cX10_adds 51 = .ok (.getfield 198, 3) := by decide +kernel
theorem dX10_adds_54 : decode cX10_adds 54 = .ok (.iload_n 2, 1) := by decide +kernel
theorem dX10_adds_55 : decode cX10_adds 55 = .ok (.invokevirtual 225, 3) := by decide +kernel
theorem dX10_adds_58 : decode cX10_adds 58 = .ok (.aload_n 0, 1) := by decide +kernel
theorem dX10_adds_59 : decode cX10_adds 59 = .ok (.getfield 57, 3) := by decide +kernel
theorem dX10_adds_62 : decode cX10_adds 62 = .ok (.getfield 232, 3) := by decide +kernel
theorem dX10_adds_65 : decode cX10_adds 65 = .ok (.istore_n 3, 1) := by decide +kernel
theorem dX10_adds_66 : decode cX10_adds 66 = .ok (.aload_n 0, 1) := by decide +kernel
theorem dX10_adds_67 : decode cX10_adds 67 = .ok (.getfield 57, 3) := by decide +kernel
theorem dX10_adds_70 : decode cX10_adds 70 = .ok (.dup, 1) := by decide +kernel
theorem dX10_adds_71 : decode cX10_adds 71 = .ok (.getfield 242, 3) := by decide +kernel
theorem dX10_adds_74 : decode cX10_adds 74 = .ok (.iconst 1, 1) := by decide +kernel
theorem dX10_adds_75 : decode cX10_adds 75 = .ok (.iload_n 1, 1) := by decide +kernel
theorem dX10_adds_76 : decode cX10_adds 76 = .ok (.ishl, 1) := by decide +kernel
theorem dX10_adds_77 : decode cX10_adds 77 = .ok (.iconst (-1), 1) := by decide +kernel
theorem dX10_adds_78 : decode cX10_adds 78 = .ok (.ixor, 1) := by decide +kernel
theorem dX10_adds_79 : decode cX10_adds 79 = .ok (.iand, 1) := by decide +kernel
theorem dX10_adds_80 : decode cX10_adds 80 = .ok (.putfield 242, 3) := by decide +kernel
theorem dX10_adds_83 : decode cX10_adds 83 = .ok (.aload_n 0, 1) := by decide +kernel
theorem dX10_adds_84 : decode cX10_adds 84 = .ok (.getfield 57, 3) := by decide +kernel
theorem dX10_adds_87 : decode cX10_adds 87 = .ok (.aload_n 0, 1) := by decide +kernel
theorem dX10_adds_88 : decode cX10_adds 88 = .ok (.getfield 33, 3) := by decide +kernel
theorem dX10_adds_91 : decode cX10_adds 91 = .ok (.getfield 211, 3) := by decide +kernel
theorem dX10_adds_94 : decode cX10_adds 94 = .ok (.aload_n 0, 1) := by decide +kernel
theorem dX10_adds_95 : decode cX10_adds 95 = .ok (.getfield 33, 3) := by decide +kernel
theorem dX10_adds_98 : decode cX10_adds 98 = .ok (.getfield 198, 3) := by decide +kernel
theorem dX10_adds_101 : decode cX10_adds 101 = .ok (.iload_n 2, 1) := by decide +kernel
theorem dX10_adds_102 : decode cX10_adds 102 = .ok (.invokevirtual 225, 3) := by decide +kernel
theorem dX10_adds_105 : decode cX10_adds 105 = .ok (.iload_n 3, 1) := by decide +kernel
theorem dX10_adds_106 : decode cX10_adds 106 = .ok (.aload_n 0, 1) := by decide +kernel
theorem dX10_adds_107 : decode cX10_adds 107 = .ok (.getfield 57, 3) := by decide +kernel
theorem dX10_adds_110 : decode cX10_adds 110 = .ok (.getfield 232, 3) := by decide +kernel
theorem dX10_adds_113 : decode cX10_adds 113 = .ok (.isub, 1) := by decide +kernel
theorem dX10_adds_114 : decode cX10_adds 114 = .ok (.ireturn, 1) := by decide +kernel
theorem dX10_fewest_0 : decode cX10_fewest 0 = .ok (.iload_n 1, 1) := by decide +kernel
theorem dX10_fewest_1 : decode cX10_fewest 1 = .ok (.iconst 1, 1) := by decide +kernel
theorem dX10_fewest_2 : decode cX10_fewest 2 = .ok (.bipush 99, 2) := by decide +kernel
theorem dX10_fewest_4 : decode cX10_fewest 4 = .ok (.invokestatic 83, 3) := by decide +kernel
theorem dX10_fewest_7 : decode cX10_fewest 7 = .ok (.ifCond .eq 6, 3) := by decide +kernel
theorem dX10_fewest_10 : decode cX10_fewest 10 = .ok (.bipush (-3), 2) := by decide +kernel
theorem dX10_fewest_12 : decode cX10_fewest 12 = .ok (.ireturn, 1) := by decide +kernel
theorem dX10_fewest_13 : decode cX10_fewest 13 = .ok (.aload_n 0, 1) := by decide +kernel
theorem dX10_fewest_14 : decode cX10_fewest 14 = .ok (.getfield 33, 3) := by decide +kernel
theorem dX10_fewest_17 : decode cX10_fewest 17 = .ok (.invokevirtual 245, 3) := by decide +kernel
theorem dX10_fewest_20 : decode cX10_fewest 20 = .ok (.istore_n 2, 1) := by decide +kernel
theorem dX10_fewest_21 : decode cX10_fewest 21 = .ok (.aload_n 0, 1) := by decide +kernel
theorem dX10_fewest_22 : decode cX10_fewest 22 = .ok (.getfield 57, 3) := by decide +kernel
theorem dX10_fewest_25 : decode cX10_fewest 25 = .ok (.aload_n 0, 1) := by decide +kernel
theorem dX10_fewest_26 : decode cX10_fewest 26 = .ok (.getfield 33, 3) := by decide +kernel
theorem dX10_fewest_29 : decode cX10_fewest 29 = .ok (.iload_n 1, 1) := by decide +kernel
theorem dX10_fewest_30 : decode cX10_fewest 30 = .ok (.invokevirtual 221, 3) := by decide +kernel
theorem dX10_fewest_33 : decode cX10_fewest 33 = .ok (.iconst (-1), 1) := by decide +kernel
theorem dX10_fewest_34 : decode cX10_fewest 34 = .ok (.istore_n 3, 1) := by decide +kernel
theorem dX10_fewest_35 : decode cX10_fewest 35 = .ok (.iconst 0, 1) := by decide +kernel
theorem dX10_fewest_36 : decode cX10_fewest 36 = .ok (.istore 4, 2) := by decide +kernel
theorem dX10_fewest_38 : decode cX10_fewest 38 = .ok (.iload 4, 2) := by decide +kernel
theorem dX10_fewest_40 : decode cX10_fewest 40 = .ok (.bipush 32, 2) := by decide +kernel
theorem dX10_fewest_42 : decode cX10_fewest 42 = .ok (.if_icmp .ge 108, 3) := by decide +kernel
theorem dX10_fewest_45 : decode cX10_fewest 45 = .ok (.iload 4, 2) := by decide +kernel
theorem dX10_fewest_47 : decode cX10_fewest 47 = .ok (.iload_n 2, 1) := by decide +kernel
theorem dX10_fewest_48 : decode cX10_fewest 48 = .ok (.iconst (-1), 1) := by decide +kernel
theorem dX10_fewest_49 : decode cX10_fewest 49 = .ok (.ixor, 1) := by decide +kernel
theorem dX10_fewest_50 : decode cX10_fewest 50 = .ok (.iand, 1) := by decide +kernel
theorem dX10_fewest_51 : decode cX10_fewest 51 = .ok (.ifCond .ne 7, 3) := by decide +kernel
theorem dX10_fewest_54 : decode cX10_fewest 54 = .ok (.iconst 1, 1) := by decide +kernel
theorem dX10_fewest_55 : decode cX10_fewest 55 = .ok (.goto 4, 3) := by decide +kernel
theorem dX10_fewest_58 : decode cX10_fewest 58 = .ok (.iconst 0, 1) := by decide +kernel
theorem dX10_fewest_59 : decode cX10_fewest 59 = .ok (.istore 5, 2) := by decide +kernel
theorem dX10_fewest_61 : decode cX10_fewest 61 = .ok (.iload_n 3, 1) := by decide +kernel
theorem dX10_fewest_62 : decode cX10_fewest 62 = .ok (.iconst (-1), 1) := by decide +kernel
theorem dX10_fewest_63 : decode cX10_fewest 63 = .ok (.if_icmp .eq 15, 3) := by decide +kernel
theorem dX10_fewest_66 : decode cX10_fewest 66 = .ok (.iload 4, 2) := by decide +kernel
theorem dX10_fewest_68 : decode cX10_fewest 68 = .ok (.invokestatic 248, 3) := by decide +kernel
theorem dX10_fewest_71 : decode cX10_fewest 71 = .ok (.iload_n 3, 1) := by decide +kernel
theorem dX10_fewest_72 : decode cX10_fewest 72 = .ok (.invokestatic 248, 3) := by decide +kernel
theorem dX10_fewest_75 : decode cX10_fewest 75 = .ok (.if_icmp .ge 7, 3) := by decide +kernel
theorem dX10_fewest_78 : decode cX10_fewest 78 = .ok (.iconst 1, 1) := by decide +kernel
theorem dX10_fewest_79 : decode cX10_fewest 79 = .ok (.goto 4, 3) := by decide +kernel
theorem dX10_fewest_82 : decode cX10_fewest 82 = .ok (.iconst 0, 1) := by decide +kernel
theorem dX10_fewest_83 : decode cX10_fewest 83 = .ok (.istore 6, 2) := by decide +kernel
theorem dX10_fewest_85 : decode cX10_fewest 85 = .ok (.iload 5, 2) := by decide +kernel
theorem dX10_fewest_87 : decode cX10_fewest 87 = .ok (.ifCond .eq 57, 3) := by decide +kernel
theorem dX10_fewest_90 : decode cX10_fewest 90 = .ok (.iload 6, 2) := by decide +kernel
theorem dX10_fewest_92 : decode cX10_fewest 92 = .ok (.ifCond .eq 52, 3) := by decide +kernel
theorem dX10_fewest_95 : decode cX10_fewest 95 = .ok (.aload_n 0, 1) := by decide +kernel
theorem dX10_fewest_96 : decode cX10_fewest 96 = .ok (.getfield 57, 3) := by decide +kernel
theorem dX10_fewest_99 : decode cX10_fewest 99 = .ok (.iload 4, 2) := by decide +kernel
theorem dX10_fewest_101 : decode cX10_fewest 101 = .ok (.putfield 242, 3) := by decide +kernel
theorem dX10_fewest_104 : decode cX10_fewest 104 = .ok (.aload_n 0, 1) := by decide +kernel
theorem dX10_fewest_105 : decode cX10_fewest 105 = .ok (.getfield 57, 3) := by decide +kernel
theorem dX10_fewest_108 : decode cX10_fewest 108 = .ok (.aload_n 0, 1) := by decide +kernel
theorem dX10_fewest_109 : decode cX10_fewest 109 = .ok (.getfield 33, 3) := by decide +kernel
theorem dX10_fewest_112 : decode cX10_fewest 112 = .ok (.getfield 211, 3) := by decide +kernel
theorem dX10_fewest_115 : decode cX10_fewest 115 = .ok (.aload_n 0, 1) := by decide +kernel
theorem dX10_fewest_116 : decode cX10_fewest 116 = .ok (.getfield 33, 3) := by decide +kernel
theorem dX10_fewest_119 : decode cX10_fewest 119 = .ok (.getfield 198, 3) := by decide +kernel
theorem dX10_fewest_122 : decode cX10_fewest 122 = .ok (.iload_n 1, 1) := by decide +kernel
theorem dX10_fewest_123 : decode cX10_fewest 123 = .ok (.invokevirtual 225, 3) := by decide +kernel
theorem dX10_fewest_126 : decode cX10_fewest 126 = .ok (.aload_n 0, 1) := by decide +kernel
theorem dX10_fewest_127 : decode cX10_fewest 127 = .ok (.getfield 57, 3) := by decide +kernel
theorem dX10_fewest_130 : decode cX10_fewest 130 = .ok (.getfield 253, 3) := by decide +kernel
theorem dX10_fewest_133 : decode cX10_fewest 133 = .ok (.iconst (-1), 1) := by decide +kernel
theorem dX10_fewest_134 : decode cX10_fewest 134 = .ok (.if_icmp .ne 7, 3) := by decide +kernel
theorem dX10_fewest_137 : decode cX10_fewest 137 = .ok (.iload_n 3, 1) := by decide +kernel
theorem dX10_fewest_138 : decode cX10_fewest 138 = .ok (.goto 5, 3) := by decide +kernel
theorem dX10_fewest_141 : decode cX10_fewest 141 = .ok (.iload 4, 2) := by decide +kernel
theorem dX10_fewest_143 : decode cX10_fewest 143 = .ok (.istore_n 3, 1) := by decide +kernel
theorem dX10_fewest_144 : decode cX10_fewest 144 = .ok (.iinc 4 1, 3) := by decide +kernel
theorem dX10_fewest_147 : decode cX10_fewest 147 = .ok (.goto (-109), 3) := by decide +kernel
theorem dX10_fewest_150 : decode cX10_fewest 150 = .ok (.iload_n 3, 1) := by decide +kernel
theorem dX10_fewest_151 : decode cX10_fewest 151 = .ok (.ireturn, 1) := by decide +kernel
theorem dX10_together_0 : decode cX10_together 0 = .ok (.iload_n 2, 1) := by decide +kernel
theorem dX10_together_1 : decode cX10_together 1 = .ok (.iconst (-1), 1) := by decide +kernel
theorem dX10_together_2 : decode cX10_together 2 = .ok (.if_icmp .eq 14, 3) := by decide +kernel
theorem dX10_together_5 : decode cX10_together 5 = .ok (.aload_n 0, 1) := by decide +kernel
theorem dX10_together_6 : decode cX10_together 6 = .ok (.iload_n 2, 1) := by decide +kernel
theorem dX10_together_7 : decode cX10_together 7 = .ok (.invokevirtual 124, 3) := by decide +kernel
theorem dX10_together_10 : decode cX10_together 10 = .ok (.ifCond .eq 6, 3) := by decide +kernel
theorem dX10_together_13 : decode cX10_together 13 = .ok (.bipush (-2), 2) := by decide +kernel
theorem dX10_together_15 : decode cX10_together 15 = .ok (.ireturn, 1) := by decide +kernel
theorem dX10_together_16 : decode cX10_together 16 = .ok (.iload_n 1, 1) := by decide +kernel
theorem dX10_together_17 : decode cX10_together 17 = .ok (.iconst 1, 1) := by decide +kernel
theorem dX10_together_18 : decode cX10_together 18 = .ok (.bipush 40, 2) := by decide +kernel
theorem dX10_together_20 : decode cX10_together 20 = .ok (.invokestatic 83, 3) := by decide +kernel
theorem dX10_together_23 : decode cX10_together 23 = .ok (.ifCond .eq 6, 3) := by decide +kernel
theorem dX10_together_26 : decode cX10_together 26 = .ok (.bipush (-3), 2) := by decide +kernel
theorem dX10_together_28 : decode cX10_together 28 = .ok (.ireturn, 1) := by decide +kernel
theorem dX10_together_29 : decode cX10_together 29 = .ok (.aload_n 0, 1) := by decide +kernel
theorem dX10_together_30 : decode cX10_together 30 = .ok (.getfield 64, 3) := by decide +kernel
theorem dX10_together_33 : decode cX10_together 33 = .ok (.aload_n 0, 1) := by decide +kernel
theorem dX10_together_34 : decode cX10_together 34 = .ok (.getfield 33, 3) := by decide +kernel
theorem dX10_together_37 : decode cX10_together 37 = .ok (.iload_n 1, 1) := by decide +kernel
theorem dX10_together_38 : decode cX10_together 38 = .ok (.invokevirtual 255, 3) := by decide +kernel
theorem dX10_together_41 : decode cX10_together 41 = .ok (.iload_n 2, 1) := by decide +kernel
theorem dX10_together_42 : decode cX10_together 42 = .ok (.iconst (-1), 1) := by decide +kernel
theorem dX10_together_43 : decode cX10_together 43 = .ok (.if_icmp .ne 13, 3) := by decide +kernel
theorem dX10_together_46 : decode cX10_together 46 = .ok (.aload_n 0, 1) := by decide +kernel
theorem dX10_together_47 : decode cX10_together 47 = .ok (.getfield 64, 3) := by decide +kernel
theorem dX10_together_50 : decode cX10_together 50 = .ok (.getfield 258, 3) := by decide +kernel
theorem dX10_together_53 : decode cX10_together 53 = .ok (.goto 12, 3) := by decide +kernel
theorem dX10_together_56 : decode cX10_together 56 = .ok (.aload_n 0, 1) := by decide +kernel
theorem dX10_together_57 : decode cX10_together 57 = .ok (.getfield 64, 3) := by decide +kernel
theorem dX10_together_60 : decode cX10_together 60 = .ok (.getfield 261, 3) := by decide +kernel
theorem dX10_together_63 : decode cX10_together 63 = .ok (.iload_n 2, 1) := by decide +kernel
theorem dX10_together_64 : decode cX10_together 64 = .ok (.iaload, 1) := by decide +kernel
theorem dX10_together_65 : decode cX10_together 65 = .ok (.ireturn, 1) := by decide +kernel
theorem dX10_pitch_0 : decode cX10_pitch 0 = .ok (.iload_n 1, 1) := by decide +kernel
theorem dX10_pitch_1 : decode cX10_pitch 1 = .ok (.iconst 0, 1) := by decide +kernel
theorem dX10_pitch_2 : decode cX10_pitch 2 = .ok (.bipush 9, 2) := by decide +kernel
theorem dX10_pitch_4 : decode cX10_pitch 4 = .ok (.invokestatic 83, 3) := by decide +kernel
theorem dX10_pitch_7 : decode cX10_pitch 7 = .ok (.ifCond .eq 6, 3) := by decide +kernel
theorem dX10_pitch_10 : decode cX10_pitch 10 = .ok (.bipush (-3), 2) := by decide +kernel
theorem dX10_pitch_12 : decode cX10_pitch 12 = .ok (.ireturn, 1) := by decide +kernel
theorem dX10_pitch_13 : decode cX10_pitch 13 = .ok (.aload_n 0, 1) := by decide +kernel
theorem dX10_pitch_14 : decode cX10_pitch 14 = .ok (.iconst 0, 1) := by decide +kernel
theorem dX10_pitch_15 : decode cX10_pitch 15 = .ok (.aload_n 0, 1) := by decide +kernel
theorem dX10_pitch_16 : decode cX10_pitch 16 = .ok (.getfield 33, 3) := by decide +kernel
theorem dX10_pitch_19 : decode cX10_pitch 19 = .ok (.getfield 198, 3) := by decide +kernel
theorem dX10_pitch_22 : decode cX10_pitch 22 = .ok (.iload_n 1, 1) := by decide +kernel
theorem dX10_pitch_23 : decode cX10_pitch 23 = .ok (.isub, 1) := by decide +kernel
theorem dX10_pitch_24 : decode cX10_pitch 24 = .ok (.invokestatic 199, 3) := by decide +kernel
theorem dX10_pitch_27 : decode cX10_pitch 27 = .ok (.invokevirtual 235, 3) := by decide +kernel
theorem dX10_pitch_30 : decode cX10_pitch 30 = .ok (.ireturn, 1) := by decide +kernel
theorem dX10_seen_0 : decode cX10_seen 0 = .ok (.iload_n 1, 1) := by decide +kernel
theorem dX10_seen_1 : decode cX10_seen 1 = .ok (.iconst 0, 1) := by decide +kernel
theorem dX10_seen_2 : decode cX10_seen 2 = .ok (.bipush 99, 2) := by decide +kernel
theorem dX10_seen_4 : decode cX10_seen 4 = .ok (.invokestatic 83, 3) := by decide +kernel
theorem dX10_seen_7 : decode cX10_seen 7 = .ok (.ifCond .ne 13, 3) := by decide +kernel
theorem dX10_seen_10 : decode cX10_seen 10 = .ok (.iload_n 2, 1) := by decide +kernel
theorem dX10_seen_11 : decode cX10_seen 11 = .ok (.iconst 0, 1) := by decide +kernel
theorem dX10_seen_12 : decode cX10_seen 12 = .ok (.bipush 99, 2) := by decide +kernel
theorem dX10_seen_14 : decode cX10_seen 14 = .ok (.invokestatic 83, 3) := by decide +kernel
theorem dX10_seen_17 : decode cX10_seen 17 = .ok (.ifCond .eq 6, 3) := by decide +kernel
theorem dX10_seen_20 : decode cX10_seen 20 = .ok (.bipush (-3), 2) := by decide +kernel
theorem dX10_seen_22 : decode cX10_seen 22 = .ok (.ireturn, 1) := by decide +kernel
theorem dX10_seen_23 : decode cX10_seen 23 = .ok (.aload_n 0, 1) := by decide +kernel
theorem dX10_seen_24 : decode cX10_seen 24 = .ok (.getfield 121, 3) := by decide +kernel
theorem dX10_seen_27 : decode cX10_seen 27 = .ok (.bipush 6, 2) := by decide +kernel
theorem dX10_seen_29 : decode cX10_seen 29 = .ok (.if_icmp .lt 6, 3) := by decide +kernel
theorem dX10_seen_32 : decode cX10_seen 32 = .ok (.bipush (-5), 2) := by decide +kernel
theorem dX10_seen_34 : decode cX10_seen 34 = .ok (.ireturn, 1) := by decide +kernel
theorem dX10_seen_35 : decode cX10_seen 35 = .ok (.aload_n 0, 1) := by decide +kernel
theorem dX10_seen_36 : decode cX10_seen 36 = .ok (.getfield 68, 3) := by decide +kernel
theorem dX10_seen_39 : decode cX10_seen 39 = .ok (.aload_n 0, 1) := by decide +kernel
theorem dX10_seen_40 : decode cX10_seen 40 = .ok (.getfield 121, 3) := by decide +kernel
theorem dX10_seen_43 : decode cX10_seen 43 = .ok (.iload_n 1, 1) := by decide +kernel
theorem dX10_seen_44 : decode cX10_seen 44 = .ok (.iastore, 1) := by decide +kernel
theorem dX10_seen_45 : decode cX10_seen 45 = .ok (.aload_n 0, 1) := by decide +kernel
theorem dX10_seen_46 : decode cX10_seen 46 = .ok (.getfield 72, 3) := by decide +kernel
theorem dX10_seen_49 : decode cX10_seen 49 = .ok (.aload_n 0, 1) := by decide +kernel
theorem dX10_seen_50 : decode cX10_seen 50 = .ok (.getfield 121, 3) := by decide +kernel
theorem dX10_seen_53 : decode cX10_seen 53 = .ok (.iload_n 2, 1) := by decide +kernel
theorem dX10_seen_54 : decode cX10_seen 54 = .ok (.iastore, 1) := by decide +kernel
theorem dX10_seen_55 : decode cX10_seen 55 = .ok (.aload_n 0, 1) := by decide +kernel
theorem dX10_seen_56 : decode cX10_seen 56 = .ok (.dup, 1) := by decide +kernel
theorem dX10_seen_57 : decode cX10_seen 57 = .ok (.getfield 121, 3) := by decide +kernel
theorem dX10_seen_60 : decode cX10_seen 60 = .ok (.iconst 1, 1) := by decide +kernel
theorem dX10_seen_61 : decode cX10_seen 61 = .ok (.iadd, 1) := by decide +kernel
theorem dX10_seen_62 : decode cX10_seen 62 = .ok (.putfield 121, 3) := by decide +kernel
theorem dX10_seen_65 : decode cX10_seen 65 = .ok (.aload_n 0, 1) := by decide +kernel
theorem dX10_seen_66 : decode cX10_seen 66 = .ok (.getfield 121, 3) := by decide +kernel
theorem dX10_seen_69 : decode cX10_seen 69 = .ok (.ireturn, 1) := by decide +kernel
theorem dX10_forget_0 : decode cX10_forget 0 = .ok (.aload_n 0, 1) := by decide +kernel
theorem dX10_forget_1 : decode cX10_forget 1 = .ok (.getfield 121, 3) := by decide +kernel
theorem dX10_forget_4 : decode cX10_forget 4 = .ok (.istore_n 1, 1) := by decide +kernel
theorem dX10_forget_5 : decode cX10_forget 5 = .ok (.aload_n 0, 1) := by decide +kernel
theorem dX10_forget_6 : decode cX10_forget 6 = .ok (.iconst 0, 1) := by decide +kernel
theorem dX10_forget_7 : decode cX10_forget 7 = .ok (.putfield 121, 3) := by decide +kernel
theorem dX10_forget_10 : decode cX10_forget 10 = .ok (.iload_n 1, 1) := by decide +kernel
theorem dX10_forget_11 : decode cX10_forget 11 = .ok (.ireturn, 1) := by decide +kernel
theorem dX10_worked_0 : decode cX10_worked 0 = .ok (.iload_n 1, 1) := by decide +kernel
theorem dX10_worked_1 : decode cX10_worked 1 = .ok (.iconst 0, 1) := by decide +kernel
theorem dX10_worked_2 : decode cX10_worked 2 = .ok (.iconst 2, 1) := by decide +kernel
theorem dX10_worked_3 : decode cX10_worked 3 = .ok (.invokestatic 83, 3) := by decide +kernel
theorem dX10_worked_6 : decode cX10_worked 6 = .ok (.ifCond .eq 6, 3) := by decide +kernel
theorem dX10_worked_9 : decode cX10_worked 9 = .ok (.bipush (-3), 2) := by decide +kernel
theorem dX10_worked_11 : decode cX10_worked 11 = .ok (.ireturn, 1) := by decide +kernel
theorem dX10_worked_12 : decode cX10_worked 12 = .ok (.aload_n 0, 1) := by decide +kernel
theorem dX10_worked_13 : decode cX10_worked 13 = .ok (.invokevirtual 264, 3) := by decide +kernel
theorem dX10_worked_16 : decode cX10_worked 16 = .ok (.istore_n 2, 1) := by decide +kernel
theorem dX10_worked_17 : decode cX10_worked 17 = .ok (.aload_n 0, 1) := by decide +kernel
theorem dX10_worked_18 : decode cX10_worked 18 = .ok (.getfield 57, 3) := by decide +kernel
theorem dX10_worked_21 : decode cX10_worked 21 = .ok (.iload_n 2, 1) := by decide +kernel
theorem dX10_worked_22 : decode cX10_worked 22 = .ok (.invokevirtual 267, 3) := by decide +kernel
theorem dX10_worked_25 : decode cX10_worked 25 = .ok (.iconst 0, 1) := by decide +kernel
theorem dX10_worked_26 : decode cX10_worked 26 = .ok (.istore_n 3, 1) := by decide +kernel
theorem dX10_worked_27 : decode cX10_worked 27 = .ok (.iconst (-1), 1) := by decide +kernel
theorem dX10_worked_28 : decode cX10_worked 28 = .ok (.istore 4, 2) := by decide +kernel
theorem dX10_worked_30 : decode cX10_worked 30 = .ok (.iconst 1, 1) := by decide +kernel
theorem dX10_worked_31 : decode cX10_worked 31 = .ok (.aload_n 0, 1) := by decide +kernel
theorem dX10_worked_32 : decode cX10_worked 32 = .ok (.getfield 10, 3) := by decide +kernel
theorem dX10_worked_35 : decode cX10_worked 35 = .ok (.getfield 94, 3) := by decide +kernel
theorem dX10_worked_38 : decode cX10_worked 38 = .ok (.ishl, 1) := by decide +kernel
theorem dX10_worked_39 : decode cX10_worked 39 = .ok (.iconst 1, 1) := by decide +kernel
theorem dX10_worked_40 : decode cX10_worked 40 = .ok (.isub, 1) := by decide +kernel
theorem dX10_worked_41 : decode cX10_worked 41 = .ok (.istore 5, 2) := by decide +kernel
theorem dX10_worked_43 : decode cX10_worked 43 = .ok (.iconst 0, 1) := by decide +kernel
theorem dX10_worked_44 : decode cX10_worked 44 = .ok (.istore 6, 2) := by decide +kernel
theorem dX10_worked_46 : decode cX10_worked 46 = .ok (.iload 6, 2) := by decide +kernel
theorem dX10_worked_48 : decode cX10_worked 48 = .ok (.iconst 1, 1) := by decide +kernel
theorem dX10_worked_49 : decode cX10_worked 49 = .ok (.aload_n 0, 1) := by decide +kernel
theorem dX10_worked_50 : decode cX10_worked 50 = .ok (.getfield 10, 3) := by decide +kernel
theorem dX10_worked_53 : decode cX10_worked 53 = .ok (.getfield 94, 3) := by decide +kernel
theorem dX10_worked_56 : decode cX10_worked 56 = .ok (.ishl, 1) := by decide +kernel
theorem dX10_worked_57 : decode cX10_worked 57 = .ok (.if_icmp .ge 66, 3) := by decide +kernel
theorem dX10_worked_60 : decode cX10_worked 60 = .ok (.aload_n 0, 1) := by decide +kernel
theorem dX10_worked_61 : decode cX10_worked 61 = .ok (.getfield 57, 3) := by decide +kernel
theorem dX10_worked_64 : decode cX10_worked 64 = .ok (.iload 6, 2) := by decide +kernel
theorem dX10_worked_66 : decode cX10_worked 66 = .ok (.putfield 242, 3) := by decide +kernel
theorem dX10_worked_69 : decode cX10_worked 69 = .ok (.aload_n 0, 1) := by decide +kernel
theorem dX10_worked_70 : decode cX10_worked 70 = .ok (.getfield 57, 3) := by decide +kernel
theorem dX10_worked_73 : decode cX10_worked 73 = .ok (.iconst 0, 1) := by decide +kernel
theorem dX10_worked_74 : decode cX10_worked 74 = .ok (.aload_n 0, 1) := by decide +kernel
theorem dX10_worked_75 : decode cX10_worked 75 = .ok (.getfield 10, 3) := by decide +kernel
theorem dX10_worked_78 : decode cX10_worked 78 = .ok (.getfield 75, 3) := by decide +kernel
theorem dX10_worked_81 : decode cX10_worked 81 = .ok (.iload_n 2, 1) := by decide +kernel
theorem dX10_worked_82 : decode cX10_worked 82 = .ok (.invokevirtual 225, 3) := by decide +kernel
theorem dX10_worked_85 : decode cX10_worked 85 = .ok (.aload_n 0, 1) := by decide +kernel
theorem dX10_worked_86 : decode cX10_worked 86 = .ok (.invokevirtual 270, 3) := by decide +kernel
theorem dX10_worked_89 : decode cX10_worked 89 = .ok (.ifCond .eq 28, 3) := by decide +kernel
theorem dX10_worked_92 : decode cX10_worked 92 = .ok (.iinc 3 1, 3) := by decide +kernel
theorem dX10_worked_95 : decode cX10_worked 95 = .ok (.iload 4, 2) := by decide +kernel
theorem dX10_worked_97 : decode cX10_worked 97 = .ok (.iconst (-1), 1) := by decide +kernel
theorem dX10_worked_98 : decode cX10_worked 98 = .ok (.if_icmp .ne 8, 3) := by decide +kernel
theorem dX10_worked_101 : decode cX10_worked 101 = .ok (.iload 6, 2) := by decide +kernel
theorem dX10_worked_103 : decode cX10_worked 103 = .ok (.goto 5, 3) := by decide +kernel
theorem dX10_worked_106 : decode cX10_worked 106 = .ok (.iload 4, 2) := by decide +kernel
theorem dX10_worked_108 : decode cX10_worked 108 = .ok (.istore 4, 2) := by decide +kernel
theorem dX10_worked_110 : decode cX10_worked 110 = .ok (.iload 5, 2) := by decide +kernel
theorem dX10_worked_112 : decode cX10_worked 112 = .ok (.iload 6, 2) := by decide +kernel
theorem dX10_worked_114 : decode cX10_worked 114 = .ok (.iand, 1) := by decide +kernel
theorem dX10_worked_115 : decode cX10_worked 115 = .ok (.istore 5, 2) := by decide +kernel
theorem dX10_worked_117 : decode cX10_worked 117 = .ok (.iinc 6 1, 3) := by decide +kernel
theorem dX10_worked_120 : decode cX10_worked 120 = .ok (.goto (-74), 3) := by decide +kernel
theorem dX10_worked_123 : decode cX10_worked 123 = .ok (.iload_n 1, 1) := by decide +kernel
theorem dX10_worked_124 : decode cX10_worked 124 = .ok (.lookupswitch 33 #[(0, 28), (1, 30)], 28) := by decide +kernel
theorem dX10_worked_152 : decode cX10_worked 152 = .ok (.iload_n 3, 1) := by decide +kernel
theorem dX10_worked_153 : decode cX10_worked 153 = .ok (.ireturn, 1) := by decide +kernel
theorem dX10_worked_154 : decode cX10_worked 154 = .ok (.iload 4, 2) := by decide +kernel
theorem dX10_worked_156 : decode cX10_worked 156 = .ok (.ireturn, 1) := by decide +kernel
theorem dX10_worked_157 : decode cX10_worked 157 = .ok (.iload_n 3, 1) := by decide +kernel
theorem dX10_worked_158 : decode cX10_worked 158 = .ok (.ifCond .ne 7, 3) := by decide +kernel
theorem dX10_worked_161 : decode cX10_worked 161 = .ok (.iconst 0, 1) := by decide +kernel
theorem dX10_worked_162 : decode cX10_worked 162 = .ok (.goto 5, 3) := by decide +kernel
theorem dX10_worked_165 : decode cX10_worked 165 = .ok (.iload 5, 2) := by decide +kernel
theorem dX10_worked_167 : decode cX10_worked 167 = .ok (.ireturn, 1) := by decide +kernel
theorem dX10_leaves_0 : decode cX10_leaves 0 = .ok (.iload_n 1, 1) := by decide +kernel
theorem dX10_leaves_1 : decode cX10_leaves 1 = .ok (.iconst 0, 1) := by decide +kernel
theorem dX10_leaves_2 : decode cX10_leaves 2 = .ok (.bipush 6, 2) := by decide +kernel
theorem dX10_leaves_4 : decode cX10_leaves 4 = .ok (.invokestatic 83, 3) := by decide +kernel
theorem dX10_leaves_7 : decode cX10_leaves 7 = .ok (.ifCond .ne 33, 3) := by decide +kernel
theorem dX10_leaves_10 : decode cX10_leaves 10 = .ok (.iload_n 2, 1) := by decide +kernel
theorem dX10_leaves_11 : decode cX10_leaves 11 = .ok (.iconst 0, 1) := by decide +kernel
theorem dX10_leaves_12 : decode cX10_leaves 12 = .ok (.bipush 6, 2) := by decide +kernel
theorem dX10_leaves_14 : decode cX10_leaves 14 = .ok (.invokestatic 83, 3) := by decide +kernel
theorem dX10_leaves_17 : decode cX10_leaves 17 = .ok (.ifCond .ne 23, 3) := by decide +kernel
theorem dX10_leaves_20 : decode cX10_leaves 20 = .ok (.iload_n 3, 1) := by decide +kernel
theorem dX10_leaves_21 : decode cX10_leaves 21 = .ok (.iconst 0, 1) := by decide +kernel
theorem dX10_leaves_22 : decode cX10_leaves 22 = .ok (.bipush 10, 2) := by decide +kernel
theorem dX10_leaves_24 : decode cX10_leaves 24 = .ok (.invokestatic 83, 3) := by decide +kernel
theorem dX10_leaves_27 : decode cX10_leaves 27 = .ok (.ifCond .ne 13, 3) := by decide +kernel
theorem dX10_leaves_30 : decode cX10_leaves 30 = .ok (.iload 4, 2) := by decide +kernel
theorem dX10_leaves_32 : decode cX10_leaves 32 = .ok (.iconst 0, 1) := by decide +kernel
theorem dX10_leaves_33 : decode cX10_leaves 33 = .ok (.iconst 1, 1) := by decide +kernel
theorem dX10_leaves_34 : decode cX10_leaves 34 = .ok (.invokestatic 83, 3) := by decide +kernel
theorem dX10_leaves_37 : decode cX10_leaves 37 = .ok (.ifCond .eq 6, 3) := by decide +kernel
theorem dX10_leaves_40 : decode cX10_leaves 40 = .ok (.bipush (-3), 2) := by decide +kernel
theorem dX10_leaves_42 : decode cX10_leaves 42 = .ok (.ireturn, 1) := by decide +kernel
theorem dX10_leaves_43 : decode cX10_leaves 43 = .ok (.iconst 0, 1) := by decide +kernel
theorem dX10_leaves_44 : decode cX10_leaves 44 = .ok (.istore 5, 2) := by decide +kernel
theorem dX10_leaves_46 : decode cX10_leaves 46 = .ok (.iconst 1, 1) := by decide +kernel
theorem dX10_leaves_47 : decode cX10_leaves 47 = .ok (.istore 6, 2) := by decide +kernel
theorem dX10_leaves_49 : decode cX10_leaves 49 = .ok (.iconst 0, 1) := by decide +kernel
theorem dX10_leaves_50 : decode cX10_leaves 50 = .ok (.istore 7, 2) := by decide +kernel
theorem dX10_leaves_52 : decode cX10_leaves 52 = .ok (.iload 7, 2) := by decide +kernel
theorem dX10_leaves_54 : decode cX10_leaves 54 = .ok (.iload_n 1, 1) := by decide +kernel
theorem dX10_leaves_55 : decode cX10_leaves 55 = .ok (.if_icmp .gt 55, 3) := by decide +kernel
theorem dX10_leaves_58 : decode cX10_leaves 58 = .ok (.iload 7, 2) := by decide +kernel
theorem dX10_leaves_60 : decode cX10_leaves 60 = .ok (.iload_n 2, 1) := by decide +kernel
theorem dX10_leaves_61 : decode cX10_leaves 61 = .ok (.if_icmp .lt 29, 3) := by decide +kernel
theorem dX10_leaves_64 : decode cX10_leaves 64 = .ok (.iload 5, 2) := by decide +kernel
theorem dX10_leaves_66 : decode cX10_leaves 66 = .ok (.iload 6, 2) := by decide +kernel
theorem dX10_leaves_68 : decode cX10_leaves 68 = .ok (.iload_n 3, 1) := by decide +kernel
theorem dX10_leaves_69 : decode cX10_leaves 69 = .ok (.iload 7, 2) := by decide +kernel
theorem dX10_leaves_71 : decode cX10_leaves 71 = .ok (.invokestatic 274, 3) := by decide +kernel
theorem dX10_leaves_74 : decode cX10_leaves 74 = .ok (.imul, 1) := by decide +kernel
theorem dX10_leaves_75 : decode cX10_leaves 75 = .ok (.bipush 10, 2) := by decide +kernel
theorem dX10_leaves_77 : decode cX10_leaves 77 = .ok (.iload_n 3, 1) := by decide +kernel
theorem dX10_leaves_78 : decode cX10_leaves 78 = .ok (.isub, 1) := by decide +kernel
theorem dX10_leaves_79 : decode cX10_leaves 79 = .ok (.iload_n 1, 1) := by decide +kernel
theorem dX10_leaves_80 : decode cX10_leaves 80 = .ok (.iload 7, 2) := by decide +kernel
theorem dX10_leaves_82 : decode cX10_leaves 82 = .ok (.isub, 1) := by decide +kernel
theorem dX10_leaves_83 : decode cX10_leaves 83 = .ok (.invokestatic 274, 3) := by decide +kernel
theorem dX10_leaves_86 : decode cX10_leaves 86 = .ok (.imul, 1) := by decide +kernel
theorem dX10_leaves_87 : decode cX10_leaves 87 = .ok (.iadd, 1) := by decide +kernel
theorem dX10_leaves_88 : decode cX10_leaves 88 = .ok (.istore 5, 2) := by decide +kernel
theorem dX10_leaves_90 : decode cX10_leaves 90 = .ok (.iload 6, 2) := by decide +kernel
theorem dX10_leaves_92 : decode cX10_leaves 92 = .ok (.iload_n 1, 1) := by decide +kernel
theorem dX10_leaves_93 : decode cX10_leaves 93 = .ok (.iload 7, 2) := by decide +kernel
theorem dX10_leaves_95 : decode cX10_leaves 95 = .ok (.isub, 1) := by decide +kernel
theorem dX10_leaves_96 : decode cX10_leaves 96 = .ok (.imul, 1) := by decide +kernel
theorem dX10_leaves_97 : decode cX10_leaves 97 = .ok (.iload 7, 2) := by decide +kernel
theorem dX10_leaves_99 : decode cX10_leaves 99 = .ok (.iconst 1, 1) := by decide +kernel
theorem dX10_leaves_100 : decode cX10_leaves 100 = .ok (.iadd, 1) := by decide +kernel
theorem dX10_leaves_101 : decode cX10_leaves 101 = .ok (.idiv, 1) := by decide +kernel
theorem dX10_leaves_102 : decode cX10_leaves 102 = .ok (.istore 6, 2) := by decide +kernel
theorem dX10_leaves_104 : decode cX10_leaves 104 = .ok (.iinc 7 1, 3) := by decide +kernel
theorem dX10_leaves_107 : decode cX10_leaves 107 = .ok (.goto (-55), 3) := by decide +kernel
theorem dX10_leaves_110 : decode cX10_leaves 110 = .ok (.bipush 10, 2) := by decide +kernel
theorem dX10_leaves_112 : decode cX10_leaves 112 = .ok (.iload_n 1, 1) := by decide +kernel
theorem dX10_leaves_113 : decode cX10_leaves 113 = .ok (.invokestatic 274, 3) := by decide +kernel
theorem dX10_leaves_116 : decode cX10_leaves 116 = .ok (.istore 7, 2) := by decide +kernel
theorem dX10_leaves_118 : decode cX10_leaves 118 = .ok (.iload 5, 2) := by decide +kernel
theorem dX10_leaves_120 : decode cX10_leaves 120 = .ok (.iload 7, 2) := by decide +kernel
theorem dX10_leaves_122 : decode cX10_leaves 122 = .ok (.invokestatic 277, 3) := by decide +kernel
theorem dX10_leaves_125 : decode cX10_leaves 125 = .ok (.istore 8, 2) := by decide +kernel
theorem dX10_leaves_127 : decode cX10_leaves 127 = .ok (.iload 4, 2) := by decide +kernel
theorem dX10_leaves_129 : decode cX10_leaves 129 = .ok (.ifCond .ne 11, 3) := by decide +kernel
theorem dX10_leaves_132 : decode cX10_leaves 132 = .ok (.iload 5, 2) := by decide +kernel
theorem dX10_leaves_134 : decode cX10_leaves 134 = .ok (.iload 8, 2) := by decide +kernel
theorem dX10_leaves_136 : decode cX10_leaves 136 = .ok (.idiv, 1) := by decide +kernel
theorem dX10_leaves_137 : decode cX10_leaves 137 = .ok (.goto 8, 3) := by decide +kernel
theorem dX10_leaves_140 : decode cX10_leaves 140 = .ok (.iload 7, 2) := by decide +kernel
theorem dX10_leaves_142 : decode cX10_leaves 142 = .ok (.iload 8, 2) := by decide +kernel
theorem dX10_leaves_144 : decode cX10_leaves 144 = .ok (.idiv, 1) := by decide +kernel
theorem dX10_leaves_145 : decode cX10_leaves 145 = .ok (.ireturn, 1) := by decide +kernel
theorem dX10_count_0 : decode cX10_count 0 = .ok (.iload_n 1, 1) := by decide +kernel
theorem dX10_count_1 : decode cX10_count 1 = .ok (.tableswitch 144 0 10 #[59, 67, 75, 83, 91, 99, 107, 115, 123, 128, 136], 59) := by decide +kernel
theorem dX10_count_60 : decode cX10_count 60 = .ok (.aload_n 0, 1) := by decide +kernel
theorem dX10_count_61 : decode cX10_count 61 = .ok (.getfield 10, 3) := by decide +kernel
theorem dX10_count_64 : decode cX10_count 64 = .ok (.getfield 94, 3) := by decide +kernel
theorem dX10_count_67 : decode cX10_count 67 = .ok (.ireturn, 1) := by decide +kernel
theorem dX10_count_68 : decode cX10_count 68 = .ok (.aload_n 0, 1) := by decide +kernel
theorem dX10_count_69 : decode cX10_count 69 = .ok (.getfield 33, 3) := by decide +kernel
theorem dX10_count_72 : decode cX10_count 72 = .ok (.getfield 205, 3) := by decide +kernel
theorem dX10_count_75 : decode cX10_count 75 = .ok (.ireturn, 1) := by decide +kernel
theorem dX10_count_76 : decode cX10_count 76 = .ok (.aload_n 0, 1) := by decide +kernel
theorem dX10_count_77 : decode cX10_count 77 = .ok (.getfield 33, 3) := by decide +kernel
theorem dX10_count_80 : decode cX10_count 80 = .ok (.getfield 211, 3) := by decide +kernel
theorem dX10_count_83 : decode cX10_count 83 = .ok (.ireturn, 1) := by decide +kernel
theorem dX10_count_84 : decode cX10_count 84 = .ok (.aload_n 0, 1) := by decide +kernel
theorem dX10_count_85 : decode cX10_count 85 = .ok (.getfield 10, 3) := by decide +kernel
theorem dX10_count_88 : decode cX10_count 88 = .ok (.getfield 280, 3) := by decide +kernel
theorem dX10_count_91 : decode cX10_count 91 = .ok (.ireturn, 1) := by decide +kernel
theorem dX10_count_92 : decode cX10_count 92 = .ok (.aload_n 0, 1) := by decide +kernel
theorem dX10_count_93 : decode cX10_count 93 = .ok (.getfield 33, 3) := by decide +kernel
theorem dX10_count_96 : decode cX10_count 96 = .ok (.getfield 198, 3) := by decide +kernel
theorem dX10_count_99 : decode cX10_count 99 = .ok (.ireturn, 1) := by decide +kernel
theorem dX10_count_100 : decode cX10_count 100 = .ok (.aload_n 0, 1) := by decide +kernel
theorem dX10_count_101 : decode cX10_count 101 = .ok (.getfield 33, 3) := by decide +kernel
theorem dX10_count_104 : decode cX10_count 104 = .ok (.getfield 283, 3) := by decide +kernel
theorem dX10_count_107 : decode cX10_count 107 = .ok (.ireturn, 1) := by decide +kernel
theorem dX10_count_108 : decode cX10_count 108 = .ok (.aload_n 0, 1) := by decide +kernel
theorem dX10_count_109 : decode cX10_count 109 = .ok (.getfield 33, 3) := by decide +kernel
theorem dX10_count_112 : decode cX10_count 112 = .ok (.invokevirtual 245, 3) := by decide +kernel
theorem dX10_count_115 : decode cX10_count 115 = .ok (.ireturn, 1) := by decide +kernel
theorem dX10_count_116 : decode cX10_count 116 = .ok (.aload_n 0, 1) := by decide +kernel
theorem dX10_count_117 : decode cX10_count 117 = .ok (.getfield 33, 3) := by decide +kernel
theorem dX10_count_120 : decode cX10_count 120 = .ok (.getfield 286, 3) := by decide +kernel
theorem dX10_count_123 : decode cX10_count 123 = .ok (.ireturn, 1) := by decide +kernel
theorem dX10_count_124 : decode cX10_count 124 = .ok (.aload_n 0, 1) := by decide +kernel
theorem dX10_count_125 : decode cX10_count 125 = .ok (.getfield 121, 3) := by decide +kernel
theorem dX10_count_128 : decode cX10_count 128 = .ok (.ireturn, 1) := by decide +kernel
theorem dX10_count_129 : decode cX10_count 129 = .ok (.aload_n 0, 1) := by decide +kernel
theorem dX10_count_130 : decode cX10_count 130 = .ok (.getfield 40, 3) := by decide +kernel
theorem dX10_count_133 : decode cX10_count 133 = .ok (.getfield 118, 3) := by decide +kernel
theorem dX10_count_136 : decode cX10_count 136 = .ok (.ireturn, 1) := by decide +kernel
theorem dX10_count_137 : decode cX10_count 137 = .ok (.aload_n 0, 1) := by decide +kernel
theorem dX10_count_138 : decode cX10_count 138 = .ok (.getfield 19, 3) := by decide +kernel
theorem dX10_count_141 : decode cX10_count 141 = .ok (.getfield 91, 3) := by decide +kernel
theorem dX10_count_144 : decode cX10_count 144 = .ok (.ireturn, 1) := by decide +kernel
theorem dX10_count_145 : decode cX10_count 145 = .ok (.bipush (-3), 2) := by decide +kernel
theorem dX10_count_147 : decode cX10_count 147 = .ok (.ireturn, 1) := by decide +kernel
theorem dX10_isUnknown_0 : decode cX10_isUnknown 0 = .ok (.iload_n 1, 1) := by decide +kernel
theorem dX10_isUnknown_1 : decode cX10_isUnknown 1 = .ok (.ifCond .lt 14, 3) := by decide +kernel
theorem dX10_isUnknown_4 : decode cX10_isUnknown 4 = .ok (.iload_n 1, 1) := by decide +kernel
theorem dX10_isUnknown_5 : decode cX10_isUnknown 5 = .ok (.aload_n 0, 1) := by decide +kernel
theorem dX10_isUnknown_6 : decode cX10_isUnknown 6 = .ok (.getfield 10, 3) := by decide +kernel
theorem dX10_isUnknown_9 : decode cX10_isUnknown 9 = .ok (.getfield 94, 3) := by decide +kernel
theorem dX10_isUnknown_12 : decode cX10_isUnknown 12 = .ok (.if_icmp .lt 7, 3) := by decide +kernel
theorem dX10_isUnknown_15 : decode cX10_isUnknown 15 = .ok (.iconst 1, 1) := by decide +kernel
theorem dX10_isUnknown_16 : decode cX10_isUnknown 16 = .ok (.goto 4, 3) := by decide +kernel
theorem dX10_isUnknown_19 : decode cX10_isUnknown 19 = .ok (.iconst 0, 1) := by decide +kernel
theorem dX10_isUnknown_20 : decode cX10_isUnknown 20 = .ok (.ireturn, 1) := by decide +kernel
theorem dX10_isOutside_0 : decode cX10_isOutside 0 = .ok (.iload_n 0, 1) := by decide +kernel
theorem dX10_isOutside_1 : decode cX10_isOutside 1 = .ok (.iload_n 1, 1) := by decide +kernel
theorem dX10_isOutside_2 : decode cX10_isOutside 2 = .ok (.if_icmp .lt 8, 3) := by decide +kernel
theorem dX10_isOutside_5 : decode cX10_isOutside 5 = .ok (.iload_n 0, 1) := by decide +kernel
theorem dX10_isOutside_6 : decode cX10_isOutside 6 = .ok (.iload_n 2, 1) := by decide +kernel
theorem dX10_isOutside_7 : decode cX10_isOutside 7 = .ok (.if_icmp .le 7, 3) := by decide +kernel
theorem dX10_isOutside_10 : decode cX10_isOutside 10 = .ok (.iconst 1, 1) := by decide +kernel
theorem dX10_isOutside_11 : decode cX10_isOutside 11 = .ok (.goto 4, 3) := by decide +kernel
theorem dX10_isOutside_14 : decode cX10_isOutside 14 = .ok (.iconst 0, 1) := by decide +kernel
theorem dX10_isOutside_15 : decode cX10_isOutside 15 = .ok (.ireturn, 1) := by decide +kernel
theorem dX10_isSuch_0 : decode cX10_isSuch 0 = .ok (.iload_n 1, 1) := by decide +kernel
theorem dX10_isSuch_1 : decode cX10_isSuch 1 = .ok (.istore_n 3, 1) := by decide +kernel
theorem dX10_isSuch_2 : decode cX10_isSuch 2 = .ok (.iconst 0, 1) := by decide +kernel
theorem dX10_isSuch_3 : decode cX10_isSuch 3 = .ok (.istore 4, 2) := by decide +kernel
theorem dX10_isSuch_5 : decode cX10_isSuch 5 = .ok (.iload 4, 2) := by decide +kernel
theorem dX10_isSuch_7 : decode cX10_isSuch 7 = .ok (.aload_n 0, 1) := by decide +kernel
theorem dX10_isSuch_8 : decode cX10_isSuch 8 = .ok (.arraylength, 1) := by decide +kernel
theorem dX10_isSuch_9 : decode cX10_isSuch 9 = .ok (.if_icmp .ge 32, 3) := by decide +kernel
theorem dX10_isSuch_12 : decode cX10_isSuch 12 = .ok (.iload_n 3, 1) := by decide +kernel
theorem dX10_isSuch_13 : decode cX10_isSuch 13 = .ok (.iload_n 2, 1) := by decide +kernel
theorem dX10_isSuch_14 : decode cX10_isSuch 14 = .ok (.if_icmp .ne 5, 3) := by decide +kernel
theorem dX10_isSuch_17 : decode cX10_isSuch 17 = .ok (.iconst 1, 1) := by decide +kernel
theorem dX10_isSuch_18 : decode cX10_isSuch 18 = .ok (.ireturn, 1) := by decide +kernel
theorem dX10_isSuch_19 : decode cX10_isSuch 19 = .ok (.iload_n 3, 1) := by decide +kernel
theorem dX10_isSuch_20 : decode cX10_isSuch 20 = .ok (.ifCond .lt 9, 3) := by decide +kernel
theorem dX10_isSuch_23 : decode cX10_isSuch 23 = .ok (.iload_n 3, 1) := by decide +kernel
theorem dX10_isSuch_24 : decode cX10_isSuch 24 = .ok (.aload_n 0, 1) := by decide +kernel
theorem dX10_isSuch_25 : decode cX10_isSuch 25 = .ok (.arraylength, 1) := by decide +kernel
theorem dX10_isSuch_26 : decode cX10_isSuch 26 = .ok (.if_icmp .lt 5, 3) := by decide +kernel
theorem dX10_isSuch_29 : decode cX10_isSuch 29 = .ok (.iconst 0, 1) := by decide +kernel
theorem dX10_isSuch_30 : decode cX10_isSuch 30 = .ok (.ireturn, 1) := by decide +kernel
theorem dX10_isSuch_31 : decode cX10_isSuch 31 = .ok (.aload_n 0, 1) := by decide +kernel
theorem dX10_isSuch_32 : decode cX10_isSuch 32 = .ok (.iload_n 3, 1) := by decide +kernel
theorem dX10_isSuch_33 : decode cX10_isSuch 33 = .ok (.iaload, 1) := by decide +kernel
theorem dX10_isSuch_34 : decode cX10_isSuch 34 = .ok (.istore_n 3, 1) := by decide +kernel
theorem dX10_isSuch_35 : decode cX10_isSuch 35 = .ok (.iinc 4 1, 3) := by decide +kernel
theorem dX10_isSuch_38 : decode cX10_isSuch 38 = .ok (.goto (-33), 3) := by decide +kernel
theorem dX10_isSuch_41 : decode cX10_isSuch 41 = .ok (.iconst 0, 1) := by decide +kernel
theorem dX10_isSuch_42 : decode cX10_isSuch 42 = .ok (.ireturn, 1) := by decide +kernel
theorem dX10_firstFull_0 : decode cX10_firstFull 0 = .ok (.aload_n 0, 1) := by decide +kernel
theorem dX10_firstFull_1 : decode cX10_firstFull 1 = .ok (.getfield 57, 3) := by decide +kernel
theorem dX10_firstFull_4 : decode cX10_firstFull 4 = .ok (.aload_n 0, 1) := by decide +kernel
theorem dX10_firstFull_5 : decode cX10_firstFull 5 = .ok (.getfield 33, 3) := by decide +kernel
theorem dX10_firstFull_8 : decode cX10_firstFull 8 = .ok (.bipush 99, 2) := by decide +kernel
theorem dX10_firstFull_10 : decode cX10_firstFull 10 = .ok (.invokevirtual 221, 3) := by decide +kernel
theorem dX10_firstFull_13 : decode cX10_firstFull 13 = .ok (.aload_n 0, 1) := by decide +kernel
theorem dX10_firstFull_14 : decode cX10_firstFull 14 = .ok (.getfield 57, 3) := by decide +kernel
theorem dX10_firstFull_17 : decode cX10_firstFull 17 = .ok (.aload_n 0, 1) := by decide +kernel
theorem dX10_firstFull_18 : decode cX10_firstFull 18 = .ok (.getfield 33, 3) := by decide +kernel
theorem dX10_firstFull_21 : decode cX10_firstFull 21 = .ok (.getfield 211, 3) := by decide +kernel
theorem dX10_firstFull_24 : decode cX10_firstFull 24 = .ok (.iload_n 1, 1) := by decide +kernel
theorem dX10_firstFull_25 : decode cX10_firstFull 25 = .ok (.bipush 99, 2) := by decide +kernel
theorem dX10_firstFull_27 : decode cX10_firstFull 27 = .ok (.invokevirtual 225, 3) := by decide +kernel
theorem dX10_firstFull_30 : decode cX10_firstFull 30 = .ok (.aload_n 0, 1) := by decide +kernel
theorem dX10_firstFull_31 : decode cX10_firstFull 31 = .ok (.getfield 57, 3) := by decide +kernel
theorem dX10_firstFull_34 : decode cX10_firstFull 34 = .ok (.getfield 253, 3) := by decide +kernel
theorem dX10_firstFull_37 : decode cX10_firstFull 37 = .ok (.ireturn, 1) := by decide +kernel
theorem dX10_latestSeen_0 : decode cX10_latestSeen 0 = .ok (.iconst 0, 1) := by decide +kernel
theorem dX10_latestSeen_1 : decode cX10_latestSeen 1 = .ok (.istore_n 1, 1) := by decide +kernel
theorem dX10_latestSeen_2 : decode cX10_latestSeen 2 = .ok (.iconst 0, 1) := by decide +kernel
theorem dX10_latestSeen_3 : decode cX10_latestSeen 3 = .ok (.istore_n 2, 1) := by decide +kernel
theorem dX10_latestSeen_4 : decode cX10_latestSeen 4 = .ok (.iload_n 2, 1) := by decide +kernel
theorem dX10_latestSeen_5 : decode cX10_latestSeen 5 = .ok (.aload_n 0, 1) := by decide +kernel
theorem dX10_latestSeen_6 : decode cX10_latestSeen 6 = .ok (.getfield 121, 3) := by decide +kernel
theorem dX10_latestSeen_9 : decode cX10_latestSeen 9 = .ok (.if_icmp .ge 20, 3) := by decide +kernel
theorem dX10_latestSeen_12 : decode cX10_latestSeen 12 = .ok (.iload_n 1, 1) := by decide +kernel
theorem dX10_latestSeen_13 : decode cX10_latestSeen 13 = .ok (.aload_n 0, 1) := by decide +kernel
theorem dX10_latestSeen_14 : decode cX10_latestSeen 14 = .ok (.getfield 68, 3) := by decide +kernel
theorem dX10_latestSeen_17 : decode cX10_latestSeen 17 = .ok (.iload_n 2, 1) := by decide +kernel
theorem dX10_latestSeen_18 : decode cX10_latestSeen 18 = .ok (.iaload, 1) := by decide +kernel
theorem dX10_latestSeen_19 : decode cX10_latestSeen 19 = .ok (.invokestatic 199, 3) := by decide +kernel
theorem dX10_latestSeen_22 : decode cX10_latestSeen 22 = .ok (.istore_n 1, 1) := by decide +kernel
theorem dX10_latestSeen_23 : decode cX10_latestSeen 23 = .ok (.iinc 2 1, 3) := by decide +kernel
theorem dX10_latestSeen_26 : decode cX10_latestSeen 26 = .ok (.goto (-22), 3) := by decide +kernel
theorem dX10_latestSeen_29 : decode cX10_latestSeen 29 = .ok (.iload_n 1, 1) := by decide +kernel
theorem dX10_latestSeen_30 : decode cX10_latestSeen 30 = .ok (.ireturn, 1) := by decide +kernel
theorem dX10_fitsSeen_0 : decode cX10_fitsSeen 0 = .ok (.iconst 0, 1) := by decide +kernel
theorem dX10_fitsSeen_1 : decode cX10_fitsSeen 1 = .ok (.istore_n 1, 1) := by decide +kernel
theorem dX10_fitsSeen_2 : decode cX10_fitsSeen 2 = .ok (.iload_n 1, 1) := by decide +kernel
theorem dX10_fitsSeen_3 : decode cX10_fitsSeen 3 = .ok (.aload_n 0, 1) := by decide +kernel
theorem dX10_fitsSeen_4 : decode cX10_fitsSeen 4 = .ok (.getfield 121, 3) := by decide +kernel
theorem dX10_fitsSeen_7 : decode cX10_fitsSeen 7 = .ok (.if_icmp .ge 34, 3) := by decide +kernel
theorem dX10_fitsSeen_10 : decode cX10_fitsSeen 10 = .ok (.aload_n 0, 1) := by decide +kernel
theorem dX10_fitsSeen_11 : decode cX10_fitsSeen 11 = .ok (.getfield 57, 3) := by decide +kernel
theorem dX10_fitsSeen_14 : decode cX10_fitsSeen 14 = .ok (.getfield 229, 3) := by decide +kernel
theorem dX10_fitsSeen_17 : decode cX10_fitsSeen 17 = .ok (.aload_n 0, 1) := by decide +kernel
theorem dX10_fitsSeen_18 : decode cX10_fitsSeen 18 = .ok (.getfield 68, 3) := by decide +kernel
theorem dX10_fitsSeen_21 : decode cX10_fitsSeen 21 = .ok (.iload_n 1, 1) := by decide +kernel
theorem dX10_fitsSeen_22 : decode cX10_fitsSeen 22 = .ok (.iaload, 1) := by decide +kernel
theorem dX10_fitsSeen_23 : decode cX10_fitsSeen 23 = .ok (.iaload, 1) := by decide +kernel
theorem dX10_fitsSeen_24 : decode cX10_fitsSeen 24 = .ok (.aload_n 0, 1) := by decide +kernel
theorem dX10_fitsSeen_25 : decode cX10_fitsSeen 25 = .ok (.getfield 72, 3) := by decide +kernel
theorem dX10_fitsSeen_28 : decode cX10_fitsSeen 28 = .ok (.iload_n 1, 1) := by decide +kernel
theorem dX10_fitsSeen_29 : decode cX10_fitsSeen 29 = .ok (.iaload, 1) := by decide +kernel
theorem dX10_fitsSeen_30 : decode cX10_fitsSeen 30 = .ok (.if_icmp .eq 5, 3) := by decide +kernel
theorem dX10_fitsSeen_33 : decode cX10_fitsSeen 33 = .ok (.iconst 0, 1) := by decide +kernel
theorem dX10_fitsSeen_34 : decode cX10_fitsSeen 34 = .ok (.ireturn, 1) := by decide +kernel
theorem dX10_fitsSeen_35 : decode cX10_fitsSeen 35 = .ok (.iinc 1 1, 3) := by decide +kernel
theorem dX10_fitsSeen_38 : decode cX10_fitsSeen 38 = .ok (.goto (-36), 3) := by decide +kernel
theorem dX10_fitsSeen_41 : decode cX10_fitsSeen 41 = .ok (.iconst 1, 1) := by decide +kernel
theorem dX10_fitsSeen_42 : decode cX10_fitsSeen 42 = .ok (.ireturn, 1) := by decide +kernel
theorem dX10_lostByHole_0 : decode cX10_lostByHole 0 = .ok (.iload_n 0, 1) := by decide +kernel
theorem dX10_lostByHole_1 : decode cX10_lostByHole 1 = .ok (.iload_n 1, 1) := by decide +kernel
theorem dX10_lostByHole_2 : decode cX10_lostByHole 2 = .ok (.imul, 1) := by decide +kernel
theorem dX10_lostByHole_3 : decode cX10_lostByHole 3 = .ok (.bipush 20, 2) := by decide +kernel
theorem dX10_lostByHole_5 : decode cX10_lostByHole 5 = .ok (.iadd, 1) := by decide +kernel
theorem dX10_lostByHole_6 : decode cX10_lostByHole 6 = .ok (.iconst 1, 1) := by decide +kernel
theorem dX10_lostByHole_7 : decode cX10_lostByHole 7 = .ok (.isub, 1) := by decide +kernel
theorem dX10_lostByHole_8 : decode cX10_lostByHole 8 = .ok (.bipush 20, 2) := by decide +kernel
theorem dX10_lostByHole_10 : decode cX10_lostByHole 10 = .ok (.idiv, 1) := by decide +kernel
theorem dX10_lostByHole_11 : decode cX10_lostByHole 11 = .ok (.ireturn, 1) := by decide +kernel
theorem dX10_power_0 : decode cX10_power 0 = .ok (.iconst 1, 1) := by decide +kernel
theorem dX10_power_1 : decode cX10_power 1 = .ok (.istore_n 2, 1) := by decide +kernel
theorem dX10_power_2 : decode cX10_power 2 = .ok (.iconst 0, 1) := by decide +kernel
theorem dX10_power_3 : decode cX10_power 3 = .ok (.istore_n 3, 1) := by decide +kernel
theorem dX10_power_4 : decode cX10_power 4 = .ok (.iload_n 3, 1) := by decide +kernel
theorem dX10_power_5 : decode cX10_power 5 = .ok (.iload_n 1, 1) := by decide +kernel
theorem dX10_power_6 : decode cX10_power 6 = .ok (.if_icmp .ge 13, 3) := by decide +kernel
theorem dX10_power_9 : decode cX10_power 9 = .ok (.iload_n 2, 1) := by decide +kernel
theorem dX10_power_10 : decode cX10_power 10 = .ok (.iload_n 0, 1) := by decide +kernel
theorem dX10_power_11 : decode cX10_power 11 = .ok (.imul, 1) := by decide +kernel
theorem dX10_power_12 : decode cX10_power 12 = .ok (.istore_n 2, 1) := by decide +kernel
theorem dX10_power_13 : decode cX10_power 13 = .ok (.iinc 3 1, 3) := by decide +kernel
theorem dX10_power_16 : decode cX10_power 16 = .ok (.goto (-12), 3) := by decide +kernel
theorem dX10_power_19 : decode cX10_power 19 = .ok (.iload_n 2, 1) := by decide +kernel
theorem dX10_power_20 : decode cX10_power 20 = .ok (.ireturn, 1) := by decide +kernel
theorem dX10_commonDivisor_0 : decode cX10_commonDivisor 0 = .ok (.iload_n 0, 1) := by decide +kernel
theorem dX10_commonDivisor_1 : decode cX10_commonDivisor 1 = .ok (.istore_n 2, 1) := by decide +kernel
theorem dX10_commonDivisor_2 : decode cX10_commonDivisor 2 = .ok (.iload_n 1, 1) := by decide +kernel
theorem dX10_commonDivisor_3 : decode cX10_commonDivisor 3 = .ok (.istore_n 3, 1) := by decide +kernel
theorem dX10_commonDivisor_4 : decode cX10_commonDivisor 4 = .ok (.iconst 0, 1) := by decide +kernel
theorem dX10_commonDivisor_5 : decode cX10_commonDivisor 5 = .ok (.istore 4, 2) := by decide +kernel
theorem dX10_commonDivisor_7 : decode cX10_commonDivisor 7 = .ok (.iload 4, 2) := by decide +kernel
theorem dX10_commonDivisor_9 : decode cX10_commonDivisor 9 = .ok (.bipush 64, 2) := by decide +kernel
theorem dX10_commonDivisor_11 : decode cX10_commonDivisor 11 = .ok (.if_icmp .ge 23, 3) := by decide +kernel
theorem dX10_commonDivisor_14 : decode cX10_commonDivisor 14 = .ok (.iload_n 3, 1) := by decide +kernel
theorem dX10_commonDivisor_15 : decode cX10_commonDivisor 15 = .ok (.ifCond .eq 19, 3) := by decide +kernel
theorem dX10_commonDivisor_18 : decode cX10_commonDivisor 18 = .ok (.iload_n 2, 1) := by decide +kernel
theorem dX10_commonDivisor_19 : decode cX10_commonDivisor 19 = .ok (.iload_n 3, 1) := by decide +kernel
theorem dX10_commonDivisor_20 : decode cX10_commonDivisor 20 = .ok (.irem, 1) := by decide +kernel
theorem dX10_commonDivisor_21 : decode cX10_commonDivisor 21 = .ok (.istore 5, 2) := by decide +kernel
theorem dX10_commonDivisor_23 : decode cX10_commonDivisor 23 = .ok (.iload_n 3, 1) := by decide +kernel
theorem dX10_commonDivisor_24 : decode cX10_commonDivisor 24 = .ok (.istore_n 2, 1) := by decide +kernel
theorem dX10_commonDivisor_25 : decode cX10_commonDivisor 25 = .ok (.iload 5, 2) := by decide +kernel
theorem dX10_commonDivisor_27 : decode cX10_commonDivisor 27 = .ok (.istore_n 3, 1) := by decide +kernel
theorem dX10_commonDivisor_28 : decode cX10_commonDivisor 28 = .ok (.iinc 4 1, 3) := by decide +kernel
theorem dX10_commonDivisor_31 : decode cX10_commonDivisor 31 = .ok (.goto (-24), 3) := by decide +kernel
theorem dX10_commonDivisor_34 : decode cX10_commonDivisor 34 = .ok (.iconst 1, 1) := by decide +kernel
theorem dX10_commonDivisor_35 : decode cX10_commonDivisor 35 = .ok (.iload_n 2, 1) := by decide +kernel
theorem dX10_commonDivisor_36 : decode cX10_commonDivisor 36 = .ok (.invokestatic 199, 3) := by decide +kernel
theorem dX10_commonDivisor_39 : decode cX10_commonDivisor 39 = .ok (.ireturn, 1) := by decide +kernel
theorem dX11_init_0 : decode cX11_init 0 = .ok (.aload_n 0, 1) := by decide +kernel
theorem dX11_init_1 : decode cX11_init 1 = .ok (.invokespecial 1, 3) := by decide +kernel
theorem dX11_init_4 : decode cX11_init 4 = .ok (.aload_n 0, 1) := by decide +kernel
theorem dX11_init_5 : decode cX11_init 5 = .ok (.bipush 31, 2) := by decide +kernel
theorem dX11_init_7 : decode cX11_init 7 = .ok (.newarray .int, 2) := by decide +kernel
theorem dX11_init_9 : decode cX11_init 9 = .ok (.putfield 7, 3) := by decide +kernel
theorem dX11_init_12 : decode cX11_init 12 = .ok (.aload_n 0, 1) := by decide +kernel
theorem dX11_init_13 : decode cX11_init 13 = .ok (.bipush 35, 2) := by decide +kernel
theorem dX11_init_15 : decode cX11_init 15 = .ok (.newarray .int, 2) := by decide +kernel
theorem dX11_init_17 : decode cX11_init 17 = .ok (.putfield 13, 3) := by decide +kernel
theorem dX11_init_20 : decode cX11_init 20 = .ok (.aload_n 0, 1) := by decide +kernel
theorem dX11_init_21 : decode cX11_init 21 = .ok (.sipush 160, 3) := by decide +kernel
theorem dX11_init_24 : decode cX11_init 24 = .ok (.newarray .int, 2) := by decide +kernel
theorem dX11_init_26 : decode cX11_init 26 = .ok (.putfield 16, 3) := by decide +kernel
theorem dX11_init_29 : decode cX11_init 29 = .ok (.aload_n 0, 1) := by decide +kernel
theorem dX11_init_30 : decode cX11_init 30 = .ok (.bipush 31, 2) := by decide +kernel
theorem dX11_init_32 : decode cX11_init 32 = .ok (.newarray .int, 2) := by decide +kernel
theorem dX11_init_34 : decode cX11_init 34 = .ok (.putfield 19, 3) := by decide +kernel
theorem dX11_init_37 : decode cX11_init 37 = .ok (.aload_n 0, 1) := by decide +kernel
theorem dX11_init_38 : decode cX11_init 38 = .ok (.sipush 280, 3) := by decide +kernel
theorem dX11_init_41 : decode cX11_init 41 = .ok (.newarray .int, 2) := by decide +kernel
theorem dX11_init_43 : decode cX11_init 43 = .ok (.putfield 22, 3) := by decide +kernel
theorem dX11_init_46 : decode cX11_init 46 = .ok (.aload_n 0, 1) := by decide +kernel
theorem dX11_init_47 : decode cX11_init 47 = .ok (.iconst 2, 1) := by decide +kernel
theorem dX11_init_48 : decode cX11_init 48 = .ok (.newarray .boolean, 2) := by decide +kernel
theorem dX11_init_50 : decode cX11_init 50 = .ok (.putfield 25, 3) := by decide +kernel
theorem dX11_init_53 : decode cX11_init 53 = .ok (.aload_n 0, 1) := by decide +kernel
theorem dX11_init_54 : decode cX11_init 54 = .ok (.bipush 70, 2) := by decide +kernel
theorem dX11_init_56 : decode cX11_init 56 = .ok (.newarray .int, 2) := by decide +kernel
theorem dX11_init_58 : decode cX11_init 58 = .ok (.putfield 29, 3) := by decide +kernel
theorem dX11_init_61 : decode cX11_init 61 = .ok (.aload_n 0, 1) := by decide +kernel
theorem dX11_init_62 : decode cX11_init 62 = .ok (.bipush 35, 2) := by decide +kernel
theorem dX11_init_64 : decode cX11_init 64 = .ok (.newarray .int, 2) := by decide +kernel
theorem dX11_init_66 : decode cX11_init 66 = .ok (.putfield 32, 3) := by decide +kernel
theorem dX11_init_69 : decode cX11_init 69 = .ok (.aload_n 0, 1) := by decide +kernel
theorem dX11_init_70 : decode cX11_init 70 = .ok (.iconst 5, 1) := by decide +kernel
theorem dX11_init_71 : decode cX11_init 71 = .ok (.newarray .int, 2) := by decide +kernel
theorem dX11_init_73 : decode cX11_init 73 = .ok (.putfield 35, 3) := by decide +kernel
theorem dX11_init_76 : decode cX11_init 76 = .ok (.aload_n 0, 1) := by decide +kernel
theorem dX11_init_77 : decode cX11_init 77 = .ok (.bipush 12, 2) := by decide +kernel
theorem dX11_init_79 : decode cX11_init 79 = .ok (.newarray .int, 2) := by decide +kernel
theorem dX11_init_81 : decode cX11_init 81 = .ok (.putfield 38, 3) := by decide +kernel
theorem dX11_init_84 : decode cX11_init 84 = .ok (.aload_n 0, 1) := by decide +kernel
theorem dX11_init_85 : decode cX11_init 85 = .ok (.getfield 7, 3) := by decide +kernel
theorem dX11_init_88 : decode cX11_init 88 = .ok (.invokestatic 41, 3) := by decide +kernel
theorem dX11_init_91 : decode cX11_init 91 = .ok (.aload_n 0, 1) := by decide +kernel
theorem dX11_init_92 : decode cX11_init 92 = .ok (.getfield 13, 3) := by decide +kernel
theorem dX11_init_95 : decode cX11_init 95 = .ok (.bipush 32, 2) := by decide +kernel
theorem dX11_init_97 : decode cX11_init 97 = .ok (.iconst 2, 1) := by decide +kernel
theorem dX11_init_98 : decode cX11_init 98 = .ok (.iastore, 1) := by decide +kernel
theorem dX11_init_99 : decode cX11_init 99 = .ok (.return_, 1) := by decide +kernel
theorem dX11_asAtFirst_0 : decode cX11_asAtFirst 0 = .ok (.aload_n 0, 1) := by decide +kernel
theorem dX11_asAtFirst_1 : decode cX11_asAtFirst 1 = .ok (.iconst 0, 1) := by decide +kernel
theorem dX11_asAtFirst_2 : decode cX11_asAtFirst 2 = .ok (.bipush 50, 2) := by decide +kernel
theorem dX11_asAtFirst_4 : decode cX11_asAtFirst 4 = .ok (.iastore, 1) := by decide +kernel
theorem dX11_asAtFirst_5 : decode cX11_asAtFirst 5 = .ok (.aload_n 0, 1) := by decide +kernel
theorem dX11_asAtFirst_6 : decode cX11_asAtFirst 6 = .ok (.iconst 1, 1) := by decide +kernel
theorem dX11_asAtFirst_7 : decode cX11_asAtFirst 7 = .ok (.iconst 2, 1) := by decide +kernel
theorem dX11_asAtFirst_8 : decode cX11_asAtFirst 8 = .ok (.iastore, 1) := by decide +kernel
theorem dX11_asAtFirst_9 : decode cX11_asAtFirst 9 = .ok (.aload_n 0, 1) := by decide +kernel
theorem dX11_asAtFirst_10 : decode cX11_asAtFirst 10 = .ok (.iconst 2, 1) := by decide +kernel
theorem dX11_asAtFirst_11 : decode cX11_asAtFirst 11 = .ok (.iconst (-1), 1) := by decide +kernel
theorem dX11_asAtFirst_12 : decode cX11_asAtFirst 12 = .ok (.iastore, 1) := by decide +kernel
theorem dX11_asAtFirst_13 : decode cX11_asAtFirst 13 = .ok (.aload_n 0, 1) := by decide +kernel
theorem dX11_asAtFirst_14 : decode cX11_asAtFirst 14 = .ok (.iconst 3, 1) := by decide +kernel
theorem dX11_asAtFirst_15 : decode cX11_asAtFirst 15 = .ok (.iconst (-1), 1) := by decide +kernel
theorem dX11_asAtFirst_16 : decode cX11_asAtFirst 16 = .ok (.iastore, 1) := by decide +kernel
theorem dX11_asAtFirst_17 : decode cX11_asAtFirst 17 = .ok (.aload_n 0, 1) := by decide +kernel
theorem dX11_asAtFirst_18 : decode cX11_asAtFirst 18 = .ok (.iconst 4, 1) := by decide +kernel
theorem dX11_asAtFirst_19 : decode cX11_asAtFirst 19 = .ok (.iconst 0, 1) := by decide +kernel
theorem dX11_asAtFirst_20 : decode cX11_asAtFirst 20 = .ok (.iastore, 1) := by decide +kernel
theorem dX11_asAtFirst_21 : decode cX11_asAtFirst 21 = .ok (.aload_n 0, 1) := by decide +kernel
theorem dX11_asAtFirst_22 : decode cX11_asAtFirst 22 = .ok (.iconst 5, 1) := by decide +kernel
theorem dX11_asAtFirst_23 : decode cX11_asAtFirst 23 = .ok (.iconst 3, 1) := by decide +kernel
theorem dX11_asAtFirst_24 : decode cX11_asAtFirst 24 = .ok (.iastore, 1) := by decide +kernel
theorem dX11_asAtFirst_25 : decode cX11_asAtFirst 25 = .ok (.return_, 1) := by decide +kernel
theorem dX11_in_0 : decode cX11_in 0 = .ok (.lload_n 0, 1) := by decide +kernel
theorem dX11_in_1 : decode cX11_in 1 = .ok (.lload_n 2, 1) := by decide +kernel
theorem dX11_in_2 : decode cX11_in 2 = .ok (.lcmp, 1) := by decide +kernel
theorem dX11_in_3 : decode cX11_in 3 = .ok (.ifCond .lt 14, 3) := by decide +kernel
theorem dX11_in_6 : decode cX11_in 6 = .ok (.lload_n 0, 1) := by decide +kernel
theorem dX11_in_7 : decode cX11_in 7 = .ok (.lload 4, 2) := by decide +kernel
theorem dX11_in_9 : decode cX11_in 9 = .ok (.lcmp, 1) := by decide +kernel
theorem dX11_in_10 : decode cX11_in 10 = .ok (.ifCond .gt 7, 3) := by decide +kernel
theorem dX11_in_13 : decode cX11_in 13 = .ok (.iconst 1, 1) := by decide +kernel
theorem dX11_in_14 : decode cX11_in 14 = .ok (.goto 4, 3) := by decide +kernel
theorem dX11_in_17 : decode cX11_in 17 = .ok (.iconst 0, 1) := by decide +kernel
theorem dX11_in_18 : decode cX11_in 18 = .ok (.ireturn, 1) := by decide +kernel
theorem dX11_has_0 : decode cX11_has 0 = .ok (.iload_n 0, 1) := by decide +kernel
theorem dX11_has_1 : decode cX11_has 1 = .ok (.iload_n 1, 1) := by decide +kernel
theorem dX11_has_2 : decode cX11_has 2 = .ok (.ishr, 1) := by decide +kernel
theorem dX11_has_3 : decode cX11_has 3 = .ok (.iconst 1, 1) := by decide +kernel
theorem dX11_has_4 : decode cX11_has 4 = .ok (.iand, 1) := by decide +kernel
theorem dX11_has_5 : decode cX11_has 5 = .ok (.iconst 1, 1) := by decide +kernel
theorem dX11_has_6 : decode cX11_has 6 = .ok (.if_icmp .ne 7, 3) := by decide +kernel
theorem dX11_has_9 : decode cX11_has 9 = .ok (.iconst 1, 1) := by decide +kernel
theorem dX11_has_10 : decode cX11_has 10 = .ok (.goto 4, 3) := by decide +kernel
theorem dX11_has_13 : decode cX11_has 13 = .ok (.iconst 0, 1) := by decide +kernel
theorem dX11_has_14 : decode cX11_has 14 = .ok (.ireturn, 1) := by decide +kernel
theorem dX11_ones_0 : decode cX11_ones 0 = .ok (.iconst 0, 1) := by decide +kernel
theorem dX11_ones_1 : decode cX11_ones 1 = .ok (.istore_n 1, 1) := by decide +kernel
theorem dX11_ones_2 : decode cX11_ones 2 = .ok (.iload_n 0, 1) := by decide +kernel
theorem dX11_ones_3 : decode cX11_ones 3 = .ok (.istore_n 2, 1) := by decide +kernel
theorem dX11_ones_4 : decode cX11_ones 4 = .ok (.iload_n 2, 1) := by decide +kernel
theorem dX11_ones_5 : decode cX11_ones 5 = .ok (.ifCond .eq 15, 3) := by decide +kernel
theorem dX11_ones_8 : decode cX11_ones 8 = .ok (.iinc 1 1, 3) := by decide +kernel
theorem dX11_ones_11 : decode cX11_ones 11 = .ok (.iload_n 2, 1) := by decide +kernel
theorem dX11_ones_12 : decode cX11_ones 12 = .ok (.iload_n 2, 1) := by decide +kernel
theorem dX11_ones_13 : decode cX11_ones 13 = .ok (.iconst 1, 1) := by decide +kernel
theorem dX11_ones_14 : decode cX11_ones 14 = .ok (.isub, 1) := by decide +kernel
theorem dX11_ones_15 : decode cX11_ones 15 = .ok (.iand, 1) := by decide +kernel
theorem dX11_ones_16 : decode cX11_ones 16 = .ok (.istore_n 2, 1) := by decide +kernel
theorem dX11_ones_17 : decode cX11_ones 17 = .ok (.goto (-13), 3) := by decide +kernel
theorem dX11_ones_20 : decode cX11_ones 20 = .ok (.iload_n 1, 1) := by decide +kernel
theorem dX11_ones_21 : decode cX11_ones 21 = .ok (.ireturn, 1) := by decide +kernel
theorem dX11_isSister_0 : decode cX11_isSister 0 = .ok (.iload_n 1, 1) := by decide +kernel
theorem dX11_isSister_1 : decode cX11_isSister 1 = .ok (.i2l, 1) := by decide +kernel
theorem dX11_isSister_2 : decode cX11_isSister 2 = .ok (.lconst 0, 1) := by decide +kernel
theorem dX11_isSister_3 : decode cX11_isSister 3 = .ok (.aload_n 0, 1) := by decide +kernel
theorem dX11_isSister_4 : decode cX11_isSister 4 = .ok (.getfield 45, 3) := by decide +kernel
theorem dX11_isSister_7 : decode cX11_isSister 7 = .ok (.iconst 1, 1) := by decide +kernel
theorem dX11_isSister_8 : decode cX11_isSister 8 = .ok (.isub, 1) := by decide +kernel
theorem dX11_isSister_9 : decode cX11_isSister 9 = .ok (.i2l, 1) := by decide +kernel
theorem dX11_isSister_10 : decode cX11_isSister 10 = .ok (.invokestatic 49, 3) := by decide +kernel
theorem dX11_isSister_13 : decode cX11_isSister 13 = .ok (.ireturn, 1) := by decide +kernel
theorem dX11_write_0 : decode cX11_write 0 = .ok (.iload_n 1, 1) := by decide +kernel
theorem dX11_write_1 : decode cX11_write 1 = .ok (.i2l, 1) := by decide +kernel
theorem dX11_write_2 : decode cX11_write 2 = .ok (.lconst 0, 1) := by decide +kernel
theorem dX11_write_3 : decode cX11_write 3 = .ok (.ldc2_w 53, 3) := by decide +kernel
theorem dX11_write_6 : decode cX11_write 6 = .ok (.invokestatic 49, 3) := by decide +kernel
theorem dX11_write_9 : decode cX11_write 9 = .ok (.ifCond .ne 6, 3) := by decide +kernel
theorem dX11_write_12 : decode cX11_write 12 = .ok (.bipush (-3), 2) := by decide +kernel
theorem dX11_write_14 : decode cX11_write 14 = .ok (.ireturn, 1) := by decide +kernel
theorem dX11_write_15 : decode cX11_write 15 = .ok (.aload_n 0, 1) := by decide +kernel
theorem dX11_write_16 : decode cX11_write 16 = .ok (.getfield 55, 3) := by decide +kernel
theorem dX11_write_19 : decode cX11_write 19 = .ok (.sipush 160, 3) := by decide +kernel
theorem dX11_write_22 : decode cX11_write 22 = .ok (.if_icmp .ne 6, 3) := by decide +kernel
theorem dX11_write_25 : decode cX11_write 25 = .ok (.bipush (-5), 2) := by decide +kernel
theorem dX11_write_27 : decode cX11_write 27 = .ok (.ireturn, 1) := by decide +kernel
theorem dX11_write_28 : decode cX11_write 28 = .ok (.aload_n 0, 1) := by decide +kernel
theorem dX11_write_29 : decode cX11_write 29 = .ok (.getfield 16, 3) := by decide +kernel
theorem dX11_write_32 : decode cX11_write 32 = .ok (.aload_n 0, 1) := by decide +kernel
theorem dX11_write_33 : decode cX11_write 33 = .ok (.getfield 55, 3) := by decide +kernel
theorem dX11_write_36 : decode cX11_write 36 = .ok (.iload_n 1, 1) := by decide +kernel
theorem dX11_write_37 : decode cX11_write 37 = .ok (.iastore, 1) := by decide +kernel
theorem dX11_write_38 : decode cX11_write 38 = .ok (.aload_n 0, 1) := by decide +kernel
theorem dX11_write_39 : decode cX11_write 39 = .ok (.dup, 1) := by decide +kernel
theorem dX11_write_40 : decode cX11_write 40 = .ok (.getfield 55, 3) := by decide +kernel
theorem dX11_write_43 : decode cX11_write 43 = .ok (.iconst 1, 1) := by decide +kernel
theorem dX11_write_44 : decode cX11_write 44 = .ok (.iadd, 1) := by decide +kernel
theorem dX11_write_45 : decode cX11_write 45 = .ok (.putfield 55, 3) := by decide +kernel
theorem dX11_write_48 : decode cX11_write 48 = .ok (.aload_n 0, 1) := by decide +kernel
theorem dX11_write_49 : decode cX11_write 49 = .ok (.getfield 55, 3) := by decide +kernel
theorem dX11_write_52 : decode cX11_write 52 = .ok (.ireturn, 1) := by decide +kernel
theorem dX11_erase_0 : decode cX11_erase 0 = .ok (.aload_n 0, 1) := by decide +kernel
theorem dX11_erase_1 : decode cX11_erase 1 = .ok (.getfield 55, 3) := by decide +kernel
theorem dX11_erase_4 : decode cX11_erase 4 = .ok (.istore_n 1, 1) := by decide +kernel
theorem dX11_erase_5 : decode cX11_erase 5 = .ok (.aload_n 0, 1) := by decide +kernel
theorem dX11_erase_6 : decode cX11_erase 6 = .ok (.iconst 0, 1) := by decide +kernel
theorem dX11_erase_7 : decode cX11_erase 7 = .ok (.putfield 55, 3) := by decide +kernel
theorem dX11_erase_10 : decode cX11_erase 10 = .ok (.iload_n 1, 1) := by decide +kernel
theorem dX11_erase_11 : decode cX11_erase 11 = .ok (.ireturn, 1) := by decide +kernel
theorem dX11_letterAt_0 : decode cX11_letterAt 0 = .ok (.iload_n 1, 1) := by decide +kernel
theorem dX11_letterAt_1 : decode cX11_letterAt 1 = .ok (.aload_n 0, 1) := by decide +kernel
theorem dX11_letterAt_2 : decode cX11_letterAt 2 = .ok (.getfield 55, 3) := by decide +kernel
theorem dX11_letterAt_5 : decode cX11_letterAt 5 = .ok (.if_icmp .ge 12, 3) := by decide +kernel
theorem dX11_letterAt_8 : decode cX11_letterAt 8 = .ok (.aload_n 0, 1) := by decide +kernel
theorem dX11_letterAt_9 : decode cX11_letterAt 9 = .ok (.getfield 16, 3) := by decide +kernel
theorem dX11_letterAt_12 : decode cX11_letterAt 12 = .ok (.iload_n 1, 1) := by decide +kernel
theorem dX11_letterAt_13 : decode cX11_letterAt 13 = .ok (.iaload, 1) := by decide +kernel
theorem dX11_letterAt_14 : decode cX11_letterAt 14 = .ok (.goto 4, 3) := by decide +kernel
theorem dX11_letterAt_17 : decode cX11_letterAt 17 = .ok (.iconst 0, 1) := by decide +kernel
theorem dX11_letterAt_18 : decode cX11_letterAt 18 = .ok (.ireturn, 1) := by decide +kernel
theorem dX11_nextToken_0 : decode cX11_nextToken 0 = .ok (.aload_n 0, 1) := by decide +kernel
theorem dX11_nextToken_1 : decode cX11_nextToken 1 = .ok (.aload_n 0, 1) := by decide +kernel
theorem dX11_nextToken_2 : decode cX11_nextToken 2 = .ok (.getfield 58, 3) := by decide +kernel
theorem dX11_nextToken_5 : decode cX11_nextToken 5 = .ok (.invokevirtual 61, 3) := by decide +kernel
theorem dX11_nextToken_8 : decode cX11_nextToken 8 = .ok (.bipush 32, 2) := by decide +kernel
theorem dX11_nextToken_10 : decode cX11_nextToken 10 = .ok (.if_icmp .ne 16, 3) := by decide +kernel
theorem dX11_nextToken_13 : decode cX11_nextToken 13 = .ok (.aload_n 0, 1) := by decide +kernel
theorem dX11_nextToken_14 : decode cX11_nextToken 14 = .ok (.dup, 1) := by decide +kernel
theorem dX11_nextToken_15 : decode cX11_nextToken 15 = .ok (.getfield 58, 3) := by decide +kernel
theorem dX11_nextToken_18 : decode cX11_nextToken 18 = .ok (.iconst 1, 1) := by decide +kernel
theorem dX11_nextToken_19 : decode cX11_nextToken 19 = .ok (.iadd, 1) := by decide +kernel
theorem dX11_nextToken_20 : decode cX11_nextToken 20 = .ok (.putfield 58, 3) := by decide +kernel
theorem dX11_nextToken_23 : decode cX11_nextToken 23 = .ok (.goto (-23), 3) := by decide +kernel
theorem dX11_nextToken_26 : decode cX11_nextToken 26 = .ok (.aload_n 0, 1) := by decide +kernel
theorem dX11_nextToken_27 : decode cX11_nextToken 27 = .ok (.aload_n 0, 1) := by decide +kernel
theorem dX11_nextToken_28 : decode cX11_nextToken 28 = .ok (.getfield 58, 3) := by decide +kernel
theorem dX11_nextToken_31 : decode cX11_nextToken 31 = .ok (.putfield 65, 3) := by decide +kernel
theorem dX11_nextToken_34 : decode cX11_nextToken 34 = .ok (.aload_n 0, 1) := by decide +kernel
theorem dX11_nextToken_35 : decode cX11_nextToken 35 = .ok (.iconst 0, 1) := by decide +kernel
theorem dX11_nextToken_36 : decode cX11_nextToken 36 = .ok (.putfield 68, 3) := by decide +kernel
theorem dX11_nextToken_39 : decode cX11_nextToken 39 = .ok (.aload_n 0, 1) := by decide +kernel
theorem dX11_nextToken_40 : decode cX11_nextToken 40 = .ok (.aload_n 0, 1) := by decide +kernel
theorem dX11_nextToken_41 : decode cX11_nextToken 41 = .ok (.getfield 58, 3) := by decide +kernel
theorem dX11_nextToken_44 : decode cX11_nextToken 44 = .ok (.aload_n 0, 1) := by decide +kernel
theorem dX11_nextToken_45 : decode cX11_nextToken 45 = .ok (.getfield 55, 3) := by decide +kernel
theorem dX11_nextToken_48 : decode cX11_nextToken 48 = .ok (.if_icmp .ne 7, 3) := by decide +kernel
theorem dX11_nextToken_51 : decode cX11_nextToken 51 = .ok (.iconst 3, 1) := by decide +kernel
theorem dX11_nextToken_52 : decode cX11_nextToken 52 = .ok (.goto 4, 3) := by decide +kernel
theorem dX11_nextToken_55 : decode cX11_nextToken 55 = .ok (.iconst 0, 1) := by decide +kernel
theorem dX11_nextToken_56 : decode cX11_nextToken 56 = .ok (.putfield 71, 3) := by decide +kernel
theorem dX11_nextToken_59 : decode cX11_nextToken 59 = .ok (.aload_n 0, 1) := by decide +kernel
theorem dX11_nextToken_60 : decode cX11_nextToken 60 = .ok (.getfield 71, 3) := by decide +kernel
theorem dX11_nextToken_63 : decode cX11_nextToken 63 = .ok (.iconst 2, 1) := by decide +kernel
theorem dX11_nextToken_64 : decode cX11_nextToken 64 = .ok (.if_icmp .ge 42, 3) := by decide +kernel
theorem dX11_nextToken_67 : decode cX11_nextToken 67 = .ok (.aload_n 0, 1) := by decide +kernel
theorem dX11_nextToken_68 : decode cX11_nextToken 68 = .ok (.aload_n 0, 1) := by decide +kernel
theorem dX11_nextToken_69 : decode cX11_nextToken 69 = .ok (.getfield 58, 3) := by decide +kernel
theorem dX11_nextToken_72 : decode cX11_nextToken 72 = .ok (.invokevirtual 61, 3) := by decide +kernel
theorem dX11_nextToken_75 : decode cX11_nextToken 75 = .ok (.i2l, 1) := by decide +kernel
theorem dX11_nextToken_76 : decode cX11_nextToken 76 = .ok (.ldc2_w 74, 3) := by decide +kernel
theorem dX11_nextToken_79 : decode cX11_nextToken 79 = .ok (.ldc2_w 76, 3) := by decide +kernel
theorem dX11_nextToken_82 : decode cX11_nextToken 82 = .ok (.invokestatic 49, 3) := by decide +kernel
theorem dX11_nextToken_85 : decode cX11_nextToken 85 = .ok (.ifCond .eq 21, 3) := by decide +kernel
theorem dX11_nextToken_88 : decode cX11_nextToken 88 = .ok (.aload_n 0, 1) := by decide +kernel
theorem dX11_nextToken_89 : decode cX11_nextToken 89 = .ok (.iconst 1, 1) := by decide +kernel
theorem dX11_nextToken_90 : decode cX11_nextToken 90 = .ok (.putfield 71, 3) := by decide +kernel
theorem dX11_nextToken_93 : decode cX11_nextToken 93 = .ok (.aload_n 0, 1) := by decide +kernel
theorem dX11_nextToken_94 : decode cX11_nextToken 94 = .ok (.dup, 1) := by decide +kernel
end
section
theorem dX11_nextToken_95 : decode cX11_nextToken 95 = .ok (.getfield 58, 3) := by decide +kernel
theorem dX11_nextToken_98 : decode cX11_nextToken 98 = .ok (.iconst 1, 1) := by decide +kernel
theorem dX11_nextToken_99 : decode cX11_nextToken 99 = .ok (.iadd, 1) := by decide +kernel
theorem dX11_nextToken_100 : decode cX11_nextToken 100 = .ok (.putfield 58, 3) := by decide +kernel
theorem dX11_nextToken_103 : decode cX11_nextToken 103 = .ok (.goto (-44), 3) := by decide +kernel
theorem dX11_nextToken_106 : decode cX11_nextToken 106 = .ok (.aload_n 0, 1) := by decide +kernel
theorem dX11_nextToken_107 : decode cX11_nextToken 107 = .ok (.getfield 71, 3) := by decide +kernel
theorem dX11_nextToken_110 : decode cX11_nextToken 110 = .ok (.iconst 1, 1) := by decide +kernel
theorem dX11_nextToken_111 : decode cX11_nextToken 111 = .ok (.if_icmp .eq 82, 3) := by decide +kernel
theorem dX11_nextToken_114 : decode cX11_nextToken 114 = .ok (.aload_n 0, 1) := by decide +kernel
theorem dX11_nextToken_115 : decode cX11_nextToken 115 = .ok (.aload_n 0, 1) := by decide +kernel
theorem dX11_nextToken_116 : decode cX11_nextToken 116 = .ok (.getfield 58, 3) := by decide +kernel
theorem dX11_nextToken_119 : decode cX11_nextToken 119 = .ok (.invokevirtual 61, 3) := by decide +kernel
theorem dX11_nextToken_122 : decode cX11_nextToken 122 = .ok (.i2l, 1) := by decide +kernel
theorem dX11_nextToken_123 : decode cX11_nextToken 123 = .ok (.ldc2_w 78, 3) := by decide +kernel
theorem dX11_nextToken_126 : decode cX11_nextToken 126 = .ok (.ldc2_w 80, 3) := by decide +kernel
theorem dX11_nextToken_129 : decode cX11_nextToken 129 = .ok (.invokestatic 49, 3) := by decide +kernel
theorem dX11_nextToken_132 : decode cX11_nextToken 132 = .ok (.ifCond .eq 61, 3) := by decide +kernel
theorem dX11_nextToken_135 : decode cX11_nextToken 135 = .ok (.aload_n 0, 1) := by decide +kernel
theorem dX11_nextToken_136 : decode cX11_nextToken 136 = .ok (.aload_n 0, 1) := by decide +kernel
theorem dX11_nextToken_137 : decode cX11_nextToken 137 = .ok (.getfield 68, 3) := by decide +kernel
theorem dX11_nextToken_140 : decode cX11_nextToken 140 = .ok (.bipush 99, 2) := by decide +kernel
theorem dX11_nextToken_142 : decode cX11_nextToken 142 = .ok (.if_icmp .le 10, 3) := by decide +kernel
theorem dX11_nextToken_145 : decode cX11_nextToken 145 = .ok (.aload_n 0, 1) := by decide +kernel
theorem dX11_nextToken_146 : decode cX11_nextToken 146 = .ok (.getfield 68, 3) := by decide +kernel
theorem dX11_nextToken_149 : decode cX11_nextToken 149 = .ok (.goto 23, 3) := by decide +kernel
theorem dX11_nextToken_152 : decode cX11_nextToken 152 = .ok (.bipush 10, 2) := by decide +kernel
theorem dX11_nextToken_154 : decode cX11_nextToken 154 = .ok (.aload_n 0, 1) := by decide +kernel
theorem dX11_nextToken_155 : decode cX11_nextToken 155 = .ok (.getfield 68, 3) := by decide +kernel
theorem dX11_nextToken_158 : decode cX11_nextToken 158 = .ok (.imul, 1) := by decide +kernel
theorem dX11_nextToken_159 : decode cX11_nextToken 159 = .ok (.aload_n 0, 1) := by decide +kernel
theorem dX11_nextToken_160 : decode cX11_nextToken 160 = .ok (.getfield 16, 3) := by decide +kernel
theorem dX11_nextToken_163 : decode cX11_nextToken 163 = .ok (.aload_n 0, 1) := by decide +kernel
theorem dX11_nextToken_164 : decode cX11_nextToken 164 = .ok (.getfield 58, 3) := by decide +kernel
theorem dX11_nextToken_167 : decode cX11_nextToken 167 = .ok (.iaload, 1) := by decide +kernel
theorem dX11_nextToken_168 : decode cX11_nextToken 168 = .ok (.iadd, 1) := by decide +kernel
theorem dX11_nextToken_169 : decode cX11_nextToken 169 = .ok (.bipush 48, 2) := by decide +kernel
theorem dX11_nextToken_171 : decode cX11_nextToken 171 = .ok (.isub, 1) := by decide +kernel
theorem dX11_nextToken_172 : decode cX11_nextToken 172 = .ok (.putfield 68, 3) := by decide +kernel
theorem dX11_nextToken_175 : decode cX11_nextToken 175 = .ok (.aload_n 0, 1) := by decide +kernel
theorem dX11_nextToken_176 : decode cX11_nextToken 176 = .ok (.iconst 2, 1) := by decide +kernel
theorem dX11_nextToken_177 : decode cX11_nextToken 177 = .ok (.putfield 71, 3) := by decide +kernel
theorem dX11_nextToken_180 : decode cX11_nextToken 180 = .ok (.aload_n 0, 1) := by decide +kernel
theorem dX11_nextToken_181 : decode cX11_nextToken 181 = .ok (.dup, 1) := by decide +kernel
theorem dX11_nextToken_182 : decode cX11_nextToken 182 = .ok (.getfield 58, 3) := by decide +kernel
theorem dX11_nextToken_185 : decode cX11_nextToken 185 = .ok (.iconst 1, 1) := by decide +kernel
theorem dX11_nextToken_186 : decode cX11_nextToken 186 = .ok (.iadd, 1) := by decide +kernel
theorem dX11_nextToken_187 : decode cX11_nextToken 187 = .ok (.putfield 58, 3) := by decide +kernel
theorem dX11_nextToken_190 : decode cX11_nextToken 190 = .ok (.goto (-84), 3) := by decide +kernel
theorem dX11_nextToken_193 : decode cX11_nextToken 193 = .ok (.aload_n 0, 1) := by decide +kernel
theorem dX11_nextToken_194 : decode cX11_nextToken 194 = .ok (.getfield 71, 3) := by decide +kernel
theorem dX11_nextToken_197 : decode cX11_nextToken 197 = .ok (.iconst 2, 1) := by decide +kernel
theorem dX11_nextToken_198 : decode cX11_nextToken 198 = .ok (.if_icmp .ne 23, 3) := by decide +kernel
theorem dX11_nextToken_201 : decode cX11_nextToken 201 = .ok (.aload_n 0, 1) := by decide +kernel
theorem dX11_nextToken_202 : decode cX11_nextToken 202 = .ok (.getfield 58, 3) := by decide +kernel
theorem dX11_nextToken_205 : decode cX11_nextToken 205 = .ok (.aload_n 0, 1) := by decide +kernel
theorem dX11_nextToken_206 : decode cX11_nextToken 206 = .ok (.getfield 65, 3) := by decide +kernel
theorem dX11_nextToken_209 : decode cX11_nextToken 209 = .ok (.isub, 1) := by decide +kernel
theorem dX11_nextToken_210 : decode cX11_nextToken 210 = .ok (.iconst 2, 1) := by decide +kernel
theorem dX11_nextToken_211 : decode cX11_nextToken 211 = .ok (.if_icmp .le 10, 3) := by decide +kernel
theorem dX11_nextToken_214 : decode cX11_nextToken 214 = .ok (.aload_n 0, 1) := by decide +kernel
theorem dX11_nextToken_215 : decode cX11_nextToken 215 = .ok (.sipush 999, 3) := by decide +kernel
theorem dX11_nextToken_218 : decode cX11_nextToken 218 = .ok (.putfield 68, 3) := by decide +kernel
theorem dX11_nextToken_221 : decode cX11_nextToken 221 = .ok (.aload_n 0, 1) := by decide +kernel
theorem dX11_nextToken_222 : decode cX11_nextToken 222 = .ok (.getfield 71, 3) := by decide +kernel
theorem dX11_nextToken_225 : decode cX11_nextToken 225 = .ok (.ifCond .ne 26, 3) := by decide +kernel
theorem dX11_nextToken_228 : decode cX11_nextToken 228 = .ok (.aload_n 0, 1) := by decide +kernel
theorem dX11_nextToken_229 : decode cX11_nextToken 229 = .ok (.aload_n 0, 1) := by decide +kernel
theorem dX11_nextToken_230 : decode cX11_nextToken 230 = .ok (.getfield 16, 3) := by decide +kernel
theorem dX11_nextToken_233 : decode cX11_nextToken 233 = .ok (.aload_n 0, 1) := by decide +kernel
theorem dX11_nextToken_234 : decode cX11_nextToken 234 = .ok (.getfield 58, 3) := by decide +kernel
theorem dX11_nextToken_237 : decode cX11_nextToken 237 = .ok (.iaload, 1) := by decide +kernel
theorem dX11_nextToken_238 : decode cX11_nextToken 238 = .ok (.putfield 68, 3) := by decide +kernel
theorem dX11_nextToken_241 : decode cX11_nextToken 241 = .ok (.aload_n 0, 1) := by decide +kernel
theorem dX11_nextToken_242 : decode cX11_nextToken 242 = .ok (.dup, 1) := by decide +kernel
theorem dX11_nextToken_243 : decode cX11_nextToken 243 = .ok (.getfield 58, 3) := by decide +kernel
theorem dX11_nextToken_246 : decode cX11_nextToken 246 = .ok (.iconst 1, 1) := by decide +kernel
theorem dX11_nextToken_247 : decode cX11_nextToken 247 = .ok (.iadd, 1) := by decide +kernel
theorem dX11_nextToken_248 : decode cX11_nextToken 248 = .ok (.putfield 58, 3) := by decide +kernel
theorem dX11_nextToken_251 : decode cX11_nextToken 251 = .ok (.return_, 1) := by decide +kernel
theorem dX11_wordOf_0 : decode cX11_wordOf 0 = .ok (.lconst 0, 1) := by decide +kernel
theorem dX11_wordOf_1 : decode cX11_wordOf 1 = .ok (.lstore_n 1, 1) := by decide +kernel
theorem dX11_wordOf_2 : decode cX11_wordOf 2 = .ok (.aload_n 0, 1) := by decide +kernel
theorem dX11_wordOf_3 : decode cX11_wordOf 3 = .ok (.getfield 65, 3) := by decide +kernel
theorem dX11_wordOf_6 : decode cX11_wordOf 6 = .ok (.istore_n 3, 1) := by decide +kernel
theorem dX11_wordOf_7 : decode cX11_wordOf 7 = .ok (.iload_n 3, 1) := by decide +kernel
theorem dX11_wordOf_8 : decode cX11_wordOf 8 = .ok (.aload_n 0, 1) := by decide +kernel
theorem dX11_wordOf_9 : decode cX11_wordOf 9 = .ok (.getfield 58, 3) := by decide +kernel
theorem dX11_wordOf_12 : decode cX11_wordOf 12 = .ok (.if_icmp .ge 40, 3) := by decide +kernel
theorem dX11_wordOf_15 : decode cX11_wordOf 15 = .ok (.iload_n 3, 1) := by decide +kernel
theorem dX11_wordOf_16 : decode cX11_wordOf 16 = .ok (.aload_n 0, 1) := by decide +kernel
theorem dX11_wordOf_17 : decode cX11_wordOf 17 = .ok (.getfield 65, 3) := by decide +kernel
theorem dX11_wordOf_20 : decode cX11_wordOf 20 = .ok (.bipush 9, 2) := by decide +kernel
theorem dX11_wordOf_22 : decode cX11_wordOf 22 = .ok (.iadd, 1) := by decide +kernel
theorem dX11_wordOf_23 : decode cX11_wordOf 23 = .ok (.if_icmp .ge 29, 3) := by decide +kernel
theorem dX11_wordOf_26 : decode cX11_wordOf 26 = .ok (.ldc2_w 82, 3) := by decide +kernel
theorem dX11_wordOf_29 : decode cX11_wordOf 29 = .ok (.lload_n 1, 1) := by decide +kernel
theorem dX11_wordOf_30 : decode cX11_wordOf 30 = .ok (.lmul, 1) := by decide +kernel
theorem dX11_wordOf_31 : decode cX11_wordOf 31 = .ok (.aload_n 0, 1) := by decide +kernel
theorem dX11_wordOf_32 : decode cX11_wordOf 32 = .ok (.getfield 16, 3) := by decide +kernel
theorem dX11_wordOf_35 : decode cX11_wordOf 35 = .ok (.iload_n 3, 1) := by decide +kernel
theorem dX11_wordOf_36 : decode cX11_wordOf 36 = .ok (.iaload, 1) := by decide +kernel
theorem dX11_wordOf_37 : decode cX11_wordOf 37 = .ok (.i2l, 1) := by decide +kernel
theorem dX11_wordOf_38 : decode cX11_wordOf 38 = .ok (.ladd, 1) := by decide +kernel
theorem dX11_wordOf_39 : decode cX11_wordOf 39 = .ok (.ldc2_w 74, 3) := by decide +kernel
theorem dX11_wordOf_42 : decode cX11_wordOf 42 = .ok (.lsub, 1) := by decide +kernel
theorem dX11_wordOf_43 : decode cX11_wordOf 43 = .ok (.lconst 1, 1) := by decide +kernel
theorem dX11_wordOf_44 : decode cX11_wordOf 44 = .ok (.ladd, 1) := by decide +kernel
theorem dX11_wordOf_45 : decode cX11_wordOf 45 = .ok (.lstore_n 1, 1) := by decide +kernel
theorem dX11_wordOf_46 : decode cX11_wordOf 46 = .ok (.iinc 3 1, 3) := by decide +kernel
theorem dX11_wordOf_49 : decode cX11_wordOf 49 = .ok (.goto (-42), 3) := by decide +kernel
theorem dX11_wordOf_52 : decode cX11_wordOf 52 = .ok (.aload_n 0, 1) := by decide +kernel
theorem dX11_wordOf_53 : decode cX11_wordOf 53 = .ok (.getfield 71, 3) := by decide +kernel
theorem dX11_wordOf_56 : decode cX11_wordOf 56 = .ok (.iconst 1, 1) := by decide +kernel
theorem dX11_wordOf_57 : decode cX11_wordOf 57 = .ok (.if_icmp .ne 7, 3) := by decide +kernel
theorem dX11_wordOf_60 : decode cX11_wordOf 60 = .ok (.lload_n 1, 1) := by decide +kernel
theorem dX11_wordOf_61 : decode cX11_wordOf 61 = .ok (.goto 4, 3) := by decide +kernel
theorem dX11_wordOf_64 : decode cX11_wordOf 64 = .ok (.lconst 0, 1) := by decide +kernel
theorem dX11_wordOf_65 : decode cX11_wordOf 65 = .ok (.lreturn, 1) := by decide +kernel
theorem dX11_spelt_0 : decode cX11_spelt 0 = .ok (.lconst 0, 1) := by decide +kernel
theorem dX11_spelt_1 : decode cX11_spelt 1 = .ok (.lstore 7, 2) := by decide +kernel
theorem dX11_spelt_3 : decode cX11_spelt 3 = .ok (.lload 7, 2) := by decide +kernel
theorem dX11_spelt_5 : decode cX11_spelt 5 = .ok (.ldc2_w 82, 3) := by decide +kernel
theorem dX11_spelt_8 : decode cX11_spelt 8 = .ok (.lmul, 1) := by decide +kernel
theorem dX11_spelt_9 : decode cX11_spelt 9 = .ok (.iload_n 0, 1) := by decide +kernel
theorem dX11_spelt_10 : decode cX11_spelt 10 = .ok (.ifCond .ne 7, 3) := by decide +kernel
theorem dX11_spelt_13 : decode cX11_spelt 13 = .ok (.iconst 0, 1) := by decide +kernel
theorem dX11_spelt_14 : decode cX11_spelt 14 = .ok (.goto 9, 3) := by decide +kernel
theorem dX11_spelt_17 : decode cX11_spelt 17 = .ok (.iload_n 0, 1) := by decide +kernel
theorem dX11_spelt_18 : decode cX11_spelt 18 = .ok (.bipush 97, 2) := by decide +kernel
theorem dX11_spelt_20 : decode cX11_spelt 20 = .ok (.isub, 1) := by decide +kernel
theorem dX11_spelt_21 : decode cX11_spelt 21 = .ok (.iconst 1, 1) := by decide +kernel
theorem dX11_spelt_22 : decode cX11_spelt 22 = .ok (.iadd, 1) := by decide +kernel
theorem dX11_spelt_23 : decode cX11_spelt 23 = .ok (.i2l, 1) := by decide +kernel
theorem dX11_spelt_24 : decode cX11_spelt 24 = .ok (.ladd, 1) := by decide +kernel
theorem dX11_spelt_25 : decode cX11_spelt 25 = .ok (.lstore 7, 2) := by decide +kernel
theorem dX11_spelt_27 : decode cX11_spelt 27 = .ok (.iload_n 1, 1) := by decide +kernel
theorem dX11_spelt_28 : decode cX11_spelt 28 = .ok (.ifCond .ne 8, 3) := by decide +kernel
theorem dX11_spelt_31 : decode cX11_spelt 31 = .ok (.lload 7, 2) := by decide +kernel
theorem dX11_spelt_33 : decode cX11_spelt 33 = .ok (.goto 18, 3) := by decide +kernel
theorem dX11_spelt_36 : decode cX11_spelt 36 = .ok (.lload 7, 2) := by decide +kernel
theorem dX11_spelt_38 : decode cX11_spelt 38 = .ok (.ldc2_w 82, 3) := by decide +kernel
theorem dX11_spelt_41 : decode cX11_spelt 41 = .ok (.lmul, 1) := by decide +kernel
theorem dX11_spelt_42 : decode cX11_spelt 42 = .ok (.iload_n 1, 1) := by decide +kernel
theorem dX11_spelt_43 : decode cX11_spelt 43 = .ok (.i2l, 1) := by decide +kernel
theorem dX11_spelt_44 : decode cX11_spelt 44 = .ok (.ladd, 1) := by decide +kernel
theorem dX11_spelt_45 : decode cX11_spelt 45 = .ok (.ldc2_w 74, 3) := by decide +kernel
theorem dX11_spelt_48 : decode cX11_spelt 48 = .ok (.lsub, 1) := by decide +kernel
theorem dX11_spelt_49 : decode cX11_spelt 49 = .ok (.lconst 1, 1) := by decide +kernel
theorem dX11_spelt_50 : decode cX11_spelt 50 = .ok (.ladd, 1) := by decide +kernel
theorem dX11_spelt_51 : decode cX11_spelt 51 = .ok (.lstore 7, 2) := by decide +kernel
theorem dX11_spelt_53 : decode cX11_spelt 53 = .ok (.iload_n 2, 1) := by decide +kernel
theorem dX11_spelt_54 : decode cX11_spelt 54 = .ok (.ifCond .ne 8, 3) := by decide +kernel
theorem dX11_spelt_57 : decode cX11_spelt 57 = .ok (.lload 7, 2) := by decide +kernel
theorem dX11_spelt_59 : decode cX11_spelt 59 = .ok (.goto 18, 3) := by decide +kernel
theorem dX11_spelt_62 : decode cX11_spelt 62 = .ok (.lload 7, 2) := by decide +kernel
theorem dX11_spelt_64 : decode cX11_spelt 64 = .ok (.ldc2_w 82, 3) := by decide +kernel
theorem dX11_spelt_67 : decode cX11_spelt 67 = .ok (.lmul, 1) := by decide +kernel
theorem dX11_spelt_68 : decode cX11_spelt 68 = .ok (.iload_n 2, 1) := by decide +kernel
theorem dX11_spelt_69 : decode cX11_spelt 69 = .ok (.i2l, 1) := by decide +kernel
theorem dX11_spelt_70 : decode cX11_spelt 70 = .ok (.ladd, 1) := by decide +kernel
theorem dX11_spelt_71 : decode cX11_spelt 71 = .ok (.ldc2_w 74, 3) := by decide +kernel
theorem dX11_spelt_74 : decode cX11_spelt 74 = .ok (.lsub, 1) := by decide +kernel
theorem dX11_spelt_75 : decode cX11_spelt 75 = .ok (.lconst 1, 1) := by decide +kernel
theorem dX11_spelt_76 : decode cX11_spelt 76 = .ok (.ladd, 1) := by decide +kernel
theorem dX11_spelt_77 : decode cX11_spelt 77 = .ok (.lstore 7, 2) := by decide +kernel
theorem dX11_spelt_79 : decode cX11_spelt 79 = .ok (.iload_n 3, 1) := by decide +kernel
theorem dX11_spelt_80 : decode cX11_spelt 80 = .ok (.ifCond .ne 8, 3) := by decide +kernel
theorem dX11_spelt_83 : decode cX11_spelt 83 = .ok (.lload 7, 2) := by decide +kernel
theorem dX11_spelt_85 : decode cX11_spelt 85 = .ok (.goto 18, 3) := by decide +kernel
theorem dX11_spelt_88 : decode cX11_spelt 88 = .ok (.lload 7, 2) := by decide +kernel
theorem dX11_spelt_90 : decode cX11_spelt 90 = .ok (.ldc2_w 82, 3) := by decide +kernel
theorem dX11_spelt_93 : decode cX11_spelt 93 = .ok (.lmul, 1) := by decide +kernel
theorem dX11_spelt_94 : decode cX11_spelt 94 = .ok (.iload_n 3, 1) := by decide +kernel
theorem dX11_spelt_95 : decode cX11_spelt 95 = .ok (.i2l, 1) := by decide +kernel
theorem dX11_spelt_96 : decode cX11_spelt 96 = .ok (.ladd, 1) := by decide +kernel
theorem dX11_spelt_97 : decode cX11_spelt 97 = .ok (.ldc2_w 74, 3) := by decide +kernel
theorem dX11_spelt_100 : decode cX11_spelt 100 = .ok (.lsub, 1) := by decide +kernel
theorem dX11_spelt_101 : decode cX11_spelt 101 = .ok (.lconst 1, 1) := by decide +kernel
theorem dX11_spelt_102 : decode cX11_spelt 102 = .ok (.ladd, 1) := by decide +kernel
theorem dX11_spelt_103 : decode cX11_spelt 103 = .ok (.lstore 7, 2) := by decide +kernel
theorem dX11_spelt_105 : decode cX11_spelt 105 = .ok (.iload 4, 2) := by decide +kernel
theorem dX11_spelt_107 : decode cX11_spelt 107 = .ok (.ifCond .ne 8, 3) := by decide +kernel
theorem dX11_spelt_110 : decode cX11_spelt 110 = .ok (.lload 7, 2) := by decide +kernel
theorem dX11_spelt_112 : decode cX11_spelt 112 = .ok (.goto 19, 3) := by decide +kernel
theorem dX11_spelt_115 : decode cX11_spelt 115 = .ok (.lload 7, 2) := by decide +kernel
theorem dX11_spelt_117 : decode cX11_spelt 117 = .ok (.ldc2_w 82, 3) := by decide +kernel
theorem dX11_spelt_120 : decode cX11_spelt 120 = .ok (.lmul, 1) := by decide +kernel
theorem dX11_spelt_121 : decode cX11_spelt 121 = .ok (.iload 4, 2) := by decide +kernel
theorem dX11_spelt_123 : decode cX11_spelt 123 = .ok (.i2l, 1) := by decide +kernel
theorem dX11_spelt_124 : decode cX11_spelt 124 = .ok (.ladd, 1) := by decide +kernel
theorem dX11_spelt_125 : decode cX11_spelt 125 = .ok (.ldc2_w 74, 3) := by decide +kernel
theorem dX11_spelt_128 : decode cX11_spelt 128 = .ok (.lsub, 1) := by decide +kernel
theorem dX11_spelt_129 : decode cX11_spelt 129 = .ok (.lconst 1, 1) := by decide +kernel
theorem dX11_spelt_130 : decode cX11_spelt 130 = .ok (.ladd, 1) := by decide +kernel
theorem dX11_spelt_131 : decode cX11_spelt 131 = .ok (.lstore 7, 2) := by decide +kernel
theorem dX11_spelt_133 : decode cX11_spelt 133 = .ok (.iload 5, 2) := by decide +kernel
theorem dX11_spelt_135 : decode cX11_spelt 135 = .ok (.ifCond .ne 8, 3) := by decide +kernel
theorem dX11_spelt_138 : decode cX11_spelt 138 = .ok (.lload 7, 2) := by decide +kernel
theorem dX11_spelt_140 : decode cX11_spelt 140 = .ok (.goto 19, 3) := by decide +kernel
theorem dX11_spelt_143 : decode cX11_spelt 143 = .ok (.lload 7, 2) := by decide +kernel
theorem dX11_spelt_145 : decode cX11_spelt 145 = .ok (.ldc2_w 82, 3) := by decide +kernel
theorem dX11_spelt_148 : decode cX11_spelt 148 = .ok (.lmul, 1) := by decide +kernel
theorem dX11_spelt_149 : decode cX11_spelt 149 = .ok (.iload 5, 2) := by decide +kernel
theorem dX11_spelt_151 : decode cX11_spelt 151 = .ok (.i2l, 1) := by decide +kernel
theorem dX11_spelt_152 : decode cX11_spelt 152 = .ok (.ladd, 1) := by decide +kernel
theorem dX11_spelt_153 : decode cX11_spelt 153 = .ok (.ldc2_w 74, 3) := by decide +kernel
theorem dX11_spelt_156 : decode cX11_spelt 156 = .ok (.lsub, 1) := by decide +kernel
theorem dX11_spelt_157 : decode cX11_spelt 157 = .ok (.lconst 1, 1) := by decide +kernel
theorem dX11_spelt_158 : decode cX11_spelt 158 = .ok (.ladd, 1) := by decide +kernel
theorem dX11_spelt_159 : decode cX11_spelt 159 = .ok (.lstore 7, 2) := by decide +kernel
theorem dX11_spelt_161 : decode cX11_spelt 161 = .ok (.iload 6, 2) := by decide +kernel
theorem dX11_spelt_163 : decode cX11_spelt 163 = .ok (.ifCond .ne 8, 3) := by decide +kernel
theorem dX11_spelt_166 : decode cX11_spelt 166 = .ok (.lload 7, 2) := by decide +kernel
theorem dX11_spelt_168 : decode cX11_spelt 168 = .ok (.goto 19, 3) := by decide +kernel
theorem dX11_spelt_171 : decode cX11_spelt 171 = .ok (.lload 7, 2) := by decide +kernel
theorem dX11_spelt_173 : decode cX11_spelt 173 = .ok (.ldc2_w 82, 3) := by decide +kernel
theorem dX11_spelt_176 : decode cX11_spelt 176 = .ok (.lmul, 1) := by decide +kernel
theorem dX11_spelt_177 : decode cX11_spelt 177 = .ok (.iload 6, 2) := by decide +kernel
theorem dX11_spelt_179 : decode cX11_spelt 179 = .ok (.i2l, 1) := by decide +kernel
theorem dX11_spelt_180 : decode cX11_spelt 180 = .ok (.ladd, 1) := by decide +kernel
theorem dX11_spelt_181 : decode cX11_spelt 181 = .ok (.ldc2_w 74, 3) := by decide +kernel
theorem dX11_spelt_184 : decode cX11_spelt 184 = .ok (.lsub, 1) := by decide +kernel
theorem dX11_spelt_185 : decode cX11_spelt 185 = .ok (.lconst 1, 1) := by decide +kernel
theorem dX11_spelt_186 : decode cX11_spelt 186 = .ok (.ladd, 1) := by decide +kernel
theorem dX11_spelt_187 : decode cX11_spelt 187 = .ok (.lreturn, 1) := by decide +kernel
theorem dX11_verb_0 : decode cX11_verb 0 = .ok (.aload_n 0, 1) := by decide +kernel
theorem dX11_verb_1 : decode cX11_verb 1 = .ok (.invokevirtual 84, 3) := by decide +kernel
theorem dX11_verb_4 : decode cX11_verb 4 = .ok (.lstore_n 1, 1) := by decide +kernel
theorem dX11_verb_5 : decode cX11_verb 5 = .ok (.lload_n 1, 1) := by decide +kernel
theorem dX11_verb_6 : decode cX11_verb 6 = .ok (.bipush 112, 2) := by decide +kernel
theorem dX11_verb_8 : decode cX11_verb 8 = .ok (.bipush 108, 2) := by decide +kernel
theorem dX11_verb_10 : decode cX11_verb 10 = .ok (.bipush 97, 2) := by decide +kernel
theorem dX11_verb_12 : decode cX11_verb 12 = .ok (.bipush 105, 2) := by decide +kernel
theorem dX11_verb_14 : decode cX11_verb 14 = .ok (.bipush 110, 2) := by decide +kernel
theorem dX11_verb_16 : decode cX11_verb 16 = .ok (.iconst 0, 1) := by decide +kernel
theorem dX11_verb_17 : decode cX11_verb 17 = .ok (.iconst 0, 1) := by decide +kernel
theorem dX11_verb_18 : decode cX11_verb 18 = .ok (.invokestatic 88, 3) := by decide +kernel
theorem dX11_verb_21 : decode cX11_verb 21 = .ok (.lcmp, 1) := by decide +kernel
theorem dX11_verb_22 : decode cX11_verb 22 = .ok (.ifCond .ne 5, 3) := by decide +kernel
theorem dX11_verb_25 : decode cX11_verb 25 = .ok (.iconst 0, 1) := by decide +kernel
theorem dX11_verb_26 : decode cX11_verb 26 = .ok (.ireturn, 1) := by decide +kernel
theorem dX11_verb_27 : decode cX11_verb 27 = .ok (.lload_n 1, 1) := by decide +kernel
theorem dX11_verb_28 : decode cX11_verb 28 = .ok (.bipush 114, 2) := by decide +kernel
theorem dX11_verb_30 : decode cX11_verb 30 = .ok (.bipush 117, 2) := by decide +kernel
theorem dX11_verb_32 : decode cX11_verb 32 = .ok (.bipush 110, 2) := by decide +kernel
theorem dX11_verb_34 : decode cX11_verb 34 = .ok (.bipush 110, 2) := by decide +kernel
theorem dX11_verb_36 : decode cX11_verb 36 = .ok (.bipush 101, 2) := by decide +kernel
theorem dX11_verb_38 : decode cX11_verb 38 = .ok (.bipush 114, 2) := by decide +kernel
theorem dX11_verb_40 : decode cX11_verb 40 = .ok (.iconst 0, 1) := by decide +kernel
theorem dX11_verb_41 : decode cX11_verb 41 = .ok (.invokestatic 88, 3) := by decide +kernel
theorem dX11_verb_44 : decode cX11_verb 44 = .ok (.lcmp, 1) := by decide +kernel
theorem dX11_verb_45 : decode cX11_verb 45 = .ok (.ifCond .ne 5, 3) := by decide +kernel
theorem dX11_verb_48 : decode cX11_verb 48 = .ok (.iconst 1, 1) := by decide +kernel
theorem dX11_verb_49 : decode cX11_verb 49 = .ok (.ireturn, 1) := by decide +kernel
theorem dX11_verb_50 : decode cX11_verb 50 = .ok (.lload_n 1, 1) := by decide +kernel
theorem dX11_verb_51 : decode cX11_verb 51 = .ok (.bipush 108, 2) := by decide +kernel
theorem dX11_verb_53 : decode cX11_verb 53 = .ok (.bipush 97, 2) := by decide +kernel
theorem dX11_verb_55 : decode cX11_verb 55 = .ok (.bipush 122, 2) := by decide +kernel
theorem dX11_verb_57 : decode cX11_verb 57 = .ok (.bipush 121, 2) := by decide +kernel
theorem dX11_verb_59 : decode cX11_verb 59 = .ok (.iconst 0, 1) := by decide +kernel
theorem dX11_verb_60 : decode cX11_verb 60 = .ok (.iconst 0, 1) := by decide +kernel
theorem dX11_verb_61 : decode cX11_verb 61 = .ok (.iconst 0, 1) := by decide +kernel
theorem dX11_verb_62 : decode cX11_verb 62 = .ok (.invokestatic 88, 3) := by decide +kernel
theorem dX11_verb_65 : decode cX11_verb 65 = .ok (.lcmp, 1) := by decide +kernel
theorem dX11_verb_66 : decode cX11_verb 66 = .ok (.ifCond .ne 5, 3) := by decide +kernel
theorem dX11_verb_69 : decode cX11_verb 69 = .ok (.iconst 2, 1) := by decide +kernel
theorem dX11_verb_70 : decode cX11_verb 70 = .ok (.ireturn, 1) := by decide +kernel
theorem dX11_verb_71 : decode cX11_verb 71 = .ok (.lload_n 1, 1) := by decide +kernel
theorem dX11_verb_72 : decode cX11_verb 72 = .ok (.bipush 111, 2) := by decide +kernel
theorem dX11_verb_74 : decode cX11_verb 74 = .ok (.bipush 112, 2) := by decide +kernel
theorem dX11_verb_76 : decode cX11_verb 76 = .ok (.bipush 101, 2) := by decide +kernel
theorem dX11_verb_78 : decode cX11_verb 78 = .ok (.bipush 110, 2) := by decide +kernel
theorem dX11_verb_80 : decode cX11_verb 80 = .ok (.iconst 0, 1) := by decide +kernel
theorem dX11_verb_81 : decode cX11_verb 81 = .ok (.iconst 0, 1) := by decide +kernel
theorem dX11_verb_82 : decode cX11_verb 82 = .ok (.iconst 0, 1) := by decide +kernel
theorem dX11_verb_83 : decode cX11_verb 83 = .ok (.invokestatic 88, 3) := by decide +kernel
theorem dX11_verb_86 : decode cX11_verb 86 = .ok (.lcmp, 1) := by decide +kernel
theorem dX11_verb_87 : decode cX11_verb 87 = .ok (.ifCond .ne 5, 3) := by decide +kernel
theorem dX11_verb_90 : decode cX11_verb 90 = .ok (.iconst 3, 1) := by decide +kernel
theorem dX11_verb_91 : decode cX11_verb 91 = .ok (.ireturn, 1) := by decide +kernel
theorem dX11_verb_92 : decode cX11_verb 92 = .ok (.lload_n 1, 1) := by decide +kernel
theorem dX11_verb_93 : decode cX11_verb 93 = .ok (.bipush 108, 2) := by decide +kernel
theorem dX11_verb_95 : decode cX11_verb 95 = .ok (.bipush 105, 2) := by decide +kernel
theorem dX11_verb_97 : decode cX11_verb 97 = .ok (.bipush 110, 2) := by decide +kernel
theorem dX11_verb_99 : decode cX11_verb 99 = .ok (.bipush 101, 2) := by decide +kernel
theorem dX11_verb_101 : decode cX11_verb 101 = .ok (.bipush 100, 2) := by decide +kernel
theorem dX11_verb_103 : decode cX11_verb 103 = .ok (.iconst 0, 1) := by decide +kernel
theorem dX11_verb_104 : decode cX11_verb 104 = .ok (.iconst 0, 1) := by decide +kernel
theorem dX11_verb_105 : decode cX11_verb 105 = .ok (.invokestatic 88, 3) := by decide +kernel
theorem dX11_verb_108 : decode cX11_verb 108 = .ok (.lcmp, 1) := by decide +kernel
theorem dX11_verb_109 : decode cX11_verb 109 = .ok (.ifCond .ne 5, 3) := by decide +kernel
theorem dX11_verb_112 : decode cX11_verb 112 = .ok (.iconst 4, 1) := by decide +kernel
theorem dX11_verb_113 : decode cX11_verb 113 = .ok (.ireturn, 1) := by decide +kernel
theorem dX11_verb_114 : decode cX11_verb 114 = .ok (.lload_n 1, 1) := by decide +kernel
theorem dX11_verb_115 : decode cX11_verb 115 = .ok (.bipush 100, 2) := by decide +kernel
theorem dX11_verb_117 : decode cX11_verb 117 = .ok (.bipush 111, 2) := by decide +kernel
theorem dX11_verb_119 : decode cX11_verb 119 = .ok (.bipush 117, 2) := by decide +kernel
theorem dX11_verb_121 : decode cX11_verb 121 = .ok (.bipush 98, 2) := by decide +kernel
theorem dX11_verb_123 : decode cX11_verb 123 = .ok (.bipush 108, 2) := by decide +kernel
theorem dX11_verb_125 : decode cX11_verb 125 = .ok (.bipush 101, 2) := by decide +kernel
theorem dX11_verb_127 : decode cX11_verb 127 = .ok (.bipush 100, 2) := by decide +kernel
theorem dX11_verb_129 : decode cX11_verb 129 = .ok (.invokestatic 88, 3) := by decide +kernel
theorem dX11_verb_132 : decode cX11_verb 132 = .ok (.lcmp, 1) := by decide +kernel
theorem dX11_verb_133 : decode cX11_verb 133 = .ok (.ifCond .ne 5, 3) := by decide +kernel
theorem dX11_verb_136 : decode cX11_verb 136 = .ok (.iconst 5, 1) := by decide +kernel
theorem dX11_verb_137 : decode cX11_verb 137 = .ok (.ireturn, 1) := by decide +kernel
theorem dX11_verb_138 : decode cX11_verb 138 = .ok (.lload_n 1, 1) := by decide +kernel
theorem dX11_verb_139 : decode cX11_verb 139 = .ok (.bipush 116, 2) := by decide +kernel
theorem dX11_verb_141 : decode cX11_verb 141 = .ok (.bipush 111, 2) := by decide +kernel
theorem dX11_verb_143 : decode cX11_verb 143 = .ok (.bipush 114, 2) := by decide +kernel
theorem dX11_verb_145 : decode cX11_verb 145 = .ok (.bipush 110, 2) := by decide +kernel
theorem dX11_verb_147 : decode cX11_verb 147 = .ok (.iconst 0, 1) := by decide +kernel
theorem dX11_verb_148 : decode cX11_verb 148 = .ok (.iconst 0, 1) := by decide +kernel
theorem dX11_verb_149 : decode cX11_verb 149 = .ok (.iconst 0, 1) := by decide +kernel
theorem dX11_verb_150 : decode cX11_verb 150 = .ok (.invokestatic 88, 3) := by decide +kernel
theorem dX11_verb_153 : decode cX11_verb 153 = .ok (.lcmp, 1) := by decide +kernel
theorem dX11_verb_154 : decode cX11_verb 154 = .ok (.ifCond .ne 6, 3) := by decide +kernel
theorem dX11_verb_157 : decode cX11_verb 157 = .ok (.bipush 6, 2) := by decide +kernel
theorem dX11_verb_159 : decode cX11_verb 159 = .ok (.ireturn, 1) := by decide +kernel
theorem dX11_verb_160 : decode cX11_verb 160 = .ok (.lload_n 1, 1) := by decide +kernel
theorem dX11_verb_161 : decode cX11_verb 161 = .ok (.bipush 119, 2) := by decide +kernel
theorem dX11_verb_163 : decode cX11_verb 163 = .ok (.bipush 101, 2) := by decide +kernel
theorem dX11_verb_165 : decode cX11_verb 165 = .ok (.bipush 108, 2) := by decide +kernel
theorem dX11_verb_167 : decode cX11_verb 167 = .ok (.bipush 108, 2) := by decide +kernel
theorem dX11_verb_169 : decode cX11_verb 169 = .ok (.iconst 0, 1) := by decide +kernel
theorem dX11_verb_170 : decode cX11_verb 170 = .ok (.iconst 0, 1) := by decide +kernel
theorem dX11_verb_171 : decode cX11_verb 171 = .ok (.iconst 0, 1) := by decide +kernel
theorem dX11_verb_172 : decode cX11_verb 172 = .ok (.invokestatic 88, 3) := by decide +kernel
theorem dX11_verb_175 : decode cX11_verb 175 = .ok (.lcmp, 1) := by decide +kernel
theorem dX11_verb_176 : decode cX11_verb 176 = .ok (.ifCond .ne 6, 3) := by decide +kernel
theorem dX11_verb_179 : decode cX11_verb 179 = .ok (.bipush 7, 2) := by decide +kernel
theorem dX11_verb_181 : decode cX11_verb 181 = .ok (.ireturn, 1) := by decide +kernel
theorem dX11_verb_182 : decode cX11_verb 182 = .ok (.lload_n 1, 1) := by decide +kernel
theorem dX11_verb_183 : decode cX11_verb 183 = .ok (.bipush 116, 2) := by decide +kernel
theorem dX11_verb_185 : decode cX11_verb 185 = .ok (.bipush 117, 2) := by decide +kernel
theorem dX11_verb_187 : decode cX11_verb 187 = .ok (.bipush 98, 2) := by decide +kernel
theorem dX11_verb_189 : decode cX11_verb 189 = .ok (.iconst 0, 1) := by decide +kernel
theorem dX11_verb_190 : decode cX11_verb 190 = .ok (.iconst 0, 1) := by decide +kernel
theorem dX11_verb_191 : decode cX11_verb 191 = .ok (.iconst 0, 1) := by decide +kernel
theorem dX11_verb_192 : decode cX11_verb 192 = .ok (.iconst 0, 1) := by decide +kernel
theorem dX11_verb_193 : decode cX11_verb 193 = .ok (.invokestatic 88, 3) := by decide +kernel
theorem dX11_verb_196 : decode cX11_verb 196 = .ok (.lcmp, 1) := by decide +kernel
theorem dX11_verb_197 : decode cX11_verb 197 = .ok (.ifCond .ne 6, 3) := by decide +kernel
theorem dX11_verb_200 : decode cX11_verb 200 = .ok (.bipush 8, 2) := by decide +kernel
theorem dX11_verb_202 : decode cX11_verb 202 = .ok (.ireturn, 1) := by decide +kernel
theorem dX11_verb_203 : decode cX11_verb 203 = .ok (.lload_n 1, 1) := by decide +kernel
theorem dX11_verb_204 : decode cX11_verb 204 = .ok (.bipush 104, 2) := by decide +kernel
theorem dX11_verb_206 : decode cX11_verb 206 = .ok (.bipush 111, 2) := by decide +kernel
theorem dX11_verb_208 : decode cX11_verb 208 = .ok (.bipush 108, 2) := by decide +kernel
theorem dX11_verb_210 : decode cX11_verb 210 = .ok (.bipush 101, 2) := by decide +kernel
theorem dX11_verb_212 : decode cX11_verb 212 = .ok (.iconst 0, 1) := by decide +kernel
theorem dX11_verb_213 : decode cX11_verb 213 = .ok (.iconst 0, 1) := by decide +kernel
theorem dX11_verb_214 : decode cX11_verb 214 = .ok (.iconst 0, 1) := by decide +kernel
theorem dX11_verb_215 : decode cX11_verb 215 = .ok (.invokestatic 88, 3) := by decide +kernel
theorem dX11_verb_218 : decode cX11_verb 218 = .ok (.lcmp, 1) := by decide +kernel
theorem dX11_verb_219 : decode cX11_verb 219 = .ok (.ifCond .ne 6, 3) := by decide +kernel
theorem dX11_verb_222 : decode cX11_verb 222 = .ok (.bipush 9, 2) := by decide +kernel
theorem dX11_verb_224 : decode cX11_verb 224 = .ok (.ireturn, 1) := by decide +kernel
theorem dX11_verb_225 : decode cX11_verb 225 = .ok (.lload_n 1, 1) := by decide +kernel
theorem dX11_verb_226 : decode cX11_verb 226 = .ok (.bipush 102, 2) := by decide +kernel
theorem dX11_verb_228 : decode cX11_verb 228 = .ok (.bipush 114, 2) := by decide +kernel
theorem dX11_verb_230 : decode cX11_verb 230 = .ok (.bipush 111, 2) := by decide +kernel
theorem dX11_verb_232 : decode cX11_verb 232 = .ok (.bipush 115, 2) := by decide +kernel
theorem dX11_verb_234 : decode cX11_verb 234 = .ok (.bipush 116, 2) := by decide +kernel
theorem dX11_verb_236 : decode cX11_verb 236 = .ok (.iconst 0, 1) := by decide +kernel
theorem dX11_verb_237 : decode cX11_verb 237 = .ok (.iconst 0, 1) := by decide +kernel
theorem dX11_verb_238 : decode cX11_verb 238 = .ok (.invokestatic 88, 3) := by decide +kernel
theorem dX11_verb_241 : decode cX11_verb 241 = .ok (.lcmp, 1) := by decide +kernel
theorem dX11_verb_242 : decode cX11_verb 242 = .ok (.ifCond .ne 8, 3) := by decide +kernel
theorem dX11_verb_245 : decode cX11_verb 245 = .ok (.bipush 10, 2) := by decide +kernel
theorem dX11_verb_247 : decode cX11_verb 247 = .ok (.goto 28, 3) := by decide +kernel
theorem dX11_verb_250 : decode cX11_verb 250 = .ok (.lload_n 1, 1) := by decide +kernel
theorem dX11_verb_251 : decode cX11_verb 251 = .ok (.bipush 116, 2) := by decide +kernel
theorem dX11_verb_253 : decode cX11_verb 253 = .ok (.bipush 104, 2) := by decide +kernel
theorem dX11_verb_255 : decode cX11_verb 255 = .ok (.bipush 97, 2) := by decide +kernel
theorem dX11_verb_257 : decode cX11_verb 257 = .ok (.bipush 119, 2) := by decide +kernel
theorem dX11_verb_259 : decode cX11_verb 259 = .ok (.iconst 0, 1) := by decide +kernel
theorem dX11_verb_260 : decode cX11_verb 260 = .ok (.iconst 0, 1) := by decide +kernel
theorem dX11_verb_261 : decode cX11_verb 261 = .ok (.iconst 0, 1) := by decide +kernel
theorem dX11_verb_262 : decode cX11_verb 262 = .ok (.invokestatic 88, 3) := by decide +kernel
theorem dX11_verb_265 : decode cX11_verb 265 = .ok (.lcmp, 1) := by decide +kernel
theorem dX11_verb_266 : decode cX11_verb 266 = .ok (.ifCond .ne 8, 3) := by decide +kernel
theorem dX11_verb_269 : decode cX11_verb 269 = .ok (.bipush 11, 2) := by decide +kernel
theorem dX11_verb_271 : decode cX11_verb 271 = .ok (.goto 4, 3) := by decide +kernel
theorem dX11_verb_274 : decode cX11_verb 274 = .ok (.iconst (-1), 1) := by decide +kernel
theorem dX11_verb_275 : decode cX11_verb 275 = .ok (.ireturn, 1) := by decide +kernel
theorem dX11_number_0 : decode cX11_number 0 = .ok (.aload_n 0, 1) := by decide +kernel
theorem dX11_number_1 : decode cX11_number 1 = .ok (.invokevirtual 92, 3) := by decide +kernel
theorem dX11_number_4 : decode cX11_number 4 = .ok (.aload_n 0, 1) := by decide +kernel
theorem dX11_number_5 : decode cX11_number 5 = .ok (.getfield 71, 3) := by decide +kernel
theorem dX11_number_8 : decode cX11_number 8 = .ok (.iconst 2, 1) := by decide +kernel
theorem dX11_number_9 : decode cX11_number 9 = .ok (.if_icmp .ne 25, 3) := by decide +kernel
theorem dX11_number_12 : decode cX11_number 12 = .ok (.aload_n 0, 1) := by decide +kernel
theorem dX11_number_13 : decode cX11_number 13 = .ok (.getfield 68, 3) := by decide +kernel
theorem dX11_number_16 : decode cX11_number 16 = .ok (.i2l, 1) := by decide +kernel
theorem dX11_number_17 : decode cX11_number 17 = .ok (.iload_n 1, 1) := by decide +kernel
theorem dX11_number_18 : decode cX11_number 18 = .ok (.i2l, 1) := by decide +kernel
theorem dX11_number_19 : decode cX11_number 19 = .ok (.iload_n 2, 1) := by decide +kernel
theorem dX11_number_20 : decode cX11_number 20 = .ok (.i2l, 1) := by decide +kernel
theorem dX11_number_21 : decode cX11_number 21 = .ok (.invokestatic 49, 3) := by decide +kernel
theorem dX11_number_24 : decode cX11_number 24 = .ok (.ifCond .eq 10, 3) := by decide +kernel
theorem dX11_number_27 : decode cX11_number 27 = .ok (.aload_n 0, 1) := by decide +kernel
theorem dX11_number_28 : decode cX11_number 28 = .ok (.getfield 68, 3) := by decide +kernel
theorem dX11_number_31 : decode cX11_number 31 = .ok (.goto 4, 3) := by decide +kernel
theorem dX11_number_34 : decode cX11_number 34 = .ok (.iconst (-1), 1) := by decide +kernel
theorem dX11_number_35 : decode cX11_number 35 = .ok (.ireturn, 1) := by decide +kernel
theorem dX11_readSister_0 : decode cX11_readSister 0 = .ok (.aload_n 0, 1) := by decide +kernel
theorem dX11_readSister_1 : decode cX11_readSister 1 = .ok (.getfield 95, 3) := by decide +kernel
theorem dX11_readSister_4 : decode cX11_readSister 4 = .ok (.iconst 5, 1) := by decide +kernel
theorem dX11_readSister_5 : decode cX11_readSister 5 = .ok (.if_icmp .ne 5, 3) := by decide +kernel
theorem dX11_readSister_8 : decode cX11_readSister 8 = .ok (.iconst 0, 1) := by decide +kernel
theorem dX11_readSister_9 : decode cX11_readSister 9 = .ok (.ireturn, 1) := by decide +kernel
theorem dX11_readSister_10 : decode cX11_readSister 10 = .ok (.aload_n 0, 1) := by decide +kernel
theorem dX11_readSister_11 : decode cX11_readSister 11 = .ok (.iconst 1, 1) := by decide +kernel
theorem dX11_readSister_12 : decode cX11_readSister 12 = .ok (.bipush 6, 2) := by decide +kernel
theorem dX11_readSister_14 : decode cX11_readSister 14 = .ok (.invokevirtual 98, 3) := by decide +kernel
theorem dX11_readSister_17 : decode cX11_readSister 17 = .ok (.istore_n 2, 1) := by decide +kernel
theorem dX11_readSister_18 : decode cX11_readSister 18 = .ok (.iload_n 2, 1) := by decide +kernel
theorem dX11_readSister_19 : decode cX11_readSister 19 = .ok (.ifCond .ge 7, 3) := by decide +kernel
theorem dX11_readSister_22 : decode cX11_readSister 22 = .ok (.iconst (-1), 1) := by decide +kernel
theorem dX11_readSister_23 : decode cX11_readSister 23 = .ok (.goto 10, 3) := by decide +kernel
theorem dX11_readSister_26 : decode cX11_readSister 26 = .ok (.aload_n 0, 1) := by decide +kernel
theorem dX11_readSister_27 : decode cX11_readSister 27 = .ok (.iconst 1, 1) := by decide +kernel
theorem dX11_readSister_28 : decode cX11_readSister 28 = .ok (.bipush 40, 2) := by decide +kernel
theorem dX11_readSister_30 : decode cX11_readSister 30 = .ok (.invokevirtual 98, 3) := by decide +kernel
theorem dX11_readSister_33 : decode cX11_readSister 33 = .ok (.istore_n 3, 1) := by decide +kernel
theorem dX11_readSister_34 : decode cX11_readSister 34 = .ok (.iload_n 3, 1) := by decide +kernel
theorem dX11_readSister_35 : decode cX11_readSister 35 = .ok (.ifCond .ge 5, 3) := by decide +kernel
theorem dX11_readSister_38 : decode cX11_readSister 38 = .ok (.iconst 0, 1) := by decide +kernel
theorem dX11_readSister_39 : decode cX11_readSister 39 = .ok (.ireturn, 1) := by decide +kernel
theorem dX11_readSister_40 : decode cX11_readSister 40 = .ok (.bipush 6, 2) := by decide +kernel
theorem dX11_readSister_42 : decode cX11_readSister 42 = .ok (.iconst 5, 1) := by decide +kernel
theorem dX11_readSister_43 : decode cX11_readSister 43 = .ok (.aload_n 0, 1) := by decide +kernel
theorem dX11_readSister_44 : decode cX11_readSister 44 = .ok (.getfield 95, 3) := by decide +kernel
theorem dX11_readSister_47 : decode cX11_readSister 47 = .ok (.imul, 1) := by decide +kernel
theorem dX11_readSister_48 : decode cX11_readSister 48 = .ok (.iadd, 1) := by decide +kernel
theorem dX11_readSister_49 : decode cX11_readSister 49 = .ok (.istore 4, 2) := by decide +kernel
theorem dX11_readSister_51 : decode cX11_readSister 51 = .ok (.aload_n 0, 1) := by decide +kernel
theorem dX11_readSister_52 : decode cX11_readSister 52 = .ok (.getfield 19, 3) := by decide +kernel
theorem dX11_readSister_55 : decode cX11_readSister 55 = .ok (.iload 4, 2) := by decide +kernel
theorem dX11_readSister_57 : decode cX11_readSister 57 = .ok (.iload_n 1, 1) := by decide +kernel
theorem dX11_readSister_58 : decode cX11_readSister 58 = .ok (.iastore, 1) := by decide +kernel
theorem dX11_readSister_59 : decode cX11_readSister 59 = .ok (.aload_n 0, 1) := by decide +kernel
theorem dX11_readSister_60 : decode cX11_readSister 60 = .ok (.getfield 19, 3) := by decide +kernel
theorem dX11_readSister_63 : decode cX11_readSister 63 = .ok (.iload 4, 2) := by decide +kernel
theorem dX11_readSister_65 : decode cX11_readSister 65 = .ok (.iconst 1, 1) := by decide +kernel
theorem dX11_readSister_66 : decode cX11_readSister 66 = .ok (.iadd, 1) := by decide +kernel
theorem dX11_readSister_67 : decode cX11_readSister 67 = .ok (.iload_n 2, 1) := by decide +kernel
theorem dX11_readSister_68 : decode cX11_readSister 68 = .ok (.iastore, 1) := by decide +kernel
theorem dX11_readSister_69 : decode cX11_readSister 69 = .ok (.aload_n 0, 1) := by decide +kernel
theorem dX11_readSister_70 : decode cX11_readSister 70 = .ok (.getfield 19, 3) := by decide +kernel
theorem dX11_readSister_73 : decode cX11_readSister 73 = .ok (.iload 4, 2) := by decide +kernel
theorem dX11_readSister_75 : decode cX11_readSister 75 = .ok (.iconst 2, 1) := by decide +kernel
theorem dX11_readSister_76 : decode cX11_readSister 76 = .ok (.iadd, 1) := by decide +kernel
theorem dX11_readSister_77 : decode cX11_readSister 77 = .ok (.iload_n 3, 1) := by decide +kernel
theorem dX11_readSister_78 : decode cX11_readSister 78 = .ok (.iastore, 1) := by decide +kernel
theorem dX11_readSister_79 : decode cX11_readSister 79 = .ok (.aload_n 0, 1) := by decide +kernel
theorem dX11_readSister_80 : decode cX11_readSister 80 = .ok (.getfield 19, 3) := by decide +kernel
theorem dX11_readSister_83 : decode cX11_readSister 83 = .ok (.iload 4, 2) := by decide +kernel
theorem dX11_readSister_85 : decode cX11_readSister 85 = .ok (.iconst 3, 1) := by decide +kernel
theorem dX11_readSister_86 : decode cX11_readSister 86 = .ok (.iadd, 1) := by decide +kernel
theorem dX11_readSister_87 : decode cX11_readSister 87 = .ok (.aload_n 0, 1) := by decide +kernel
theorem dX11_readSister_88 : decode cX11_readSister 88 = .ok (.getfield 19, 3) := by decide +kernel
theorem dX11_readSister_91 : decode cX11_readSister 91 = .ok (.iconst 4, 1) := by decide +kernel
theorem dX11_readSister_92 : decode cX11_readSister 92 = .ok (.iaload, 1) := by decide +kernel
theorem dX11_readSister_93 : decode cX11_readSister 93 = .ok (.iastore, 1) := by decide +kernel
theorem dX11_readSister_94 : decode cX11_readSister 94 = .ok (.aload_n 0, 1) := by decide +kernel
theorem dX11_readSister_95 : decode cX11_readSister 95 = .ok (.getfield 19, 3) := by decide +kernel
theorem dX11_readSister_98 : decode cX11_readSister 98 = .ok (.iload 4, 2) := by decide +kernel
theorem dX11_readSister_100 : decode cX11_readSister 100 = .ok (.iconst 4, 1) := by decide +kernel
theorem dX11_readSister_101 : decode cX11_readSister 101 = .ok (.iadd, 1) := by decide +kernel
theorem dX11_readSister_102 : decode cX11_readSister 102 = .ok (.aload_n 0, 1) := by decide +kernel
theorem dX11_readSister_103 : decode cX11_readSister 103 = .ok (.getfield 19, 3) := by decide +kernel
theorem dX11_readSister_106 : decode cX11_readSister 106 = .ok (.iconst 5, 1) := by decide +kernel
theorem dX11_readSister_107 : decode cX11_readSister 107 = .ok (.iaload, 1) := by decide +kernel
theorem dX11_readSister_108 : decode cX11_readSister 108 = .ok (.iastore, 1) := by decide +kernel
theorem dX11_readSister_109 : decode cX11_readSister 109 = .ok (.aload_n 0, 1) := by decide +kernel
theorem dX11_readSister_110 : decode cX11_readSister 110 = .ok (.dup, 1) := by decide +kernel
theorem dX11_readSister_111 : decode cX11_readSister 111 = .ok (.getfield 95, 3) := by decide +kernel
theorem dX11_readSister_114 : decode cX11_readSister 114 = .ok (.iconst 1, 1) := by decide +kernel
theorem dX11_readSister_115 : decode cX11_readSister 115 = .ok (.iadd, 1) := by decide +kernel
theorem dX11_readSister_116 : decode cX11_readSister 116 = .ok (.putfield 95, 3) := by decide +kernel
theorem dX11_readSister_119 : decode cX11_readSister 119 = .ok (.iconst 1, 1) := by decide +kernel
theorem dX11_readSister_120 : decode cX11_readSister 120 = .ok (.ireturn, 1) := by decide +kernel
theorem dX11_takes_0 : decode cX11_takes 0 = .ok (.aload_n 0, 1) := by decide +kernel
theorem dX11_takes_1 : decode cX11_takes 1 = .ok (.iload_n 2, 1) := by decide +kernel
theorem dX11_takes_2 : decode cX11_takes 2 = .ok (.iload_n 3, 1) := by decide +kernel
theorem dX11_takes_3 : decode cX11_takes 3 = .ok (.invokevirtual 98, 3) := by decide +kernel
theorem dX11_takes_6 : decode cX11_takes 6 = .ok (.istore 4, 2) := by decide +kernel
theorem dX11_takes_8 : decode cX11_takes 8 = .ok (.aload_n 0, 1) := by decide +kernel
theorem dX11_takes_9 : decode cX11_takes 9 = .ok (.getfield 19, 3) := by decide +kernel
theorem dX11_takes_12 : decode cX11_takes 12 = .ok (.iload_n 1, 1) := by decide +kernel
theorem dX11_takes_13 : decode cX11_takes 13 = .ok (.iload 4, 2) := by decide +kernel
theorem dX11_takes_15 : decode cX11_takes 15 = .ok (.ifCond .ge 12, 3) := by decide +kernel
theorem dX11_takes_18 : decode cX11_takes 18 = .ok (.aload_n 0, 1) := by decide +kernel
theorem dX11_takes_19 : decode cX11_takes 19 = .ok (.getfield 19, 3) := by decide +kernel
theorem dX11_takes_22 : decode cX11_takes 22 = .ok (.iload_n 1, 1) := by decide +kernel
theorem dX11_takes_23 : decode cX11_takes 23 = .ok (.iaload, 1) := by decide +kernel
theorem dX11_takes_24 : decode cX11_takes 24 = .ok (.goto 5, 3) := by decide +kernel
theorem dX11_takes_27 : decode cX11_takes 27 = .ok (.iload 4, 2) := by decide +kernel
theorem dX11_takes_29 : decode cX11_takes 29 = .ok (.iastore, 1) := by decide +kernel
theorem dX11_takes_30 : decode cX11_takes 30 = .ok (.iload 4, 2) := by decide +kernel
theorem dX11_takes_32 : decode cX11_takes 32 = .ok (.ifCond .lt 7, 3) := by decide +kernel
theorem dX11_takes_35 : decode cX11_takes 35 = .ok (.iconst 1, 1) := by decide +kernel
theorem dX11_takes_36 : decode cX11_takes 36 = .ok (.goto 4, 3) := by decide +kernel
theorem dX11_takes_39 : decode cX11_takes 39 = .ok (.iconst 0, 1) := by decide +kernel
theorem dX11_takes_40 : decode cX11_takes 40 = .ok (.ireturn, 1) := by decide +kernel
theorem dX11_readClause_0 : decode cX11_readClause 0 = .ok (.aload_n 0, 1) := by decide +kernel
theorem dX11_readClause_1 : decode cX11_readClause 1 = .ok (.invokevirtual 102, 3) := by decide +kernel
theorem dX11_readClause_4 : decode cX11_readClause 4 = .ok (.istore_n 1, 1) := by decide +kernel
theorem dX11_readClause_5 : decode cX11_readClause 5 = .ok (.iload_n 1, 1) := by decide +kernel
theorem dX11_readClause_6 : decode cX11_readClause 6 = .ok (.ifCond .ge 5, 3) := by decide +kernel
theorem dX11_readClause_9 : decode cX11_readClause 9 = .ok (.iconst 0, 1) := by decide +kernel
theorem dX11_readClause_10 : decode cX11_readClause 10 = .ok (.ireturn, 1) := by decide +kernel
theorem dX11_readClause_11 : decode cX11_readClause 11 = .ok (.iload_n 1, 1) := by decide +kernel
theorem dX11_readClause_12 : decode cX11_readClause 12 = .ok (.iconst 3, 1) := by decide +kernel
theorem dX11_readClause_13 : decode cX11_readClause 13 = .ok (.if_icmp .ge 9, 3) := by decide +kernel
theorem dX11_readClause_16 : decode cX11_readClause 16 = .ok (.aload_n 0, 1) := by decide +kernel
theorem dX11_readClause_17 : decode cX11_readClause 17 = .ok (.iload_n 1, 1) := by decide +kernel
theorem dX11_readClause_18 : decode cX11_readClause 18 = .ok (.invokevirtual 106, 3) := by decide +kernel
theorem dX11_readClause_21 : decode cX11_readClause 21 = .ok (.ireturn, 1) := by decide +kernel
theorem dX11_readClause_22 : decode cX11_readClause 22 = .ok (.iload_n 1, 1) := by decide +kernel
theorem dX11_readClause_23 : decode cX11_readClause 23 = .ok (.bipush 7, 2) := by decide +kernel
theorem dX11_readClause_25 : decode cX11_readClause 25 = .ok (.if_icmp .ge 21, 3) := by decide +kernel
theorem dX11_readClause_28 : decode cX11_readClause 28 = .ok (.aload_n 0, 1) := by decide +kernel
theorem dX11_readClause_29 : decode cX11_readClause 29 = .ok (.getfield 19, 3) := by decide +kernel
theorem dX11_readClause_32 : decode cX11_readClause 32 = .ok (.iconst 4, 1) := by decide +kernel
theorem dX11_readClause_33 : decode cX11_readClause 33 = .ok (.iload_n 1, 1) := by decide +kernel
theorem dX11_readClause_34 : decode cX11_readClause 34 = .ok (.iconst 3, 1) := by decide +kernel
theorem dX11_readClause_35 : decode cX11_readClause 35 = .ok (.isub, 1) := by decide +kernel
theorem dX11_readClause_36 : decode cX11_readClause 36 = .ok (.iastore, 1) := by decide +kernel
theorem dX11_readClause_37 : decode cX11_readClause 37 = .ok (.aload_n 0, 1) := by decide +kernel
theorem dX11_readClause_38 : decode cX11_readClause 38 = .ok (.iconst 5, 1) := by decide +kernel
theorem dX11_readClause_39 : decode cX11_readClause 39 = .ok (.iconst 0, 1) := by decide +kernel
theorem dX11_readClause_40 : decode cX11_readClause 40 = .ok (.bipush 9, 2) := by decide +kernel
theorem dX11_readClause_42 : decode cX11_readClause 42 = .ok (.invokevirtual 110, 3) := by decide +kernel
theorem dX11_readClause_45 : decode cX11_readClause 45 = .ok (.ireturn, 1) := by decide +kernel
theorem dX11_readClause_46 : decode cX11_readClause 46 = .ok (.iload_n 1, 1) := by decide +kernel
theorem dX11_readClause_47 : decode cX11_readClause 47 = .ok (.bipush 7, 2) := by decide +kernel
theorem dX11_readClause_49 : decode cX11_readClause 49 = .ok (.if_icmp .ne 17, 3) := by decide +kernel
theorem dX11_readClause_52 : decode cX11_readClause 52 = .ok (.aload_n 0, 1) := by decide +kernel
theorem dX11_readClause_53 : decode cX11_readClause 53 = .ok (.getfield 19, 3) := by decide +kernel
theorem dX11_readClause_56 : decode cX11_readClause 56 = .ok (.invokestatic 41, 3) := by decide +kernel
theorem dX11_readClause_59 : decode cX11_readClause 59 = .ok (.aload_n 0, 1) := by decide +kernel
theorem dX11_readClause_60 : decode cX11_readClause 60 = .ok (.iconst 0, 1) := by decide +kernel
theorem dX11_readClause_61 : decode cX11_readClause 61 = .ok (.putfield 95, 3) := by decide +kernel
theorem dX11_readClause_64 : decode cX11_readClause 64 = .ok (.iconst 1, 1) := by decide +kernel
theorem dX11_readClause_65 : decode cX11_readClause 65 = .ok (.ireturn, 1) := by decide +kernel
theorem dX11_readClause_66 : decode cX11_readClause 66 = .ok (.iload_n 1, 1) := by decide +kernel
theorem dX11_readClause_67 : decode cX11_readClause 67 = .ok (.bipush 8, 2) := by decide +kernel
theorem dX11_readClause_69 : decode cX11_readClause 69 = .ok (.if_icmp .ne 12, 3) := by decide +kernel
theorem dX11_readClause_72 : decode cX11_readClause 72 = .ok (.aload_n 0, 1) := by decide +kernel
theorem dX11_readClause_73 : decode cX11_readClause 73 = .ok (.iconst 0, 1) := by decide +kernel
theorem dX11_readClause_74 : decode cX11_readClause 74 = .ok (.iconst 1, 1) := by decide +kernel
theorem dX11_readClause_75 : decode cX11_readClause 75 = .ok (.bipush 99, 2) := by decide +kernel
theorem dX11_readClause_77 : decode cX11_readClause 77 = .ok (.invokevirtual 110, 3) := by decide +kernel
theorem dX11_readClause_80 : decode cX11_readClause 80 = .ok (.ireturn, 1) := by decide +kernel
theorem dX11_readClause_81 : decode cX11_readClause 81 = .ok (.iload_n 1, 1) := by decide +kernel
theorem dX11_readClause_82 : decode cX11_readClause 82 = .ok (.bipush 9, 2) := by decide +kernel
theorem dX11_readClause_84 : decode cX11_readClause 84 = .ok (.if_icmp .ne 12, 3) := by decide +kernel
theorem dX11_readClause_87 : decode cX11_readClause 87 = .ok (.aload_n 0, 1) := by decide +kernel
theorem dX11_readClause_88 : decode cX11_readClause 88 = .ok (.iconst 1, 1) := by decide +kernel
theorem dX11_readClause_89 : decode cX11_readClause 89 = .ok (.iconst 0, 1) := by decide +kernel
theorem dX11_readClause_90 : decode cX11_readClause 90 = .ok (.bipush 9, 2) := by decide +kernel
theorem dX11_readClause_92 : decode cX11_readClause 92 = .ok (.invokevirtual 110, 3) := by decide +kernel
theorem dX11_readClause_95 : decode cX11_readClause 95 = .ok (.ireturn, 1) := by decide +kernel
theorem dX11_readClause_96 : decode cX11_readClause 96 = .ok (.iload_n 1, 1) := by decide +kernel
theorem dX11_readClause_97 : decode cX11_readClause 97 = .ok (.bipush 10, 2) := by decide +kernel
theorem dX11_readClause_99 : decode cX11_readClause 99 = .ok (.if_icmp .ne 36, 3) := by decide +kernel
theorem dX11_readClause_102 : decode cX11_readClause 102 = .ok (.aload_n 0, 1) := by decide +kernel
theorem dX11_readClause_103 : decode cX11_readClause 103 = .ok (.iconst 2, 1) := by decide +kernel
theorem dX11_readClause_104 : decode cX11_readClause 104 = .ok (.iconst 0, 1) := by decide +kernel
theorem dX11_readClause_105 : decode cX11_readClause 105 = .ok (.bipush 99, 2) := by decide +kernel
theorem dX11_readClause_107 : decode cX11_readClause 107 = .ok (.invokevirtual 110, 3) := by decide +kernel
theorem dX11_readClause_110 : decode cX11_readClause 110 = .ok (.ifCond .eq 23, 3) := by decide +kernel
theorem dX11_readClause_113 : decode cX11_readClause 113 = .ok (.aload_n 0, 1) := by decide +kernel
theorem dX11_readClause_114 : decode cX11_readClause 114 = .ok (.iconst 3, 1) := by decide +kernel
theorem dX11_readClause_115 : decode cX11_readClause 115 = .ok (.aload_n 0, 1) := by decide +kernel
theorem dX11_readClause_116 : decode cX11_readClause 116 = .ok (.getfield 19, 3) := by decide +kernel
theorem dX11_readClause_119 : decode cX11_readClause 119 = .ok (.iconst 2, 1) := by decide +kernel
theorem dX11_readClause_120 : decode cX11_readClause 120 = .ok (.iaload, 1) := by decide +kernel
theorem dX11_readClause_121 : decode cX11_readClause 121 = .ok (.bipush 99, 2) := by decide +kernel
theorem dX11_readClause_123 : decode cX11_readClause 123 = .ok (.invokevirtual 110, 3) := by decide +kernel
theorem dX11_readClause_126 : decode cX11_readClause 126 = .ok (.ifCond .eq 7, 3) := by decide +kernel
theorem dX11_readClause_129 : decode cX11_readClause 129 = .ok (.iconst 1, 1) := by decide +kernel
theorem dX11_readClause_130 : decode cX11_readClause 130 = .ok (.goto 4, 3) := by decide +kernel
theorem dX11_readClause_133 : decode cX11_readClause 133 = .ok (.iconst 0, 1) := by decide +kernel
theorem dX11_readClause_134 : decode cX11_readClause 134 = .ok (.ireturn, 1) := by decide +kernel
theorem dX11_readClause_135 : decode cX11_readClause 135 = .ok (.aload_n 0, 1) := by decide +kernel
theorem dX11_readClause_136 : decode cX11_readClause 136 = .ok (.getfield 19, 3) := by decide +kernel
theorem dX11_readClause_139 : decode cX11_readClause 139 = .ok (.iconst 2, 1) := by decide +kernel
theorem dX11_readClause_140 : decode cX11_readClause 140 = .ok (.iconst (-1), 1) := by decide +kernel
theorem dX11_readClause_141 : decode cX11_readClause 141 = .ok (.iastore, 1) := by decide +kernel
theorem dX11_readClause_142 : decode cX11_readClause 142 = .ok (.aload_n 0, 1) := by decide +kernel
theorem dX11_readClause_143 : decode cX11_readClause 143 = .ok (.getfield 19, 3) := by decide +kernel
theorem dX11_readClause_146 : decode cX11_readClause 146 = .ok (.iconst 3, 1) := by decide +kernel
theorem dX11_readClause_147 : decode cX11_readClause 147 = .ok (.iconst (-1), 1) := by decide +kernel
theorem dX11_readClause_148 : decode cX11_readClause 148 = .ok (.iastore, 1) := by decide +kernel
theorem dX11_readClause_149 : decode cX11_readClause 149 = .ok (.iconst 1, 1) := by decide +kernel
theorem dX11_readClause_150 : decode cX11_readClause 150 = .ok (.ireturn, 1) := by decide +kernel
theorem dX11_readText_0 : decode cX11_readText 0 = .ok (.aload_n 0, 1) := by decide +kernel
theorem dX11_readText_1 : decode cX11_readText 1 = .ok (.iconst 0, 1) := by decide +kernel
theorem dX11_readText_2 : decode cX11_readText 2 = .ok (.putfield 58, 3) := by decide +kernel
theorem dX11_readText_5 : decode cX11_readText 5 = .ok (.aload_n 0, 1) := by decide +kernel
theorem dX11_readText_6 : decode cX11_readText 6 = .ok (.iconst 0, 1) := by decide +kernel
theorem dX11_readText_7 : decode cX11_readText 7 = .ok (.putfield 114, 3) := by decide +kernel
theorem dX11_readText_10 : decode cX11_readText 10 = .ok (.aload_n 0, 1) := by decide +kernel
theorem dX11_readText_11 : decode cX11_readText 11 = .ok (.aload_n 0, 1) := by decide +kernel
theorem dX11_readText_12 : decode cX11_readText 12 = .ok (.getfield 45, 3) := by decide +kernel
theorem dX11_readText_15 : decode cX11_readText 15 = .ok (.putfield 95, 3) := by decide +kernel
theorem dX11_readText_18 : decode cX11_readText 18 = .ok (.iconst 0, 1) := by decide +kernel
theorem dX11_readText_19 : decode cX11_readText 19 = .ok (.istore_n 1, 1) := by decide +kernel
theorem dX11_readText_20 : decode cX11_readText 20 = .ok (.iload_n 1, 1) := by decide +kernel
theorem dX11_readText_21 : decode cX11_readText 21 = .ok (.bipush 31, 2) := by decide +kernel
theorem dX11_readText_23 : decode cX11_readText 23 = .ok (.if_icmp .ge 21, 3) := by decide +kernel
theorem dX11_readText_26 : decode cX11_readText 26 = .ok (.aload_n 0, 1) := by decide +kernel
theorem dX11_readText_27 : decode cX11_readText 27 = .ok (.getfield 19, 3) := by decide +kernel
theorem dX11_readText_30 : decode cX11_readText 30 = .ok (.iload_n 1, 1) := by decide +kernel
theorem dX11_readText_31 : decode cX11_readText 31 = .ok (.aload_n 0, 1) := by decide +kernel
theorem dX11_readText_32 : decode cX11_readText 32 = .ok (.getfield 7, 3) := by decide +kernel
theorem dX11_readText_35 : decode cX11_readText 35 = .ok (.iload_n 1, 1) := by decide +kernel
theorem dX11_readText_36 : decode cX11_readText 36 = .ok (.iaload, 1) := by decide +kernel
theorem dX11_readText_37 : decode cX11_readText 37 = .ok (.iastore, 1) := by decide +kernel
theorem dX11_readText_38 : decode cX11_readText 38 = .ok (.iinc 1 1, 3) := by decide +kernel
theorem dX11_readText_41 : decode cX11_readText 41 = .ok (.goto (-21), 3) := by decide +kernel
theorem dX11_readText_44 : decode cX11_readText 44 = .ok (.aload_n 0, 1) := by decide +kernel
theorem dX11_readText_45 : decode cX11_readText 45 = .ok (.invokevirtual 92, 3) := by decide +kernel
theorem dX11_readText_48 : decode cX11_readText 48 = .ok (.aload_n 0, 1) := by decide +kernel
theorem dX11_readText_49 : decode cX11_readText 49 = .ok (.invokevirtual 117, 3) := by decide +kernel
theorem dX11_readText_52 : decode cX11_readText 52 = .ok (.ifCond .ne 5, 3) := by decide +kernel
theorem dX11_readText_55 : decode cX11_readText 55 = .ok (.iconst 0, 1) := by decide +kernel
theorem dX11_readText_56 : decode cX11_readText 56 = .ok (.ireturn, 1) := by decide +kernel
theorem dX11_readText_57 : decode cX11_readText 57 = .ok (.aload_n 0, 1) := by decide +kernel
theorem dX11_readText_58 : decode cX11_readText 58 = .ok (.dup, 1) := by decide +kernel
theorem dX11_readText_59 : decode cX11_readText 59 = .ok (.getfield 114, 3) := by decide +kernel
theorem dX11_readText_62 : decode cX11_readText 62 = .ok (.iconst 1, 1) := by decide +kernel
theorem dX11_readText_63 : decode cX11_readText 63 = .ok (.iadd, 1) := by decide +kernel
theorem dX11_readText_64 : decode cX11_readText 64 = .ok (.putfield 114, 3) := by decide +kernel
theorem dX11_readText_67 : decode cX11_readText 67 = .ok (.aload_n 0, 1) := by decide +kernel
theorem dX11_readText_68 : decode cX11_readText 68 = .ok (.invokevirtual 92, 3) := by decide +kernel
theorem dX11_readText_71 : decode cX11_readText 71 = .ok (.aload_n 0, 1) := by decide +kernel
theorem dX11_readText_72 : decode cX11_readText 72 = .ok (.getfield 71, 3) := by decide +kernel
theorem dX11_readText_75 : decode cX11_readText 75 = .ok (.iconst 3, 1) := by decide +kernel
theorem dX11_readText_76 : decode cX11_readText 76 = .ok (.if_icmp .ne 5, 3) := by decide +kernel
theorem dX11_readText_79 : decode cX11_readText 79 = .ok (.iconst 1, 1) := by decide +kernel
theorem dX11_readText_80 : decode cX11_readText 80 = .ok (.ireturn, 1) := by decide +kernel
theorem dX11_readText_81 : decode cX11_readText 81 = .ok (.aload_n 0, 1) := by decide +kernel
theorem dX11_readText_82 : decode cX11_readText 82 = .ok (.getfield 71, 3) := by decide +kernel
theorem dX11_readText_85 : decode cX11_readText 85 = .ok (.ifCond .ne 21, 3) := by decide +kernel
theorem dX11_readText_88 : decode cX11_readText 88 = .ok (.aload_n 0, 1) := by decide +kernel
theorem dX11_readText_89 : decode cX11_readText 89 = .ok (.getfield 68, 3) := by decide +kernel
theorem dX11_readText_92 : decode cX11_readText 92 = .ok (.bipush 59, 2) := by decide +kernel
theorem dX11_readText_94 : decode cX11_readText 94 = .ok (.if_icmp .ne 12, 3) := by decide +kernel
theorem dX11_readText_97 : decode cX11_readText 97 = .ok (.aload_n 0, 1) := by decide +kernel
theorem dX11_readText_98 : decode cX11_readText 98 = .ok (.getfield 114, 3) := by decide +kernel
theorem dX11_readText_101 : decode cX11_readText 101 = .ok (.bipush 14, 2) := by decide +kernel
theorem dX11_readText_103 : decode cX11_readText 103 = .ok (.if_icmp .ne (-59), 3) := by decide +kernel
theorem dX11_readText_106 : decode cX11_readText 106 = .ok (.iconst 0, 1) := by decide +kernel
theorem dX11_readText_107 : decode cX11_readText 107 = .ok (.ireturn, 1) := by decide +kernel
theorem dX11_fault_0 : decode cX11_fault 0 = .ok (.aload_n 0, 1) := by decide +kernel
theorem dX11_fault_1 : decode cX11_fault 1 = .ok (.invokevirtual 121, 3) := by decide +kernel
theorem dX11_fault_4 : decode cX11_fault 4 = .ok (.ifCond .eq 7, 3) := by decide +kernel
theorem dX11_fault_7 : decode cX11_fault 7 = .ok (.iconst (-1), 1) := by decide +kernel
theorem dX11_fault_8 : decode cX11_fault 8 = .ok (.goto 7, 3) := by decide +kernel
theorem dX11_fault_11 : decode cX11_fault 11 = .ok (.aload_n 0, 1) := by decide +kernel
theorem dX11_fault_12 : decode cX11_fault 12 = .ok (.getfield 65, 3) := by decide +kernel
theorem dX11_fault_15 : decode cX11_fault 15 = .ok (.ireturn, 1) := by decide +kernel
theorem dX11_well_0 : decode cX11_well 0 = .ok (.aload_n 0, 1) := by decide +kernel
theorem dX11_well_1 : decode cX11_well 1 = .ok (.invokevirtual 121, 3) := by decide +kernel
theorem dX11_well_4 : decode cX11_well 4 = .ok (.ifCond .ne 6, 3) := by decide +kernel
theorem dX11_well_7 : decode cX11_well 7 = .ok (.bipush (-4), 2) := by decide +kernel
theorem dX11_well_9 : decode cX11_well 9 = .ok (.ireturn, 1) := by decide +kernel
theorem dX11_well_10 : decode cX11_well 10 = .ok (.aload_n 0, 1) := by decide +kernel
theorem dX11_well_11 : decode cX11_well 11 = .ok (.iconst 0, 1) := by decide +kernel
theorem dX11_well_12 : decode cX11_well 12 = .ok (.putfield 55, 3) := by decide +kernel
theorem dX11_well_15 : decode cX11_well 15 = .ok (.aload_n 0, 1) := by decide +kernel
theorem dX11_well_16 : decode cX11_well 16 = .ok (.aload_n 0, 1) := by decide +kernel
theorem dX11_well_17 : decode cX11_well 17 = .ok (.getfield 95, 3) := by decide +kernel
theorem dX11_well_20 : decode cX11_well 20 = .ok (.putfield 45, 3) := by decide +kernel
theorem dX11_well_23 : decode cX11_well 23 = .ok (.iconst 0, 1) := by decide +kernel
theorem dX11_well_24 : decode cX11_well 24 = .ok (.istore_n 1, 1) := by decide +kernel
theorem dX11_well_25 : decode cX11_well 25 = .ok (.iload_n 1, 1) := by decide +kernel
theorem dX11_well_26 : decode cX11_well 26 = .ok (.bipush 31, 2) := by decide +kernel
theorem dX11_well_28 : decode cX11_well 28 = .ok (.if_icmp .ge 21, 3) := by decide +kernel
theorem dX11_well_31 : decode cX11_well 31 = .ok (.aload_n 0, 1) := by decide +kernel
theorem dX11_well_32 : decode cX11_well 32 = .ok (.getfield 7, 3) := by decide +kernel
theorem dX11_well_35 : decode cX11_well 35 = .ok (.iload_n 1, 1) := by decide +kernel
theorem dX11_well_36 : decode cX11_well 36 = .ok (.aload_n 0, 1) := by decide +kernel
theorem dX11_well_37 : decode cX11_well 37 = .ok (.getfield 19, 3) := by decide +kernel
theorem dX11_well_40 : decode cX11_well 40 = .ok (.iload_n 1, 1) := by decide +kernel
theorem dX11_well_41 : decode cX11_well 41 = .ok (.iaload, 1) := by decide +kernel
theorem dX11_well_42 : decode cX11_well 42 = .ok (.iastore, 1) := by decide +kernel
theorem dX11_well_43 : decode cX11_well 43 = .ok (.iinc 1 1, 3) := by decide +kernel
theorem dX11_well_46 : decode cX11_well 46 = .ok (.goto (-21), 3) := by decide +kernel
theorem dX11_well_49 : decode cX11_well 49 = .ok (.aload_n 0, 1) := by decide +kernel
theorem dX11_well_50 : decode cX11_well 50 = .ok (.invokevirtual 124, 3) := by decide +kernel
theorem dX11_well_53 : decode cX11_well 53 = .ok (.aload_n 0, 1) := by decide +kernel
theorem dX11_well_54 : decode cX11_well 54 = .ok (.iconst 0, 1) := by decide +kernel
theorem dX11_well_55 : decode cX11_well 55 = .ok (.putfield 127, 3) := by decide +kernel
theorem dX11_well_58 : decode cX11_well 58 = .ok (.aload_n 0, 1) := by decide +kernel
theorem dX11_well_59 : decode cX11_well 59 = .ok (.iconst 0, 1) := by decide +kernel
theorem dX11_well_60 : decode cX11_well 60 = .ok (.putfield 130, 3) := by decide +kernel
theorem dX11_well_63 : decode cX11_well 63 = .ok (.aload_n 0, 1) := by decide +kernel
theorem dX11_well_64 : decode cX11_well 64 = .ok (.getfield 25, 3) := by decide +kernel
theorem dX11_well_67 : decode cX11_well 67 = .ok (.iconst 0, 1) := by decide +kernel
theorem dX11_well_68 : decode cX11_well 68 = .ok (.iconst 0, 1) := by decide +kernel
theorem dX11_well_69 : decode cX11_well 69 = .ok (.bastore, 1) := by decide +kernel
theorem dX11_well_70 : decode cX11_well 70 = .ok (.aload_n 0, 1) := by decide +kernel
theorem dX11_well_71 : decode cX11_well 71 = .ok (.getfield 25, 3) := by decide +kernel
theorem dX11_well_74 : decode cX11_well 74 = .ok (.iconst 1, 1) := by decide +kernel
theorem dX11_well_75 : decode cX11_well 75 = .ok (.iconst 0, 1) := by decide +kernel
theorem dX11_well_76 : decode cX11_well 76 = .ok (.bastore, 1) := by decide +kernel
theorem dX11_well_77 : decode cX11_well 77 = .ok (.aload_n 0, 1) := by decide +kernel
theorem dX11_well_78 : decode cX11_well 78 = .ok (.getfield 114, 3) := by decide +kernel
theorem dX11_well_81 : decode cX11_well 81 = .ok (.ireturn, 1) := by decide +kernel
theorem dX11_anew_0 : decode cX11_anew 0 = .ok (.iconst 0, 1) := by decide +kernel
theorem dX11_anew_1 : decode cX11_anew 1 = .ok (.istore_n 1, 1) := by decide +kernel
theorem dX11_anew_2 : decode cX11_anew 2 = .ok (.iload_n 1, 1) := by decide +kernel
theorem dX11_anew_3 : decode cX11_anew 3 = .ok (.bipush 35, 2) := by decide +kernel
theorem dX11_anew_5 : decode cX11_anew 5 = .ok (.if_icmp .ge 16, 3) := by decide +kernel
theorem dX11_anew_8 : decode cX11_anew 8 = .ok (.aload_n 0, 1) := by decide +kernel
theorem dX11_anew_9 : decode cX11_anew 9 = .ok (.getfield 13, 3) := by decide +kernel
theorem dX11_anew_12 : decode cX11_anew 12 = .ok (.iload_n 1, 1) := by decide +kernel
theorem dX11_anew_13 : decode cX11_anew 13 = .ok (.iconst 0, 1) := by decide +kernel
theorem dX11_anew_14 : decode cX11_anew 14 = .ok (.iastore, 1) := by decide +kernel
theorem dX11_anew_15 : decode cX11_anew 15 = .ok (.iinc 1 1, 3) := by decide +kernel
theorem dX11_anew_18 : decode cX11_anew 18 = .ok (.goto (-16), 3) := by decide +kernel
theorem dX11_anew_21 : decode cX11_anew 21 = .ok (.aload_n 0, 1) := by decide +kernel
theorem dX11_anew_22 : decode cX11_anew 22 = .ok (.getfield 13, 3) := by decide +kernel
theorem dX11_anew_25 : decode cX11_anew 25 = .ok (.bipush 32, 2) := by decide +kernel
theorem dX11_anew_27 : decode cX11_anew 27 = .ok (.aload_n 0, 1) := by decide +kernel
theorem dX11_anew_28 : decode cX11_anew 28 = .ok (.getfield 7, 3) := by decide +kernel
theorem dX11_anew_31 : decode cX11_anew 31 = .ok (.iconst 1, 1) := by decide +kernel
theorem dX11_anew_32 : decode cX11_anew 32 = .ok (.iaload, 1) := by decide +kernel
theorem dX11_anew_33 : decode cX11_anew 33 = .ok (.iastore, 1) := by decide +kernel
theorem dX11_anew_34 : decode cX11_anew 34 = .ok (.return_, 1) := by decide +kernel
theorem dX11_of_0 : decode cX11_of 0 = .ok (.aload_n 0, 1) := by decide +kernel
theorem dX11_of_1 : decode cX11_of 1 = .ok (.getfield 7, 3) := by decide +kernel
theorem dX11_of_4 : decode cX11_of 4 = .ok (.bipush 6, 2) := by decide +kernel
theorem dX11_of_6 : decode cX11_of 6 = .ok (.iconst 5, 1) := by decide +kernel
theorem dX11_of_7 : decode cX11_of 7 = .ok (.iload_n 1, 1) := by decide +kernel
theorem dX11_of_8 : decode cX11_of 8 = .ok (.imul, 1) := by decide +kernel
theorem dX11_of_9 : decode cX11_of 9 = .ok (.iadd, 1) := by decide +kernel
theorem dX11_of_10 : decode cX11_of 10 = .ok (.iload_n 2, 1) := by decide +kernel
theorem dX11_of_11 : decode cX11_of 11 = .ok (.iadd, 1) := by decide +kernel
theorem dX11_of_12 : decode cX11_of 12 = .ok (.iaload, 1) := by decide +kernel
theorem dX11_of_13 : decode cX11_of 13 = .ok (.ireturn, 1) := by decide +kernel
theorem dX11_walkOf_0 : decode cX11_walkOf 0 = .ok (.aload_n 0, 1) := by decide +kernel
theorem dX11_walkOf_1 : decode cX11_walkOf 1 = .ok (.iload_n 1, 1) := by decide +kernel
theorem dX11_walkOf_2 : decode cX11_walkOf 2 = .ok (.iconst 1, 1) := by decide +kernel
theorem dX11_walkOf_3 : decode cX11_walkOf 3 = .ok (.invokevirtual 133, 3) := by decide +kernel
theorem dX11_walkOf_6 : decode cX11_walkOf 6 = .ok (.istore_n 2, 1) := by decide +kernel
theorem dX11_walkOf_7 : decode cX11_walkOf 7 = .ok (.aload_n 0, 1) := by decide +kernel
theorem dX11_walkOf_8 : decode cX11_walkOf 8 = .ok (.iload_n 1, 1) := by decide +kernel
theorem dX11_walkOf_9 : decode cX11_walkOf 9 = .ok (.iconst 0, 1) := by decide +kernel
theorem dX11_walkOf_10 : decode cX11_walkOf 10 = .ok (.invokevirtual 133, 3) := by decide +kernel
theorem dX11_walkOf_13 : decode cX11_walkOf 13 = .ok (.iconst 1, 1) := by decide +kernel
theorem dX11_walkOf_14 : decode cX11_walkOf 14 = .ok (.if_icmp .eq 5, 3) := by decide +kernel
theorem dX11_walkOf_17 : decode cX11_walkOf 17 = .ok (.iload_n 2, 1) := by decide +kernel
theorem dX11_walkOf_18 : decode cX11_walkOf 18 = .ok (.ireturn, 1) := by decide +kernel
theorem dX11_walkOf_19 : decode cX11_walkOf 19 = .ok (.aload_n 0, 1) := by decide +kernel
theorem dX11_walkOf_20 : decode cX11_walkOf 20 = .ok (.getfield 13, 3) := by decide +kernel
theorem dX11_walkOf_23 : decode cX11_walkOf 23 = .ok (.bipush 20, 2) := by decide +kernel
theorem dX11_walkOf_25 : decode cX11_walkOf 25 = .ok (.iload_n 1, 1) := by decide +kernel
theorem dX11_walkOf_26 : decode cX11_walkOf 26 = .ok (.iadd, 1) := by decide +kernel
theorem dX11_walkOf_27 : decode cX11_walkOf 27 = .ok (.iaload, 1) := by decide +kernel
theorem dX11_walkOf_28 : decode cX11_walkOf 28 = .ok (.iconst 3, 1) := by decide +kernel
theorem dX11_walkOf_29 : decode cX11_walkOf 29 = .ok (.if_icmp .lt 9, 3) := by decide +kernel
theorem dX11_walkOf_32 : decode cX11_walkOf 32 = .ok (.iload_n 2, 1) := by decide +kernel
theorem dX11_walkOf_33 : decode cX11_walkOf 33 = .ok (.iconst 1, 1) := by decide +kernel
theorem dX11_walkOf_34 : decode cX11_walkOf 34 = .ok (.iadd, 1) := by decide +kernel
theorem dX11_walkOf_35 : decode cX11_walkOf 35 = .ok (.goto 15, 3) := by decide +kernel
theorem dX11_walkOf_38 : decode cX11_walkOf 38 = .ok (.iload_n 2, 1) := by decide +kernel
theorem dX11_walkOf_39 : decode cX11_walkOf 39 = .ok (.iconst 1, 1) := by decide +kernel
theorem dX11_walkOf_40 : decode cX11_walkOf 40 = .ok (.if_icmp .le 9, 3) := by decide +kernel
theorem dX11_walkOf_43 : decode cX11_walkOf 43 = .ok (.iload_n 2, 1) := by decide +kernel
theorem dX11_walkOf_44 : decode cX11_walkOf 44 = .ok (.iconst 1, 1) := by decide +kernel
theorem dX11_walkOf_45 : decode cX11_walkOf 45 = .ok (.isub, 1) := by decide +kernel
theorem dX11_walkOf_46 : decode cX11_walkOf 46 = .ok (.goto 4, 3) := by decide +kernel
theorem dX11_walkOf_49 : decode cX11_walkOf 49 = .ok (.iconst 1, 1) := by decide +kernel
theorem dX11_walkOf_50 : decode cX11_walkOf 50 = .ok (.ireturn, 1) := by decide +kernel
theorem dX11_dripOf_0 : decode cX11_dripOf 0 = .ok (.aload_n 0, 1) := by decide +kernel
theorem dX11_dripOf_1 : decode cX11_dripOf 1 = .ok (.iload_n 1, 1) := by decide +kernel
theorem dX11_dripOf_2 : decode cX11_dripOf 2 = .ok (.iconst 3, 1) := by decide +kernel
theorem dX11_dripOf_3 : decode cX11_dripOf 3 = .ok (.invokevirtual 133, 3) := by decide +kernel
theorem dX11_dripOf_6 : decode cX11_dripOf 6 = .ok (.istore_n 2, 1) := by decide +kernel
theorem dX11_dripOf_7 : decode cX11_dripOf 7 = .ok (.aload_n 0, 1) := by decide +kernel
theorem dX11_dripOf_8 : decode cX11_dripOf 8 = .ok (.iload_n 1, 1) := by decide +kernel
theorem dX11_dripOf_9 : decode cX11_dripOf 9 = .ok (.iconst 4, 1) := by decide +kernel
theorem dX11_dripOf_10 : decode cX11_dripOf 10 = .ok (.invokevirtual 133, 3) := by decide +kernel
theorem dX11_dripOf_13 : decode cX11_dripOf 13 = .ok (.istore_n 3, 1) := by decide +kernel
theorem dX11_dripOf_14 : decode cX11_dripOf 14 = .ok (.iload_n 3, 1) := by decide +kernel
theorem dX11_dripOf_15 : decode cX11_dripOf 15 = .ok (.iconst 2, 1) := by decide +kernel
theorem dX11_dripOf_16 : decode cX11_dripOf 16 = .ok (.idiv, 1) := by decide +kernel
theorem dX11_dripOf_17 : decode cX11_dripOf 17 = .ok (.istore 4, 2) := by decide +kernel
theorem dX11_dripOf_19 : decode cX11_dripOf 19 = .ok (.iload_n 2, 1) := by decide +kernel
theorem dX11_dripOf_20 : decode cX11_dripOf 20 = .ok (.ifCond .ne 7, 3) := by decide +kernel
theorem dX11_dripOf_23 : decode cX11_dripOf 23 = .ok (.iload_n 3, 1) := by decide +kernel
theorem dX11_dripOf_24 : decode cX11_dripOf 24 = .ok (.goto 37, 3) := by decide +kernel
theorem dX11_dripOf_27 : decode cX11_dripOf 27 = .ok (.iload_n 2, 1) := by decide +kernel
theorem dX11_dripOf_28 : decode cX11_dripOf 28 = .ok (.iconst 1, 1) := by decide +kernel
theorem dX11_dripOf_29 : decode cX11_dripOf 29 = .ok (.if_icmp .ne 8, 3) := by decide +kernel
theorem dX11_dripOf_32 : decode cX11_dripOf 32 = .ok (.iload 4, 2) := by decide +kernel
theorem dX11_dripOf_34 : decode cX11_dripOf 34 = .ok (.goto 27, 3) := by decide +kernel
theorem dX11_dripOf_37 : decode cX11_dripOf 37 = .ok (.iload_n 2, 1) := by decide +kernel
theorem dX11_dripOf_38 : decode cX11_dripOf 38 = .ok (.iconst 3, 1) := by decide +kernel
theorem dX11_dripOf_39 : decode cX11_dripOf 39 = .ok (.if_icmp .ne 9, 3) := by decide +kernel
theorem dX11_dripOf_42 : decode cX11_dripOf 42 = .ok (.iload_n 3, 1) := by decide +kernel
theorem dX11_dripOf_43 : decode cX11_dripOf 43 = .ok (.iconst 2, 1) := by decide +kernel
theorem dX11_dripOf_44 : decode cX11_dripOf 44 = .ok (.iadd, 1) := by decide +kernel
theorem dX11_dripOf_45 : decode cX11_dripOf 45 = .ok (.goto 16, 3) := by decide +kernel
theorem dX11_dripOf_48 : decode cX11_dripOf 48 = .ok (.iload 4, 2) := by decide +kernel
theorem dX11_dripOf_50 : decode cX11_dripOf 50 = .ok (.ifCond .le 10, 3) := by decide +kernel
theorem dX11_dripOf_53 : decode cX11_dripOf 53 = .ok (.iload 4, 2) := by decide +kernel
theorem dX11_dripOf_55 : decode cX11_dripOf 55 = .ok (.iconst 1, 1) := by decide +kernel
theorem dX11_dripOf_56 : decode cX11_dripOf 56 = .ok (.isub, 1) := by decide +kernel
theorem dX11_dripOf_57 : decode cX11_dripOf 57 = .ok (.goto 4, 3) := by decide +kernel
theorem dX11_dripOf_60 : decode cX11_dripOf 60 = .ok (.iconst 0, 1) := by decide +kernel
theorem dX11_dripOf_61 : decode cX11_dripOf 61 = .ok (.ireturn, 1) := by decide +kernel
theorem dX11_dripNow_0 : decode cX11_dripNow 0 = .ok (.aload_n 0, 1) := by decide +kernel
theorem dX11_dripNow_1 : decode cX11_dripNow 1 = .ok (.getfield 13, 3) := by decide +kernel
theorem dX11_dripNow_4 : decode cX11_dripNow 4 = .ok (.bipush 30, 2) := by decide +kernel
theorem dX11_dripNow_6 : decode cX11_dripNow 6 = .ok (.iaload, 1) := by decide +kernel
theorem dX11_dripNow_7 : decode cX11_dripNow 7 = .ok (.i2l, 1) := by decide +kernel
theorem dX11_dripNow_8 : decode cX11_dripNow 8 = .ok (.aload_n 0, 1) := by decide +kernel
theorem dX11_dripNow_9 : decode cX11_dripNow 9 = .ok (.getfield 7, 3) := by decide +kernel
theorem dX11_dripNow_12 : decode cX11_dripNow 12 = .ok (.iconst 2, 1) := by decide +kernel
theorem dX11_dripNow_13 : decode cX11_dripNow 13 = .ok (.iaload, 1) := by decide +kernel
theorem dX11_dripNow_14 : decode cX11_dripNow 14 = .ok (.i2l, 1) := by decide +kernel
theorem dX11_dripNow_15 : decode cX11_dripNow 15 = .ok (.aload_n 0, 1) := by decide +kernel
theorem dX11_dripNow_16 : decode cX11_dripNow 16 = .ok (.getfield 7, 3) := by decide +kernel
theorem dX11_dripNow_19 : decode cX11_dripNow 19 = .ok (.iconst 3, 1) := by decide +kernel
theorem dX11_dripNow_20 : decode cX11_dripNow 20 = .ok (.iaload, 1) := by decide +kernel
theorem dX11_dripNow_21 : decode cX11_dripNow 21 = .ok (.i2l, 1) := by decide +kernel
theorem dX11_dripNow_22 : decode cX11_dripNow 22 = .ok (.invokestatic 49, 3) := by decide +kernel
theorem dX11_dripNow_25 : decode cX11_dripNow 25 = .ok (.ifCond .eq 5, 3) := by decide +kernel
theorem dX11_dripNow_28 : decode cX11_dripNow 28 = .ok (.iconst 0, 1) := by decide +kernel
theorem dX11_dripNow_29 : decode cX11_dripNow 29 = .ok (.ireturn, 1) := by decide +kernel
theorem dX11_dripNow_30 : decode cX11_dripNow 30 = .ok (.aload_n 0, 1) := by decide +kernel
theorem dX11_dripNow_31 : decode cX11_dripNow 31 = .ok (.getfield 13, 3) := by decide +kernel
theorem dX11_dripNow_34 : decode cX11_dripNow 34 = .ok (.bipush 25, 2) := by decide +kernel
theorem dX11_dripNow_36 : decode cX11_dripNow 36 = .ok (.iload_n 1, 1) := by decide +kernel
theorem dX11_dripNow_37 : decode cX11_dripNow 37 = .ok (.iadd, 1) := by decide +kernel
theorem dX11_dripNow_38 : decode cX11_dripNow 38 = .ok (.iaload, 1) := by decide +kernel
theorem dX11_dripNow_39 : decode cX11_dripNow 39 = .ok (.aload_n 0, 1) := by decide +kernel
theorem dX11_dripNow_40 : decode cX11_dripNow 40 = .ok (.getfield 13, 3) := by decide +kernel
theorem dX11_dripNow_43 : decode cX11_dripNow 43 = .ok (.bipush 30, 2) := by decide +kernel
theorem dX11_dripNow_45 : decode cX11_dripNow 45 = .ok (.iaload, 1) := by decide +kernel
theorem dX11_dripNow_46 : decode cX11_dripNow 46 = .ok (.if_icmp .le 13, 3) := by decide +kernel
theorem dX11_dripNow_49 : decode cX11_dripNow 49 = .ok (.aload_n 0, 1) := by decide +kernel
theorem dX11_dripNow_50 : decode cX11_dripNow 50 = .ok (.iload_n 1, 1) := by decide +kernel
theorem dX11_dripNow_51 : decode cX11_dripNow 51 = .ok (.invokevirtual 136, 3) := by decide +kernel
theorem dX11_dripNow_54 : decode cX11_dripNow 54 = .ok (.iconst 2, 1) := by decide +kernel
theorem dX11_dripNow_55 : decode cX11_dripNow 55 = .ok (.idiv, 1) := by decide +kernel
theorem dX11_dripNow_56 : decode cX11_dripNow 56 = .ok (.goto 8, 3) := by decide +kernel
theorem dX11_dripNow_59 : decode cX11_dripNow 59 = .ok (.aload_n 0, 1) := by decide +kernel
theorem dX11_dripNow_60 : decode cX11_dripNow 60 = .ok (.iload_n 1, 1) := by decide +kernel
theorem dX11_dripNow_61 : decode cX11_dripNow 61 = .ok (.invokevirtual 136, 3) := by decide +kernel
theorem dX11_dripNow_64 : decode cX11_dripNow 64 = .ok (.ireturn, 1) := by decide +kernel
theorem dX11_mossOf_0 : decode cX11_mossOf 0 = .ok (.aload_n 0, 1) := by decide +kernel
theorem dX11_mossOf_1 : decode cX11_mossOf 1 = .ok (.getfield 13, 3) := by decide +kernel
theorem dX11_mossOf_4 : decode cX11_mossOf 4 = .ok (.bipush 25, 2) := by decide +kernel
theorem dX11_mossOf_6 : decode cX11_mossOf 6 = .ok (.iload_n 1, 1) := by decide +kernel
theorem dX11_mossOf_7 : decode cX11_mossOf 7 = .ok (.iadd, 1) := by decide +kernel
theorem dX11_mossOf_8 : decode cX11_mossOf 8 = .ok (.iaload, 1) := by decide +kernel
theorem dX11_mossOf_9 : decode cX11_mossOf 9 = .ok (.aload_n 0, 1) := by decide +kernel
theorem dX11_mossOf_10 : decode cX11_mossOf 10 = .ok (.getfield 13, 3) := by decide +kernel
theorem dX11_mossOf_13 : decode cX11_mossOf 13 = .ok (.bipush 30, 2) := by decide +kernel
theorem dX11_mossOf_15 : decode cX11_mossOf 15 = .ok (.iaload, 1) := by decide +kernel
theorem dX11_mossOf_16 : decode cX11_mossOf 16 = .ok (.isub, 1) := by decide +kernel
theorem dX11_mossOf_17 : decode cX11_mossOf 17 = .ok (.istore_n 2, 1) := by decide +kernel
theorem dX11_mossOf_18 : decode cX11_mossOf 18 = .ok (.iload_n 2, 1) := by decide +kernel
theorem dX11_mossOf_19 : decode cX11_mossOf 19 = .ok (.ifCond .ge 7, 3) := by decide +kernel
theorem dX11_mossOf_22 : decode cX11_mossOf 22 = .ok (.iconst 0, 1) := by decide +kernel
theorem dX11_mossOf_23 : decode cX11_mossOf 23 = .ok (.goto 4, 3) := by decide +kernel
theorem dX11_mossOf_26 : decode cX11_mossOf 26 = .ok (.iload_n 2, 1) := by decide +kernel
theorem dX11_mossOf_27 : decode cX11_mossOf 27 = .ok (.ireturn, 1) := by decide +kernel
theorem dX11_sister_0 : decode cX11_sister 0 = .ok (.aload_n 0, 1) := by decide +kernel
theorem dX11_sister_1 : decode cX11_sister 1 = .ok (.iload_n 1, 1) := by decide +kernel
theorem dX11_sister_2 : decode cX11_sister 2 = .ok (.invokevirtual 139, 3) := by decide +kernel
theorem dX11_sister_5 : decode cX11_sister 5 = .ok (.ifCond .ne 6, 3) := by decide +kernel
theorem dX11_sister_8 : decode cX11_sister 8 = .ok (.bipush (-2), 2) := by decide +kernel
theorem dX11_sister_10 : decode cX11_sister 10 = .ok (.ireturn, 1) := by decide +kernel
theorem dX11_sister_11 : decode cX11_sister 11 = .ok (.iload_n 2, 1) := by decide +kernel
theorem dX11_sister_12 : decode cX11_sister 12 = .ok (.tableswitch 107 0 9 #[56, 56, 56, 56, 56, 63, 72, 81, 91, 101], 56) := by decide +kernel
theorem dX11_sister_68 : decode cX11_sister 68 = .ok (.aload_n 0, 1) := by decide +kernel
theorem dX11_sister_69 : decode cX11_sister 69 = .ok (.iload_n 1, 1) := by decide +kernel
theorem dX11_sister_70 : decode cX11_sister 70 = .ok (.iload_n 2, 1) := by decide +kernel
theorem dX11_sister_71 : decode cX11_sister 71 = .ok (.invokevirtual 133, 3) := by decide +kernel
theorem dX11_sister_74 : decode cX11_sister 74 = .ok (.ireturn, 1) := by decide +kernel
theorem dX11_sister_75 : decode cX11_sister 75 = .ok (.aload_n 0, 1) := by decide +kernel
theorem dX11_sister_76 : decode cX11_sister 76 = .ok (.getfield 13, 3) := by decide +kernel
theorem dX11_sister_79 : decode cX11_sister 79 = .ok (.iconst 0, 1) := by decide +kernel
theorem dX11_sister_80 : decode cX11_sister 80 = .ok (.iload_n 1, 1) := by decide +kernel
theorem dX11_sister_81 : decode cX11_sister 81 = .ok (.iadd, 1) := by decide +kernel
theorem dX11_sister_82 : decode cX11_sister 82 = .ok (.iaload, 1) := by decide +kernel
theorem dX11_sister_83 : decode cX11_sister 83 = .ok (.ireturn, 1) := by decide +kernel
theorem dX11_sister_84 : decode cX11_sister 84 = .ok (.aload_n 0, 1) := by decide +kernel
theorem dX11_sister_85 : decode cX11_sister 85 = .ok (.getfield 13, 3) := by decide +kernel
theorem dX11_sister_88 : decode cX11_sister 88 = .ok (.iconst 5, 1) := by decide +kernel
theorem dX11_sister_89 : decode cX11_sister 89 = .ok (.iload_n 1, 1) := by decide +kernel
theorem dX11_sister_90 : decode cX11_sister 90 = .ok (.iadd, 1) := by decide +kernel
theorem dX11_sister_91 : decode cX11_sister 91 = .ok (.iaload, 1) := by decide +kernel
theorem dX11_sister_92 : decode cX11_sister 92 = .ok (.ireturn, 1) := by decide +kernel
theorem dX11_sister_93 : decode cX11_sister 93 = .ok (.aload_n 0, 1) := by decide +kernel
theorem dX11_sister_94 : decode cX11_sister 94 = .ok (.getfield 13, 3) := by decide +kernel
theorem dX11_sister_97 : decode cX11_sister 97 = .ok (.bipush 15, 2) := by decide +kernel
theorem dX11_sister_99 : decode cX11_sister 99 = .ok (.iload_n 1, 1) := by decide +kernel
theorem dX11_sister_100 : decode cX11_sister 100 = .ok (.iadd, 1) := by decide +kernel
theorem dX11_sister_101 : decode cX11_sister 101 = .ok (.iaload, 1) := by decide +kernel
theorem dX11_sister_102 : decode cX11_sister 102 = .ok (.ireturn, 1) := by decide +kernel
theorem dX11_sister_103 : decode cX11_sister 103 = .ok (.aload_n 0, 1) := by decide +kernel
theorem dX11_sister_104 : decode cX11_sister 104 = .ok (.getfield 13, 3) := by decide +kernel
theorem dX11_sister_107 : decode cX11_sister 107 = .ok (.bipush 20, 2) := by decide +kernel
theorem dX11_sister_109 : decode cX11_sister 109 = .ok (.iload_n 1, 1) := by decide +kernel
theorem dX11_sister_110 : decode cX11_sister 110 = .ok (.iadd, 1) := by decide +kernel
theorem dX11_sister_111 : decode cX11_sister 111 = .ok (.iaload, 1) := by decide +kernel
theorem dX11_sister_112 : decode cX11_sister 112 = .ok (.ireturn, 1) := by decide +kernel
theorem dX11_sister_113 : decode cX11_sister 113 = .ok (.aload_n 0, 1) := by decide +kernel
theorem dX11_sister_114 : decode cX11_sister 114 = .ok (.iload_n 1, 1) := by decide +kernel
theorem dX11_sister_115 : decode cX11_sister 115 = .ok (.invokevirtual 142, 3) := by decide +kernel
theorem dX11_sister_118 : decode cX11_sister 118 = .ok (.ireturn, 1) := by decide +kernel
theorem dX11_sister_119 : decode cX11_sister 119 = .ok (.bipush (-3), 2) := by decide +kernel
theorem dX11_sister_121 : decode cX11_sister 121 = .ok (.ireturn, 1) := by decide +kernel
theorem dX11_as_0 : decode cX11_as 0 = .ok (.aload_n 0, 1) := by decide +kernel
theorem dX11_as_1 : decode cX11_as 1 = .ok (.iload_n 1, 1) := by decide +kernel
theorem dX11_as_2 : decode cX11_as 2 = .ok (.invokevirtual 139, 3) := by decide +kernel
theorem dX11_as_5 : decode cX11_as 5 = .ok (.ifCond .ne 6, 3) := by decide +kernel
theorem dX11_as_8 : decode cX11_as 8 = .ok (.bipush (-2), 2) := by decide +kernel
theorem dX11_as_10 : decode cX11_as 10 = .ok (.ireturn, 1) := by decide +kernel
theorem dX11_as_11 : decode cX11_as 11 = .ok (.iload_n 2, 1) := by decide +kernel
theorem dX11_as_12 : decode cX11_as 12 = .ok (.i2l, 1) := by decide +kernel
theorem dX11_as_13 : decode cX11_as 13 = .ok (.lconst 0, 1) := by decide +kernel
theorem dX11_as_14 : decode cX11_as 14 = .ok (.ldc2_w 145, 3) := by decide +kernel
theorem dX11_as_17 : decode cX11_as 17 = .ok (.invokestatic 49, 3) := by decide +kernel
theorem dX11_as_20 : decode cX11_as 20 = .ok (.ifCond .ne 6, 3) := by decide +kernel
theorem dX11_as_23 : decode cX11_as 23 = .ok (.bipush (-3), 2) := by decide +kernel
theorem dX11_as_25 : decode cX11_as 25 = .ok (.ireturn, 1) := by decide +kernel
theorem dX11_as_26 : decode cX11_as 26 = .ok (.iload_n 2, 1) := by decide +kernel
theorem dX11_as_27 : decode cX11_as 27 = .ok (.iconst 2, 1) := by decide +kernel
theorem dX11_as_28 : decode cX11_as 28 = .ok (.if_icmp .lt 15, 3) := by decide +kernel
theorem dX11_as_31 : decode cX11_as 31 = .ok (.aload_n 0, 1) := by decide +kernel
theorem dX11_as_32 : decode cX11_as 32 = .ok (.iload_n 1, 1) := by decide +kernel
theorem dX11_as_33 : decode cX11_as 33 = .ok (.iconst 0, 1) := by decide +kernel
theorem dX11_as_34 : decode cX11_as 34 = .ok (.invokevirtual 133, 3) := by decide +kernel
theorem dX11_as_37 : decode cX11_as 37 = .ok (.iload_n 2, 1) := by decide +kernel
theorem dX11_as_38 : decode cX11_as 38 = .ok (.iconst 1, 1) := by decide +kernel
theorem dX11_as_39 : decode cX11_as 39 = .ok (.isub, 1) := by decide +kernel
theorem dX11_as_40 : decode cX11_as 40 = .ok (.if_icmp .ne 11, 3) := by decide +kernel
theorem dX11_as_43 : decode cX11_as 43 = .ok (.aload_n 0, 1) := by decide +kernel
theorem dX11_as_44 : decode cX11_as 44 = .ok (.iload_n 1, 1) := by decide +kernel
theorem dX11_as_45 : decode cX11_as 45 = .ok (.invokevirtual 147, 3) := by decide +kernel
theorem dX11_as_48 : decode cX11_as 48 = .ok (.goto 5, 3) := by decide +kernel
theorem dX11_as_51 : decode cX11_as 51 = .ok (.bipush (-4), 2) := by decide +kernel
theorem dX11_as_53 : decode cX11_as 53 = .ok (.ireturn, 1) := by decide +kernel
theorem dX11_sieveAs_0 : decode cX11_sieveAs 0 = .ok (.aload_n 0, 1) := by decide +kernel
theorem dX11_sieveAs_1 : decode cX11_sieveAs 1 = .ok (.iload_n 1, 1) := by decide +kernel
theorem dX11_sieveAs_2 : decode cX11_sieveAs 2 = .ok (.invokevirtual 139, 3) := by decide +kernel
theorem dX11_sieveAs_5 : decode cX11_sieveAs 5 = .ok (.ifCond .ne 6, 3) := by decide +kernel
theorem dX11_sieveAs_8 : decode cX11_sieveAs 8 = .ok (.bipush (-2), 2) := by decide +kernel
theorem dX11_sieveAs_10 : decode cX11_sieveAs 10 = .ok (.ireturn, 1) := by decide +kernel
theorem dX11_sieveAs_11 : decode cX11_sieveAs 11 = .ok (.iload_n 2, 1) := by decide +kernel
theorem dX11_sieveAs_12 : decode cX11_sieveAs 12 = .ok (.i2l, 1) := by decide +kernel
theorem dX11_sieveAs_13 : decode cX11_sieveAs 13 = .ok (.lconst 0, 1) := by decide +kernel
theorem dX11_sieveAs_14 : decode cX11_sieveAs 14 = .ok (.ldc2_w 150, 3) := by decide +kernel
theorem dX11_sieveAs_17 : decode cX11_sieveAs 17 = .ok (.invokestatic 49, 3) := by decide +kernel
theorem dX11_sieveAs_20 : decode cX11_sieveAs 20 = .ok (.ifCond .ne 6, 3) := by decide +kernel
theorem dX11_sieveAs_23 : decode cX11_sieveAs 23 = .ok (.bipush (-3), 2) := by decide +kernel
theorem dX11_sieveAs_25 : decode cX11_sieveAs 25 = .ok (.ireturn, 1) := by decide +kernel
theorem dX11_sieveAs_26 : decode cX11_sieveAs 26 = .ok (.aload_n 0, 1) := by decide +kernel
theorem dX11_sieveAs_27 : decode cX11_sieveAs 27 = .ok (.iload_n 1, 1) := by decide +kernel
theorem dX11_sieveAs_28 : decode cX11_sieveAs 28 = .ok (.iconst 3, 1) := by decide +kernel
theorem dX11_sieveAs_29 : decode cX11_sieveAs 29 = .ok (.invokevirtual 133, 3) := by decide +kernel
theorem dX11_sieveAs_32 : decode cX11_sieveAs 32 = .ok (.istore_n 3, 1) := by decide +kernel
theorem dX11_sieveAs_33 : decode cX11_sieveAs 33 = .ok (.iload_n 2, 1) := by decide +kernel
theorem dX11_sieveAs_34 : decode cX11_sieveAs 34 = .ok (.ifCond .eq 22, 3) := by decide +kernel
theorem dX11_sieveAs_37 : decode cX11_sieveAs 37 = .ok (.iload_n 2, 1) := by decide +kernel
theorem dX11_sieveAs_38 : decode cX11_sieveAs 38 = .ok (.iload_n 3, 1) := by decide +kernel
theorem dX11_sieveAs_39 : decode cX11_sieveAs 39 = .ok (.iconst 1, 1) := by decide +kernel
theorem dX11_sieveAs_40 : decode cX11_sieveAs 40 = .ok (.iadd, 1) := by decide +kernel
theorem dX11_sieveAs_41 : decode cX11_sieveAs 41 = .ok (.if_icmp .eq 15, 3) := by decide +kernel
theorem dX11_sieveAs_44 : decode cX11_sieveAs 44 = .ok (.iload_n 3, 1) := by decide +kernel
theorem dX11_sieveAs_45 : decode cX11_sieveAs 45 = .ok (.iconst 3, 1) := by decide +kernel
theorem dX11_sieveAs_46 : decode cX11_sieveAs 46 = .ok (.if_icmp .ge 14, 3) := by decide +kernel
theorem dX11_sieveAs_49 : decode cX11_sieveAs 49 = .ok (.iload_n 2, 1) := by decide +kernel
theorem dX11_sieveAs_50 : decode cX11_sieveAs 50 = .ok (.iload_n 3, 1) := by decide +kernel
theorem dX11_sieveAs_51 : decode cX11_sieveAs 51 = .ok (.iconst 1, 1) := by decide +kernel
theorem dX11_sieveAs_52 : decode cX11_sieveAs 52 = .ok (.iadd, 1) := by decide +kernel
theorem dX11_sieveAs_53 : decode cX11_sieveAs 53 = .ok (.if_icmp .gt 7, 3) := by decide +kernel
theorem dX11_sieveAs_56 : decode cX11_sieveAs 56 = .ok (.iconst 1, 1) := by decide +kernel
theorem dX11_sieveAs_57 : decode cX11_sieveAs 57 = .ok (.goto 4, 3) := by decide +kernel
theorem dX11_sieveAs_60 : decode cX11_sieveAs 60 = .ok (.iconst 0, 1) := by decide +kernel
theorem dX11_sieveAs_61 : decode cX11_sieveAs 61 = .ok (.istore 4, 2) := by decide +kernel
theorem dX11_sieveAs_63 : decode cX11_sieveAs 63 = .ok (.iload 4, 2) := by decide +kernel
theorem dX11_sieveAs_65 : decode cX11_sieveAs 65 = .ok (.ifCond .eq 11, 3) := by decide +kernel
theorem dX11_sieveAs_68 : decode cX11_sieveAs 68 = .ok (.aload_n 0, 1) := by decide +kernel
theorem dX11_sieveAs_69 : decode cX11_sieveAs 69 = .ok (.iload_n 1, 1) := by decide +kernel
theorem dX11_sieveAs_70 : decode cX11_sieveAs 70 = .ok (.invokevirtual 136, 3) := by decide +kernel
theorem dX11_sieveAs_73 : decode cX11_sieveAs 73 = .ok (.goto 5, 3) := by decide +kernel
theorem dX11_sieveAs_76 : decode cX11_sieveAs 76 = .ok (.bipush (-4), 2) := by decide +kernel
theorem dX11_sieveAs_78 : decode cX11_sieveAs 78 = .ok (.ireturn, 1) := by decide +kernel
theorem dX11_draws_0 : decode cX11_draws 0 = .ok (.aload_n 0, 1) := by decide +kernel
theorem dX11_draws_1 : decode cX11_draws 1 = .ok (.getfield 13, 3) := by decide +kernel
theorem dX11_draws_4 : decode cX11_draws 4 = .ok (.iconst 0, 1) := by decide +kernel
theorem dX11_draws_5 : decode cX11_draws 5 = .ok (.iload_n 1, 1) := by decide +kernel
theorem dX11_draws_6 : decode cX11_draws 6 = .ok (.iadd, 1) := by decide +kernel
theorem dX11_draws_7 : decode cX11_draws 7 = .ok (.iconst 1, 1) := by decide +kernel
theorem dX11_draws_8 : decode cX11_draws 8 = .ok (.iastore, 1) := by decide +kernel
theorem dX11_draws_9 : decode cX11_draws 9 = .ok (.aload_n 0, 1) := by decide +kernel
theorem dX11_draws_10 : decode cX11_draws 10 = .ok (.getfield 13, 3) := by decide +kernel
theorem dX11_draws_13 : decode cX11_draws 13 = .ok (.iconst 5, 1) := by decide +kernel
theorem dX11_draws_14 : decode cX11_draws 14 = .ok (.iload_n 1, 1) := by decide +kernel
theorem dX11_draws_15 : decode cX11_draws 15 = .ok (.iadd, 1) := by decide +kernel
theorem dX11_draws_16 : decode cX11_draws 16 = .ok (.aload_n 0, 1) := by decide +kernel
theorem dX11_draws_17 : decode cX11_draws 17 = .ok (.iload_n 1, 1) := by decide +kernel
theorem dX11_draws_18 : decode cX11_draws 18 = .ok (.invokevirtual 147, 3) := by decide +kernel
theorem dX11_draws_21 : decode cX11_draws 21 = .ok (.iastore, 1) := by decide +kernel
theorem dX11_draws_22 : decode cX11_draws 22 = .ok (.aload_n 0, 1) := by decide +kernel
theorem dX11_draws_23 : decode cX11_draws 23 = .ok (.getfield 13, 3) := by decide +kernel
theorem dX11_draws_26 : decode cX11_draws 26 = .ok (.bipush 10, 2) := by decide +kernel
theorem dX11_draws_28 : decode cX11_draws 28 = .ok (.iload_n 1, 1) := by decide +kernel
theorem dX11_draws_29 : decode cX11_draws 29 = .ok (.iadd, 1) := by decide +kernel
theorem dX11_draws_30 : decode cX11_draws 30 = .ok (.aload_n 0, 1) := by decide +kernel
theorem dX11_draws_31 : decode cX11_draws 31 = .ok (.getfield 13, 3) := by decide +kernel
theorem dX11_draws_34 : decode cX11_draws 34 = .ok (.iconst 5, 1) := by decide +kernel
theorem dX11_draws_35 : decode cX11_draws 35 = .ok (.iload_n 1, 1) := by decide +kernel
theorem dX11_draws_36 : decode cX11_draws 36 = .ok (.iadd, 1) := by decide +kernel
theorem dX11_draws_37 : decode cX11_draws 37 = .ok (.iaload, 1) := by decide +kernel
theorem dX11_draws_38 : decode cX11_draws 38 = .ok (.iastore, 1) := by decide +kernel
theorem dX11_draws_39 : decode cX11_draws 39 = .ok (.aload_n 0, 1) := by decide +kernel
theorem dX11_draws_40 : decode cX11_draws 40 = .ok (.getfield 13, 3) := by decide +kernel
theorem dX11_draws_43 : decode cX11_draws 43 = .ok (.bipush 15, 2) := by decide +kernel
theorem dX11_draws_45 : decode cX11_draws 45 = .ok (.iload_n 1, 1) := by decide +kernel
theorem dX11_draws_46 : decode cX11_draws 46 = .ok (.iadd, 1) := by decide +kernel
theorem dX11_draws_47 : decode cX11_draws 47 = .ok (.aload_n 0, 1) := by decide +kernel
theorem dX11_draws_48 : decode cX11_draws 48 = .ok (.iload_n 1, 1) := by decide +kernel
theorem dX11_draws_49 : decode cX11_draws 49 = .ok (.iconst 2, 1) := by decide +kernel
theorem dX11_draws_50 : decode cX11_draws 50 = .ok (.invokevirtual 133, 3) := by decide +kernel
theorem dX11_draws_53 : decode cX11_draws 53 = .ok (.iastore, 1) := by decide +kernel
theorem dX11_draws_54 : decode cX11_draws 54 = .ok (.return_, 1) := by decide +kernel
theorem dX11_restNow_0 : decode cX11_restNow 0 = .ok (.aload_n 0, 1) := by decide +kernel
theorem dX11_restNow_1 : decode cX11_restNow 1 = .ok (.getfield 13, 3) := by decide +kernel
theorem dX11_restNow_4 : decode cX11_restNow 4 = .ok (.iconst 0, 1) := by decide +kernel
theorem dX11_restNow_5 : decode cX11_restNow 5 = .ok (.iload_n 1, 1) := by decide +kernel
theorem dX11_restNow_6 : decode cX11_restNow 6 = .ok (.iadd, 1) := by decide +kernel
theorem dX11_restNow_7 : decode cX11_restNow 7 = .ok (.iconst 0, 1) := by decide +kernel
theorem dX11_restNow_8 : decode cX11_restNow 8 = .ok (.iastore, 1) := by decide +kernel
theorem dX11_restNow_9 : decode cX11_restNow 9 = .ok (.aload_n 0, 1) := by decide +kernel
theorem dX11_restNow_10 : decode cX11_restNow 10 = .ok (.getfield 13, 3) := by decide +kernel
theorem dX11_restNow_13 : decode cX11_restNow 13 = .ok (.iconst 5, 1) := by decide +kernel
theorem dX11_restNow_14 : decode cX11_restNow 14 = .ok (.iload_n 1, 1) := by decide +kernel
theorem dX11_restNow_15 : decode cX11_restNow 15 = .ok (.iadd, 1) := by decide +kernel
theorem dX11_restNow_16 : decode cX11_restNow 16 = .ok (.iconst 0, 1) := by decide +kernel
theorem dX11_restNow_17 : decode cX11_restNow 17 = .ok (.iastore, 1) := by decide +kernel
theorem dX11_restNow_18 : decode cX11_restNow 18 = .ok (.aload_n 0, 1) := by decide +kernel
theorem dX11_restNow_19 : decode cX11_restNow 19 = .ok (.getfield 13, 3) := by decide +kernel
theorem dX11_restNow_22 : decode cX11_restNow 22 = .ok (.bipush 15, 2) := by decide +kernel
theorem dX11_restNow_24 : decode cX11_restNow 24 = .ok (.iload_n 1, 1) := by decide +kernel
theorem dX11_restNow_25 : decode cX11_restNow 25 = .ok (.iadd, 1) := by decide +kernel
theorem dX11_restNow_26 : decode cX11_restNow 26 = .ok (.iconst 0, 1) := by decide +kernel
theorem dX11_restNow_27 : decode cX11_restNow 27 = .ok (.iastore, 1) := by decide +kernel
theorem dX11_restNow_28 : decode cX11_restNow 28 = .ok (.return_, 1) := by decide +kernel
theorem dX11_step_0 : decode cX11_step 0 = .ok (.aload_n 0, 1) := by decide +kernel
theorem dX11_step_1 : decode cX11_step 1 = .ok (.getfield 13, 3) := by decide +kernel
theorem dX11_step_4 : decode cX11_step 4 = .ok (.iconst 0, 1) := by decide +kernel
theorem dX11_step_5 : decode cX11_step 5 = .ok (.iload_n 1, 1) := by decide +kernel
theorem dX11_step_6 : decode cX11_step 6 = .ok (.iadd, 1) := by decide +kernel
theorem dX11_step_7 : decode cX11_step 7 = .ok (.iaload, 1) := by decide +kernel
theorem dX11_step_8 : decode cX11_step 8 = .ok (.istore_n 2, 1) := by decide +kernel
theorem dX11_step_9 : decode cX11_step 9 = .ok (.iload_n 2, 1) := by decide +kernel
theorem dX11_step_10 : decode cX11_step 10 = .ok (.ifCond .ne 5, 3) := by decide +kernel
theorem dX11_step_13 : decode cX11_step 13 = .ok (.iconst 0, 1) := by decide +kernel
theorem dX11_step_14 : decode cX11_step 14 = .ok (.ireturn, 1) := by decide +kernel
theorem dX11_step_15 : decode cX11_step 15 = .ok (.aload_n 0, 1) := by decide +kernel
theorem dX11_step_16 : decode cX11_step 16 = .ok (.getfield 13, 3) := by decide +kernel
theorem dX11_step_19 : decode cX11_step 19 = .ok (.iconst 5, 1) := by decide +kernel
theorem dX11_step_20 : decode cX11_step 20 = .ok (.iload_n 1, 1) := by decide +kernel
theorem dX11_step_21 : decode cX11_step 21 = .ok (.iadd, 1) := by decide +kernel
theorem dX11_step_22 : decode cX11_step 22 = .ok (.dup2, 1) := by decide +kernel
theorem dX11_step_23 : decode cX11_step 23 = .ok (.iaload, 1) := by decide +kernel
theorem dX11_step_24 : decode cX11_step 24 = .ok (.iconst 1, 1) := by decide +kernel
theorem dX11_step_25 : decode cX11_step 25 = .ok (.isub, 1) := by decide +kernel
theorem dX11_step_26 : decode cX11_step 26 = .ok (.iastore, 1) := by decide +kernel
theorem dX11_step_27 : decode cX11_step 27 = .ok (.iload_n 2, 1) := by decide +kernel
theorem dX11_step_28 : decode cX11_step 28 = .ok (.iconst 1, 1) := by decide +kernel
theorem dX11_step_29 : decode cX11_step 29 = .ok (.if_icmp .ne 37, 3) := by decide +kernel
theorem dX11_step_32 : decode cX11_step 32 = .ok (.aload_n 0, 1) := by decide +kernel
theorem dX11_step_33 : decode cX11_step 33 = .ok (.getfield 13, 3) := by decide +kernel
theorem dX11_step_36 : decode cX11_step 36 = .ok (.bipush 15, 2) := by decide +kernel
theorem dX11_step_38 : decode cX11_step 38 = .ok (.iload_n 1, 1) := by decide +kernel
theorem dX11_step_39 : decode cX11_step 39 = .ok (.iadd, 1) := by decide +kernel
theorem dX11_step_40 : decode cX11_step 40 = .ok (.iaload, 1) := by decide +kernel
theorem dX11_step_41 : decode cX11_step 41 = .ok (.aload_n 0, 1) := by decide +kernel
theorem dX11_step_42 : decode cX11_step 42 = .ok (.iload_n 1, 1) := by decide +kernel
theorem dX11_step_43 : decode cX11_step 43 = .ok (.invokevirtual 152, 3) := by decide +kernel
theorem dX11_step_46 : decode cX11_step 46 = .ok (.isub, 1) := by decide +kernel
theorem dX11_step_47 : decode cX11_step 47 = .ok (.istore_n 3, 1) := by decide +kernel
theorem dX11_step_48 : decode cX11_step 48 = .ok (.aload_n 0, 1) := by decide +kernel
theorem dX11_step_49 : decode cX11_step 49 = .ok (.getfield 13, 3) := by decide +kernel
theorem dX11_step_52 : decode cX11_step 52 = .ok (.bipush 15, 2) := by decide +kernel
theorem dX11_step_54 : decode cX11_step 54 = .ok (.iload_n 1, 1) := by decide +kernel
theorem dX11_step_55 : decode cX11_step 55 = .ok (.iadd, 1) := by decide +kernel
theorem dX11_step_56 : decode cX11_step 56 = .ok (.iload_n 3, 1) := by decide +kernel
theorem dX11_step_57 : decode cX11_step 57 = .ok (.ifCond .ge 7, 3) := by decide +kernel
theorem dX11_step_60 : decode cX11_step 60 = .ok (.iconst 0, 1) := by decide +kernel
theorem dX11_step_61 : decode cX11_step 61 = .ok (.goto 4, 3) := by decide +kernel
theorem dX11_step_64 : decode cX11_step 64 = .ok (.iload_n 3, 1) := by decide +kernel
theorem dX11_step_65 : decode cX11_step 65 = .ok (.iastore, 1) := by decide +kernel
theorem dX11_step_66 : decode cX11_step 66 = .ok (.aload_n 0, 1) := by decide +kernel
theorem dX11_step_67 : decode cX11_step 67 = .ok (.getfield 13, 3) := by decide +kernel
theorem dX11_step_70 : decode cX11_step 70 = .ok (.iconst 5, 1) := by decide +kernel
theorem dX11_step_71 : decode cX11_step 71 = .ok (.iload_n 1, 1) := by decide +kernel
theorem dX11_step_72 : decode cX11_step 72 = .ok (.iadd, 1) := by decide +kernel
theorem dX11_step_73 : decode cX11_step 73 = .ok (.iaload, 1) := by decide +kernel
theorem dX11_step_74 : decode cX11_step 74 = .ok (.ifCond .le 5, 3) := by decide +kernel
theorem dX11_step_77 : decode cX11_step 77 = .ok (.iconst 0, 1) := by decide +kernel
theorem dX11_step_78 : decode cX11_step 78 = .ok (.ireturn, 1) := by decide +kernel
theorem dX11_step_79 : decode cX11_step 79 = .ok (.iload_n 2, 1) := by decide +kernel
theorem dX11_step_80 : decode cX11_step 80 = .ok (.iconst 2, 1) := by decide +kernel
theorem dX11_step_81 : decode cX11_step 81 = .ok (.if_icmp .ne 23, 3) := by decide +kernel
theorem dX11_step_84 : decode cX11_step 84 = .ok (.aload_n 0, 1) := by decide +kernel
theorem dX11_step_85 : decode cX11_step 85 = .ok (.getfield 13, 3) := by decide +kernel
theorem dX11_step_88 : decode cX11_step 88 = .ok (.bipush 20, 2) := by decide +kernel
theorem dX11_step_90 : decode cX11_step 90 = .ok (.iload_n 1, 1) := by decide +kernel
theorem dX11_step_91 : decode cX11_step 91 = .ok (.iadd, 1) := by decide +kernel
theorem dX11_step_92 : decode cX11_step 92 = .ok (.dup2, 1) := by decide +kernel
theorem dX11_step_93 : decode cX11_step 93 = .ok (.iaload, 1) := by decide +kernel
theorem dX11_step_94 : decode cX11_step 94 = .ok (.iconst 1, 1) := by decide +kernel
theorem dX11_step_95 : decode cX11_step 95 = .ok (.iadd, 1) := by decide +kernel
theorem dX11_step_96 : decode cX11_step 96 = .ok (.iastore, 1) := by decide +kernel
theorem dX11_step_97 : decode cX11_step 97 = .ok (.aload_n 0, 1) := by decide +kernel
theorem dX11_step_98 : decode cX11_step 98 = .ok (.iload_n 1, 1) := by decide +kernel
theorem dX11_step_99 : decode cX11_step 99 = .ok (.invokevirtual 155, 3) := by decide +kernel
theorem dX11_step_102 : decode cX11_step 102 = .ok (.iconst 0, 1) := by decide +kernel
theorem dX11_step_103 : decode cX11_step 103 = .ok (.ireturn, 1) := by decide +kernel
theorem dX11_step_104 : decode cX11_step 104 = .ok (.aload_n 0, 1) := by decide +kernel
theorem dX11_step_105 : decode cX11_step 105 = .ok (.getfield 13, 3) := by decide +kernel
theorem dX11_step_108 : decode cX11_step 108 = .ok (.bipush 15, 2) := by decide +kernel
theorem dX11_step_110 : decode cX11_step 110 = .ok (.iload_n 1, 1) := by decide +kernel
theorem dX11_step_111 : decode cX11_step 111 = .ok (.iadd, 1) := by decide +kernel
theorem dX11_step_112 : decode cX11_step 112 = .ok (.iaload, 1) := by decide +kernel
theorem dX11_step_113 : decode cX11_step 113 = .ok (.istore_n 3, 1) := by decide +kernel
theorem dX11_step_114 : decode cX11_step 114 = .ok (.aload_n 0, 1) := by decide +kernel
theorem dX11_step_115 : decode cX11_step 115 = .ok (.getfield 13, 3) := by decide +kernel
theorem dX11_step_118 : decode cX11_step 118 = .ok (.bipush 15, 2) := by decide +kernel
theorem dX11_step_120 : decode cX11_step 120 = .ok (.iload_n 1, 1) := by decide +kernel
theorem dX11_step_121 : decode cX11_step 121 = .ok (.iadd, 1) := by decide +kernel
theorem dX11_step_122 : decode cX11_step 122 = .ok (.iconst 0, 1) := by decide +kernel
theorem dX11_step_123 : decode cX11_step 123 = .ok (.iastore, 1) := by decide +kernel
theorem dX11_step_124 : decode cX11_step 124 = .ok (.aload_n 0, 1) := by decide +kernel
theorem dX11_step_125 : decode cX11_step 125 = .ok (.getfield 13, 3) := by decide +kernel
theorem dX11_step_128 : decode cX11_step 128 = .ok (.iconst 0, 1) := by decide +kernel
theorem dX11_step_129 : decode cX11_step 129 = .ok (.iload_n 1, 1) := by decide +kernel
theorem dX11_step_130 : decode cX11_step 130 = .ok (.iadd, 1) := by decide +kernel
theorem dX11_step_131 : decode cX11_step 131 = .ok (.iconst 2, 1) := by decide +kernel
theorem dX11_step_132 : decode cX11_step 132 = .ok (.iastore, 1) := by decide +kernel
theorem dX11_step_133 : decode cX11_step 133 = .ok (.aload_n 0, 1) := by decide +kernel
theorem dX11_step_134 : decode cX11_step 134 = .ok (.getfield 13, 3) := by decide +kernel
theorem dX11_step_137 : decode cX11_step 137 = .ok (.iconst 5, 1) := by decide +kernel
theorem dX11_step_138 : decode cX11_step 138 = .ok (.iload_n 1, 1) := by decide +kernel
theorem dX11_step_139 : decode cX11_step 139 = .ok (.iadd, 1) := by decide +kernel
theorem dX11_step_140 : decode cX11_step 140 = .ok (.aload_n 0, 1) := by decide +kernel
theorem dX11_step_141 : decode cX11_step 141 = .ok (.getfield 13, 3) := by decide +kernel
theorem dX11_step_144 : decode cX11_step 144 = .ok (.bipush 10, 2) := by decide +kernel
theorem dX11_step_146 : decode cX11_step 146 = .ok (.iload_n 1, 1) := by decide +kernel
theorem dX11_step_147 : decode cX11_step 147 = .ok (.iadd, 1) := by decide +kernel
theorem dX11_step_148 : decode cX11_step 148 = .ok (.iaload, 1) := by decide +kernel
theorem dX11_step_149 : decode cX11_step 149 = .ok (.aload_n 0, 1) := by decide +kernel
theorem dX11_step_150 : decode cX11_step 150 = .ok (.iload_n 1, 1) := by decide +kernel
theorem dX11_step_151 : decode cX11_step 151 = .ok (.iconst 0, 1) := by decide +kernel
theorem dX11_step_152 : decode cX11_step 152 = .ok (.invokevirtual 133, 3) := by decide +kernel
theorem dX11_step_155 : decode cX11_step 155 = .ok (.iconst 2, 1) := by decide +kernel
theorem dX11_step_156 : decode cX11_step 156 = .ok (.if_icmp .ne 7, 3) := by decide +kernel
theorem dX11_step_159 : decode cX11_step 159 = .ok (.iconst 2, 1) := by decide +kernel
theorem dX11_step_160 : decode cX11_step 160 = .ok (.goto 4, 3) := by decide +kernel
theorem dX11_step_163 : decode cX11_step 163 = .ok (.iconst 0, 1) := by decide +kernel
theorem dX11_step_164 : decode cX11_step 164 = .ok (.iadd, 1) := by decide +kernel
theorem dX11_step_165 : decode cX11_step 165 = .ok (.iastore, 1) := by decide +kernel
theorem dX11_step_166 : decode cX11_step 166 = .ok (.iload_n 3, 1) := by decide +kernel
theorem dX11_step_167 : decode cX11_step 167 = .ok (.ireturn, 1) := by decide +kernel
theorem dX11_oneMinute_0 : decode cX11_oneMinute 0 = .ok (.iconst 0, 1) := by decide +kernel
theorem dX11_oneMinute_1 : decode cX11_oneMinute 1 = .ok (.istore_n 1, 1) := by decide +kernel
theorem dX11_oneMinute_2 : decode cX11_oneMinute 2 = .ok (.iconst 0, 1) := by decide +kernel
theorem dX11_oneMinute_3 : decode cX11_oneMinute 3 = .ok (.istore_n 2, 1) := by decide +kernel
theorem dX11_oneMinute_4 : decode cX11_oneMinute 4 = .ok (.iload_n 2, 1) := by decide +kernel
theorem dX11_oneMinute_5 : decode cX11_oneMinute 5 = .ok (.aload_n 0, 1) := by decide +kernel
theorem dX11_oneMinute_6 : decode cX11_oneMinute 6 = .ok (.getfield 45, 3) := by decide +kernel
theorem dX11_oneMinute_9 : decode cX11_oneMinute 9 = .ok (.if_icmp .ge 17, 3) := by decide +kernel
theorem dX11_oneMinute_12 : decode cX11_oneMinute 12 = .ok (.iload_n 1, 1) := by decide +kernel
theorem dX11_oneMinute_13 : decode cX11_oneMinute 13 = .ok (.aload_n 0, 1) := by decide +kernel
theorem dX11_oneMinute_14 : decode cX11_oneMinute 14 = .ok (.iload_n 2, 1) := by decide +kernel
theorem dX11_oneMinute_15 : decode cX11_oneMinute 15 = .ok (.invokevirtual 159, 3) := by decide +kernel
theorem dX11_oneMinute_18 : decode cX11_oneMinute 18 = .ok (.iadd, 1) := by decide +kernel
theorem dX11_oneMinute_19 : decode cX11_oneMinute 19 = .ok (.istore_n 1, 1) := by decide +kernel
theorem dX11_oneMinute_20 : decode cX11_oneMinute 20 = .ok (.iinc 2 1, 3) := by decide +kernel
theorem dX11_oneMinute_23 : decode cX11_oneMinute 23 = .ok (.goto (-19), 3) := by decide +kernel
theorem dX11_oneMinute_26 : decode cX11_oneMinute 26 = .ok (.aload_n 0, 1) := by decide +kernel
theorem dX11_oneMinute_27 : decode cX11_oneMinute 27 = .ok (.getfield 13, 3) := by decide +kernel
theorem dX11_oneMinute_30 : decode cX11_oneMinute 30 = .ok (.bipush 34, 2) := by decide +kernel
theorem dX11_oneMinute_32 : decode cX11_oneMinute 32 = .ok (.dup2, 1) := by decide +kernel
theorem dX11_oneMinute_33 : decode cX11_oneMinute 33 = .ok (.iaload, 1) := by decide +kernel
theorem dX11_oneMinute_34 : decode cX11_oneMinute 34 = .ok (.iload_n 1, 1) := by decide +kernel
theorem dX11_oneMinute_35 : decode cX11_oneMinute 35 = .ok (.iadd, 1) := by decide +kernel
theorem dX11_oneMinute_36 : decode cX11_oneMinute 36 = .ok (.iastore, 1) := by decide +kernel
theorem dX11_oneMinute_37 : decode cX11_oneMinute 37 = .ok (.aload_n 0, 1) := by decide +kernel
theorem dX11_oneMinute_38 : decode cX11_oneMinute 38 = .ok (.getfield 13, 3) := by decide +kernel
theorem dX11_oneMinute_41 : decode cX11_oneMinute 41 = .ok (.bipush 31, 2) := by decide +kernel
theorem dX11_oneMinute_43 : decode cX11_oneMinute 43 = .ok (.iaload, 1) := by decide +kernel
theorem dX11_oneMinute_44 : decode cX11_oneMinute 44 = .ok (.iload_n 1, 1) := by decide +kernel
theorem dX11_oneMinute_45 : decode cX11_oneMinute 45 = .ok (.iadd, 1) := by decide +kernel
theorem dX11_oneMinute_46 : decode cX11_oneMinute 46 = .ok (.istore_n 2, 1) := by decide +kernel
theorem dX11_oneMinute_47 : decode cX11_oneMinute 47 = .ok (.iload_n 2, 1) := by decide +kernel
theorem dX11_oneMinute_48 : decode cX11_oneMinute 48 = .ok (.aload_n 0, 1) := by decide +kernel
theorem dX11_oneMinute_49 : decode cX11_oneMinute 49 = .ok (.getfield 7, 3) := by decide +kernel
theorem dX11_oneMinute_52 : decode cX11_oneMinute 52 = .ok (.iconst 0, 1) := by decide +kernel
theorem dX11_oneMinute_53 : decode cX11_oneMinute 53 = .ok (.iaload, 1) := by decide +kernel
theorem dX11_oneMinute_54 : decode cX11_oneMinute 54 = .ok (.if_icmp .le 12, 3) := by decide +kernel
theorem dX11_oneMinute_57 : decode cX11_oneMinute 57 = .ok (.aload_n 0, 1) := by decide +kernel
theorem dX11_oneMinute_58 : decode cX11_oneMinute 58 = .ok (.getfield 7, 3) := by decide +kernel
theorem dX11_oneMinute_61 : decode cX11_oneMinute 61 = .ok (.iconst 0, 1) := by decide +kernel
theorem dX11_oneMinute_62 : decode cX11_oneMinute 62 = .ok (.iaload, 1) := by decide +kernel
theorem dX11_oneMinute_63 : decode cX11_oneMinute 63 = .ok (.goto 4, 3) := by decide +kernel
theorem dX11_oneMinute_66 : decode cX11_oneMinute 66 = .ok (.iload_n 2, 1) := by decide +kernel
theorem dX11_oneMinute_67 : decode cX11_oneMinute 67 = .ok (.istore_n 2, 1) := by decide +kernel
theorem dX11_oneMinute_68 : decode cX11_oneMinute 68 = .ok (.aload_n 0, 1) := by decide +kernel
theorem dX11_oneMinute_69 : decode cX11_oneMinute 69 = .ok (.getfield 13, 3) := by decide +kernel
theorem dX11_oneMinute_72 : decode cX11_oneMinute 72 = .ok (.bipush 33, 2) := by decide +kernel
theorem dX11_oneMinute_74 : decode cX11_oneMinute 74 = .ok (.dup2, 1) := by decide +kernel
theorem dX11_oneMinute_75 : decode cX11_oneMinute 75 = .ok (.iaload, 1) := by decide +kernel
theorem dX11_oneMinute_76 : decode cX11_oneMinute 76 = .ok (.iload_n 2, 1) := by decide +kernel
theorem dX11_oneMinute_77 : decode cX11_oneMinute 77 = .ok (.aload_n 0, 1) := by decide +kernel
theorem dX11_oneMinute_78 : decode cX11_oneMinute 78 = .ok (.getfield 7, 3) := by decide +kernel
theorem dX11_oneMinute_81 : decode cX11_oneMinute 81 = .ok (.iconst 0, 1) := by decide +kernel
theorem dX11_oneMinute_82 : decode cX11_oneMinute 82 = .ok (.iaload, 1) := by decide +kernel
theorem dX11_oneMinute_83 : decode cX11_oneMinute 83 = .ok (.if_icmp .ne 7, 3) := by decide +kernel
theorem dX11_oneMinute_86 : decode cX11_oneMinute 86 = .ok (.iconst 1, 1) := by decide +kernel
theorem dX11_oneMinute_87 : decode cX11_oneMinute 87 = .ok (.goto 4, 3) := by decide +kernel
theorem dX11_oneMinute_90 : decode cX11_oneMinute 90 = .ok (.iconst 0, 1) := by decide +kernel
theorem dX11_oneMinute_91 : decode cX11_oneMinute 91 = .ok (.iadd, 1) := by decide +kernel
theorem dX11_oneMinute_92 : decode cX11_oneMinute 92 = .ok (.iastore, 1) := by decide +kernel
theorem dX11_oneMinute_93 : decode cX11_oneMinute 93 = .ok (.aload_n 0, 1) := by decide +kernel
theorem dX11_oneMinute_94 : decode cX11_oneMinute 94 = .ok (.getfield 13, 3) := by decide +kernel
theorem dX11_oneMinute_97 : decode cX11_oneMinute 97 = .ok (.bipush 31, 2) := by decide +kernel
theorem dX11_oneMinute_99 : decode cX11_oneMinute 99 = .ok (.iload_n 2, 1) := by decide +kernel
theorem dX11_oneMinute_100 : decode cX11_oneMinute 100 = .ok (.iload_n 2, 1) := by decide +kernel
theorem dX11_oneMinute_101 : decode cX11_oneMinute 101 = .ok (.aload_n 0, 1) := by decide +kernel
theorem dX11_oneMinute_102 : decode cX11_oneMinute 102 = .ok (.getfield 13, 3) := by decide +kernel
theorem dX11_oneMinute_105 : decode cX11_oneMinute 105 = .ok (.bipush 32, 2) := by decide +kernel
theorem dX11_oneMinute_107 : decode cX11_oneMinute 107 = .ok (.iaload, 1) := by decide +kernel
theorem dX11_oneMinute_108 : decode cX11_oneMinute 108 = .ok (.imul, 1) := by decide +kernel
theorem dX11_oneMinute_109 : decode cX11_oneMinute 109 = .ok (.bipush 19, 2) := by decide +kernel
theorem dX11_oneMinute_111 : decode cX11_oneMinute 111 = .ok (.iadd, 1) := by decide +kernel
theorem dX11_oneMinute_112 : decode cX11_oneMinute 112 = .ok (.bipush 20, 2) := by decide +kernel
theorem dX11_oneMinute_114 : decode cX11_oneMinute 114 = .ok (.idiv, 1) := by decide +kernel
theorem dX11_oneMinute_115 : decode cX11_oneMinute 115 = .ok (.isub, 1) := by decide +kernel
theorem dX11_oneMinute_116 : decode cX11_oneMinute 116 = .ok (.iastore, 1) := by decide +kernel
theorem dX11_oneMinute_117 : decode cX11_oneMinute 117 = .ok (.aload_n 0, 1) := by decide +kernel
theorem dX11_oneMinute_118 : decode cX11_oneMinute 118 = .ok (.getfield 13, 3) := by decide +kernel
theorem dX11_oneMinute_121 : decode cX11_oneMinute 121 = .ok (.bipush 30, 2) := by decide +kernel
theorem dX11_oneMinute_123 : decode cX11_oneMinute 123 = .ok (.dup2, 1) := by decide +kernel
theorem dX11_oneMinute_124 : decode cX11_oneMinute 124 = .ok (.iaload, 1) := by decide +kernel
theorem dX11_oneMinute_125 : decode cX11_oneMinute 125 = .ok (.iconst 1, 1) := by decide +kernel
theorem dX11_oneMinute_126 : decode cX11_oneMinute 126 = .ok (.iadd, 1) := by decide +kernel
theorem dX11_oneMinute_127 : decode cX11_oneMinute 127 = .ok (.iastore, 1) := by decide +kernel
theorem dX11_oneMinute_128 : decode cX11_oneMinute 128 = .ok (.iload_n 2, 1) := by decide +kernel
theorem dX11_oneMinute_129 : decode cX11_oneMinute 129 = .ok (.ireturn, 1) := by decide +kernel
theorem dX11_note_0 : decode cX11_note 0 = .ok (.aload_n 0, 1) := by decide +kernel
theorem dX11_note_1 : decode cX11_note 1 = .ok (.getfield 130, 3) := by decide +kernel
theorem dX11_note_4 : decode cX11_note 4 = .ok (.bipush 8, 2) := by decide +kernel
theorem dX11_note_6 : decode cX11_note 6 = .ok (.if_icmp .ne 43, 3) := by decide +kernel
theorem dX11_note_9 : decode cX11_note 9 = .ok (.iconst 0, 1) := by decide +kernel
theorem dX11_note_10 : decode cX11_note 10 = .ok (.istore_n 1, 1) := by decide +kernel
theorem dX11_note_11 : decode cX11_note 11 = .ok (.iload_n 1, 1) := by decide +kernel
theorem dX11_note_12 : decode cX11_note 12 = .ok (.sipush 245, 3) := by decide +kernel
theorem dX11_note_15 : decode cX11_note 15 = .ok (.if_icmp .ge 24, 3) := by decide +kernel
theorem dX11_note_18 : decode cX11_note 18 = .ok (.aload_n 0, 1) := by decide +kernel
theorem dX11_note_19 : decode cX11_note 19 = .ok (.getfield 22, 3) := by decide +kernel
theorem dX11_note_22 : decode cX11_note 22 = .ok (.iload_n 1, 1) := by decide +kernel
theorem dX11_note_23 : decode cX11_note 23 = .ok (.aload_n 0, 1) := by decide +kernel
theorem dX11_note_24 : decode cX11_note 24 = .ok (.getfield 22, 3) := by decide +kernel
theorem dX11_note_27 : decode cX11_note 27 = .ok (.iload_n 1, 1) := by decide +kernel
theorem dX11_note_28 : decode cX11_note 28 = .ok (.bipush 35, 2) := by decide +kernel
theorem dX11_note_30 : decode cX11_note 30 = .ok (.iadd, 1) := by decide +kernel
theorem dX11_note_31 : decode cX11_note 31 = .ok (.iaload, 1) := by decide +kernel
theorem dX11_note_32 : decode cX11_note 32 = .ok (.iastore, 1) := by decide +kernel
theorem dX11_note_33 : decode cX11_note 33 = .ok (.iinc 1 1, 3) := by decide +kernel
theorem dX11_note_36 : decode cX11_note 36 = .ok (.goto (-25), 3) := by decide +kernel
theorem dX11_note_39 : decode cX11_note 39 = .ok (.aload_n 0, 1) := by decide +kernel
theorem dX11_note_40 : decode cX11_note 40 = .ok (.dup, 1) := by decide +kernel
theorem dX11_note_41 : decode cX11_note 41 = .ok (.getfield 130, 3) := by decide +kernel
theorem dX11_note_44 : decode cX11_note 44 = .ok (.iconst 1, 1) := by decide +kernel
theorem dX11_note_45 : decode cX11_note 45 = .ok (.isub, 1) := by decide +kernel
theorem dX11_note_46 : decode cX11_note 46 = .ok (.putfield 130, 3) := by decide +kernel
theorem dX11_note_49 : decode cX11_note 49 = .ok (.iconst 0, 1) := by decide +kernel
theorem dX11_note_50 : decode cX11_note 50 = .ok (.istore_n 1, 1) := by decide +kernel
theorem dX11_note_51 : decode cX11_note 51 = .ok (.iload_n 1, 1) := by decide +kernel
theorem dX11_note_52 : decode cX11_note 52 = .ok (.bipush 35, 2) := by decide +kernel
theorem dX11_note_54 : decode cX11_note 54 = .ok (.if_icmp .ge 29, 3) := by decide +kernel
theorem dX11_note_57 : decode cX11_note 57 = .ok (.aload_n 0, 1) := by decide +kernel
theorem dX11_note_58 : decode cX11_note 58 = .ok (.getfield 22, 3) := by decide +kernel
theorem dX11_note_61 : decode cX11_note 61 = .ok (.bipush 35, 2) := by decide +kernel
theorem dX11_note_63 : decode cX11_note 63 = .ok (.aload_n 0, 1) := by decide +kernel
theorem dX11_note_64 : decode cX11_note 64 = .ok (.getfield 130, 3) := by decide +kernel
theorem dX11_note_67 : decode cX11_note 67 = .ok (.imul, 1) := by decide +kernel
theorem dX11_note_68 : decode cX11_note 68 = .ok (.iload_n 1, 1) := by decide +kernel
theorem dX11_note_69 : decode cX11_note 69 = .ok (.iadd, 1) := by decide +kernel
theorem dX11_note_70 : decode cX11_note 70 = .ok (.aload_n 0, 1) := by decide +kernel
theorem dX11_note_71 : decode cX11_note 71 = .ok (.getfield 13, 3) := by decide +kernel
theorem dX11_note_74 : decode cX11_note 74 = .ok (.iload_n 1, 1) := by decide +kernel
theorem dX11_note_75 : decode cX11_note 75 = .ok (.iaload, 1) := by decide +kernel
theorem dX11_note_76 : decode cX11_note 76 = .ok (.iastore, 1) := by decide +kernel
theorem dX11_note_77 : decode cX11_note 77 = .ok (.iinc 1 1, 3) := by decide +kernel
theorem dX11_note_80 : decode cX11_note 80 = .ok (.goto (-29), 3) := by decide +kernel
theorem dX11_note_83 : decode cX11_note 83 = .ok (.aload_n 0, 1) := by decide +kernel
theorem dX11_note_84 : decode cX11_note 84 = .ok (.dup, 1) := by decide +kernel
theorem dX11_note_85 : decode cX11_note 85 = .ok (.getfield 130, 3) := by decide +kernel
theorem dX11_note_88 : decode cX11_note 88 = .ok (.iconst 1, 1) := by decide +kernel
theorem dX11_note_89 : decode cX11_note 89 = .ok (.iadd, 1) := by decide +kernel
theorem dX11_note_90 : decode cX11_note 90 = .ok (.putfield 130, 3) := by decide +kernel
theorem dX11_note_93 : decode cX11_note 93 = .ok (.return_, 1) := by decide +kernel
theorem dX11_begin_0 : decode cX11_begin 0 = .ok (.aload_n 0, 1) := by decide +kernel
theorem dX11_begin_1 : decode cX11_begin 1 = .ok (.iload_n 1, 1) := by decide +kernel
theorem dX11_begin_2 : decode cX11_begin 2 = .ok (.invokevirtual 139, 3) := by decide +kernel
theorem dX11_begin_5 : decode cX11_begin 5 = .ok (.ifCond .ne 6, 3) := by decide +kernel
theorem dX11_begin_8 : decode cX11_begin 8 = .ok (.bipush (-2), 2) := by decide +kernel
theorem dX11_begin_10 : decode cX11_begin 10 = .ok (.ireturn, 1) := by decide +kernel
theorem dX11_begin_11 : decode cX11_begin 11 = .ok (.aload_n 0, 1) := by decide +kernel
theorem dX11_begin_12 : decode cX11_begin 12 = .ok (.getfield 13, 3) := by decide +kernel
theorem dX11_begin_15 : decode cX11_begin 15 = .ok (.iconst 0, 1) := by decide +kernel
theorem dX11_begin_16 : decode cX11_begin 16 = .ok (.iload_n 1, 1) := by decide +kernel
theorem dX11_begin_17 : decode cX11_begin 17 = .ok (.iadd, 1) := by decide +kernel
theorem dX11_begin_18 : decode cX11_begin 18 = .ok (.iaload, 1) := by decide +kernel
theorem dX11_begin_19 : decode cX11_begin 19 = .ok (.ifCond .eq 6, 3) := by decide +kernel
theorem dX11_begin_22 : decode cX11_begin 22 = .ok (.bipush (-4), 2) := by decide +kernel
theorem dX11_begin_24 : decode cX11_begin 24 = .ok (.ireturn, 1) := by decide +kernel
theorem dX11_begin_25 : decode cX11_begin 25 = .ok (.aload_n 0, 1) := by decide +kernel
theorem dX11_begin_26 : decode cX11_begin 26 = .ok (.invokevirtual 162, 3) := by decide +kernel
theorem dX11_begin_29 : decode cX11_begin 29 = .ok (.aload_n 0, 1) := by decide +kernel
theorem dX11_begin_30 : decode cX11_begin 30 = .ok (.iload_n 1, 1) := by decide +kernel
theorem dX11_begin_31 : decode cX11_begin 31 = .ok (.invokevirtual 155, 3) := by decide +kernel
theorem dX11_begin_34 : decode cX11_begin 34 = .ok (.aload_n 0, 1) := by decide +kernel
theorem dX11_begin_35 : decode cX11_begin 35 = .ok (.getfield 13, 3) := by decide +kernel
theorem dX11_begin_38 : decode cX11_begin 38 = .ok (.iconst 5, 1) := by decide +kernel
theorem dX11_begin_39 : decode cX11_begin 39 = .ok (.iload_n 1, 1) := by decide +kernel
theorem dX11_begin_40 : decode cX11_begin 40 = .ok (.iadd, 1) := by decide +kernel
theorem dX11_begin_41 : decode cX11_begin 41 = .ok (.iaload, 1) := by decide +kernel
theorem dX11_begin_42 : decode cX11_begin 42 = .ok (.ireturn, 1) := by decide +kernel
theorem dX11_rest_0 : decode cX11_rest 0 = .ok (.aload_n 0, 1) := by decide +kernel
theorem dX11_rest_1 : decode cX11_rest 1 = .ok (.iload_n 1, 1) := by decide +kernel
theorem dX11_rest_2 : decode cX11_rest 2 = .ok (.invokevirtual 139, 3) := by decide +kernel
theorem dX11_rest_5 : decode cX11_rest 5 = .ok (.ifCond .ne 6, 3) := by decide +kernel
theorem dX11_rest_8 : decode cX11_rest 8 = .ok (.bipush (-2), 2) := by decide +kernel
theorem dX11_rest_10 : decode cX11_rest 10 = .ok (.ireturn, 1) := by decide +kernel
theorem dX11_rest_11 : decode cX11_rest 11 = .ok (.aload_n 0, 1) := by decide +kernel
theorem dX11_rest_12 : decode cX11_rest 12 = .ok (.getfield 13, 3) := by decide +kernel
theorem dX11_rest_15 : decode cX11_rest 15 = .ok (.iconst 0, 1) := by decide +kernel
theorem dX11_rest_16 : decode cX11_rest 16 = .ok (.iload_n 1, 1) := by decide +kernel
theorem dX11_rest_17 : decode cX11_rest 17 = .ok (.iadd, 1) := by decide +kernel
theorem dX11_rest_18 : decode cX11_rest 18 = .ok (.iaload, 1) := by decide +kernel
theorem dX11_rest_19 : decode cX11_rest 19 = .ok (.ifCond .ne 6, 3) := by decide +kernel
theorem dX11_rest_22 : decode cX11_rest 22 = .ok (.bipush (-4), 2) := by decide +kernel
theorem dX11_rest_24 : decode cX11_rest 24 = .ok (.ireturn, 1) := by decide +kernel
theorem dX11_rest_25 : decode cX11_rest 25 = .ok (.aload_n 0, 1) := by decide +kernel
theorem dX11_rest_26 : decode cX11_rest 26 = .ok (.invokevirtual 162, 3) := by decide +kernel
theorem dX11_rest_29 : decode cX11_rest 29 = .ok (.aload_n 0, 1) := by decide +kernel
theorem dX11_rest_30 : decode cX11_rest 30 = .ok (.getfield 13, 3) := by decide +kernel
theorem dX11_rest_33 : decode cX11_rest 33 = .ok (.bipush 15, 2) := by decide +kernel
theorem dX11_rest_35 : decode cX11_rest 35 = .ok (.iload_n 1, 1) := by decide +kernel
theorem dX11_rest_36 : decode cX11_rest 36 = .ok (.iadd, 1) := by decide +kernel
theorem dX11_rest_37 : decode cX11_rest 37 = .ok (.iaload, 1) := by decide +kernel
theorem dX11_rest_38 : decode cX11_rest 38 = .ok (.istore_n 2, 1) := by decide +kernel
theorem dX11_rest_39 : decode cX11_rest 39 = .ok (.aload_n 0, 1) := by decide +kernel
theorem dX11_rest_40 : decode cX11_rest 40 = .ok (.iload_n 1, 1) := by decide +kernel
theorem dX11_rest_41 : decode cX11_rest 41 = .ok (.invokevirtual 165, 3) := by decide +kernel
theorem dX11_rest_44 : decode cX11_rest 44 = .ok (.iload_n 2, 1) := by decide +kernel
theorem dX11_rest_45 : decode cX11_rest 45 = .ok (.ireturn, 1) := by decide +kernel
theorem dX11_moss_0 : decode cX11_moss 0 = .ok (.aload_n 0, 1) := by decide +kernel
theorem dX11_moss_1 : decode cX11_moss 1 = .ok (.iload_n 1, 1) := by decide +kernel
theorem dX11_moss_2 : decode cX11_moss 2 = .ok (.invokevirtual 139, 3) := by decide +kernel
theorem dX11_moss_5 : decode cX11_moss 5 = .ok (.ifCond .ne 6, 3) := by decide +kernel
theorem dX11_moss_8 : decode cX11_moss 8 = .ok (.bipush (-2), 2) := by decide +kernel
theorem dX11_moss_10 : decode cX11_moss 10 = .ok (.ireturn, 1) := by decide +kernel
theorem dX11_moss_11 : decode cX11_moss 11 = .ok (.aload_n 0, 1) := by decide +kernel
theorem dX11_moss_12 : decode cX11_moss 12 = .ok (.iload_n 1, 1) := by decide +kernel
theorem dX11_moss_13 : decode cX11_moss 13 = .ok (.invokevirtual 142, 3) := by decide +kernel
theorem dX11_moss_16 : decode cX11_moss 16 = .ok (.ifCond .le 6, 3) := by decide +kernel
theorem dX11_moss_19 : decode cX11_moss 19 = .ok (.bipush (-4), 2) := by decide +kernel
theorem dX11_moss_21 : decode cX11_moss 21 = .ok (.ireturn, 1) := by decide +kernel
theorem dX11_moss_22 : decode cX11_moss 22 = .ok (.aload_n 0, 1) := by decide +kernel
theorem dX11_moss_23 : decode cX11_moss 23 = .ok (.invokevirtual 162, 3) := by decide +kernel
theorem dX11_moss_26 : decode cX11_moss 26 = .ok (.aload_n 0, 1) := by decide +kernel
theorem dX11_moss_27 : decode cX11_moss 27 = .ok (.getfield 13, 3) := by decide +kernel
theorem dX11_moss_30 : decode cX11_moss 30 = .ok (.bipush 25, 2) := by decide +kernel
theorem dX11_moss_32 : decode cX11_moss 32 = .ok (.iload_n 1, 1) := by decide +kernel
theorem dX11_moss_33 : decode cX11_moss 33 = .ok (.iadd, 1) := by decide +kernel
theorem dX11_moss_34 : decode cX11_moss 34 = .ok (.aload_n 0, 1) := by decide +kernel
theorem dX11_moss_35 : decode cX11_moss 35 = .ok (.getfield 13, 3) := by decide +kernel
theorem dX11_moss_38 : decode cX11_moss 38 = .ok (.bipush 30, 2) := by decide +kernel
theorem dX11_moss_40 : decode cX11_moss 40 = .ok (.iaload, 1) := by decide +kernel
theorem dX11_moss_41 : decode cX11_moss 41 = .ok (.bipush 30, 2) := by decide +kernel
theorem dX11_moss_43 : decode cX11_moss 43 = .ok (.iadd, 1) := by decide +kernel
theorem dX11_moss_44 : decode cX11_moss 44 = .ok (.iastore, 1) := by decide +kernel
theorem dX11_moss_45 : decode cX11_moss 45 = .ok (.bipush 30, 2) := by decide +kernel
theorem dX11_moss_47 : decode cX11_moss 47 = .ok (.ireturn, 1) := by decide +kernel
theorem dX11_less_0 : decode cX11_less 0 = .ok (.iload_n 0, 1) := by decide +kernel
theorem dX11_less_1 : decode cX11_less 1 = .ok (.iload_n 1, 1) := by decide +kernel
theorem dX11_less_2 : decode cX11_less 2 = .ok (.if_icmp .ge 7, 3) := by decide +kernel
theorem dX11_less_5 : decode cX11_less 5 = .ok (.iconst 0, 1) := by decide +kernel
theorem dX11_less_6 : decode cX11_less 6 = .ok (.goto 6, 3) := by decide +kernel
theorem dX11_less_9 : decode cX11_less 9 = .ok (.iload_n 0, 1) := by decide +kernel
theorem dX11_less_10 : decode cX11_less 10 = .ok (.iload_n 1, 1) := by decide +kernel
theorem dX11_less_11 : decode cX11_less 11 = .ok (.isub, 1) := by decide +kernel
theorem dX11_less_12 : decode cX11_less 12 = .ok (.ireturn, 1) := by decide +kernel
theorem dX11_smear_0 : decode cX11_smear 0 = .ok (.iload_n 1, 1) := by decide +kernel
theorem dX11_smear_1 : decode cX11_smear 1 = .ok (.i2l, 1) := by decide +kernel
theorem dX11_smear_2 : decode cX11_smear 2 = .ok (.lconst 1, 1) := by decide +kernel
theorem dX11_smear_3 : decode cX11_smear 3 = .ok (.ldc2_w 168, 3) := by decide +kernel
theorem dX11_smear_6 : decode cX11_smear 6 = .ok (.invokestatic 49, 3) := by decide +kernel
theorem dX11_smear_9 : decode cX11_smear 9 = .ok (.ifCond .ne 6, 3) := by decide +kernel
theorem dX11_smear_12 : decode cX11_smear 12 = .ok (.bipush (-3), 2) := by decide +kernel
theorem dX11_smear_14 : decode cX11_smear 14 = .ok (.ireturn, 1) := by decide +kernel
theorem dX11_smear_15 : decode cX11_smear 15 = .ok (.aload_n 0, 1) := by decide +kernel
theorem dX11_smear_16 : decode cX11_smear 16 = .ok (.getfield 13, 3) := by decide +kernel
theorem dX11_smear_19 : decode cX11_smear 19 = .ok (.bipush 32, 2) := by decide +kernel
theorem dX11_smear_21 : decode cX11_smear 21 = .ok (.iaload, 1) := by decide +kernel
theorem dX11_smear_22 : decode cX11_smear 22 = .ok (.ifCond .ne 6, 3) := by decide +kernel
theorem dX11_smear_25 : decode cX11_smear 25 = .ok (.bipush (-4), 2) := by decide +kernel
theorem dX11_smear_27 : decode cX11_smear 27 = .ok (.ireturn, 1) := by decide +kernel
theorem dX11_smear_28 : decode cX11_smear 28 = .ok (.aload_n 0, 1) := by decide +kernel
theorem dX11_smear_29 : decode cX11_smear 29 = .ok (.invokevirtual 162, 3) := by decide +kernel
theorem dX11_smear_32 : decode cX11_smear 32 = .ok (.aload_n 0, 1) := by decide +kernel
theorem dX11_smear_33 : decode cX11_smear 33 = .ok (.getfield 13, 3) := by decide +kernel
theorem dX11_smear_36 : decode cX11_smear 36 = .ok (.bipush 32, 2) := by decide +kernel
theorem dX11_smear_38 : decode cX11_smear 38 = .ok (.aload_n 0, 1) := by decide +kernel
theorem dX11_smear_39 : decode cX11_smear 39 = .ok (.getfield 13, 3) := by decide +kernel
theorem dX11_smear_42 : decode cX11_smear 42 = .ok (.bipush 32, 2) := by decide +kernel
theorem dX11_smear_44 : decode cX11_smear 44 = .ok (.iaload, 1) := by decide +kernel
theorem dX11_smear_45 : decode cX11_smear 45 = .ok (.iload_n 1, 1) := by decide +kernel
theorem dX11_smear_46 : decode cX11_smear 46 = .ok (.invokestatic 170, 3) := by decide +kernel
theorem dX11_smear_49 : decode cX11_smear 49 = .ok (.iastore, 1) := by decide +kernel
theorem dX11_smear_50 : decode cX11_smear 50 = .ok (.aload_n 0, 1) := by decide +kernel
theorem dX11_smear_51 : decode cX11_smear 51 = .ok (.getfield 13, 3) := by decide +kernel
theorem dX11_smear_54 : decode cX11_smear 54 = .ok (.bipush 32, 2) := by decide +kernel
theorem dX11_smear_56 : decode cX11_smear 56 = .ok (.iaload, 1) := by decide +kernel
theorem dX11_smear_57 : decode cX11_smear 57 = .ok (.ireturn, 1) := by decide +kernel
theorem dX11_go_0 : decode cX11_go 0 = .ok (.iload_n 1, 1) := by decide +kernel
theorem dX11_go_1 : decode cX11_go 1 = .ok (.i2l, 1) := by decide +kernel
theorem dX11_go_2 : decode cX11_go 2 = .ok (.lconst 1, 1) := by decide +kernel
theorem dX11_go_3 : decode cX11_go 3 = .ok (.ldc2_w 173, 3) := by decide +kernel
theorem dX11_go_6 : decode cX11_go 6 = .ok (.invokestatic 49, 3) := by decide +kernel
theorem dX11_go_9 : decode cX11_go 9 = .ok (.ifCond .ne 6, 3) := by decide +kernel
theorem dX11_go_12 : decode cX11_go 12 = .ok (.bipush (-3), 2) := by decide +kernel
theorem dX11_go_14 : decode cX11_go 14 = .ok (.ireturn, 1) := by decide +kernel
theorem dX11_go_15 : decode cX11_go 15 = .ok (.aload_n 0, 1) := by decide +kernel
theorem dX11_go_16 : decode cX11_go 16 = .ok (.getfield 13, 3) := by decide +kernel
theorem dX11_go_19 : decode cX11_go 19 = .ok (.bipush 30, 2) := by decide +kernel
theorem dX11_go_21 : decode cX11_go 21 = .ok (.iaload, 1) := by decide +kernel
theorem dX11_go_22 : decode cX11_go 22 = .ok (.iload_n 1, 1) := by decide +kernel
theorem dX11_go_23 : decode cX11_go 23 = .ok (.iadd, 1) := by decide +kernel
theorem dX11_go_24 : decode cX11_go 24 = .ok (.sipush 999, 3) := by decide +kernel
theorem dX11_go_27 : decode cX11_go 27 = .ok (.if_icmp .le 6, 3) := by decide +kernel
theorem dX11_go_30 : decode cX11_go 30 = .ok (.bipush (-5), 2) := by decide +kernel
theorem dX11_go_32 : decode cX11_go 32 = .ok (.ireturn, 1) := by decide +kernel
theorem dX11_go_33 : decode cX11_go 33 = .ok (.aload_n 0, 1) := by decide +kernel
theorem dX11_go_34 : decode cX11_go 34 = .ok (.invokevirtual 162, 3) := by decide +kernel
theorem dX11_go_37 : decode cX11_go 37 = .ok (.iconst 0, 1) := by decide +kernel
theorem dX11_go_38 : decode cX11_go 38 = .ok (.istore_n 2, 1) := by decide +kernel
theorem dX11_go_39 : decode cX11_go 39 = .ok (.iload_n 2, 1) := by decide +kernel
theorem dX11_go_40 : decode cX11_go 40 = .ok (.iload_n 1, 1) := by decide +kernel
theorem dX11_go_41 : decode cX11_go 41 = .ok (.if_icmp .ge 14, 3) := by decide +kernel
theorem dX11_go_44 : decode cX11_go 44 = .ok (.aload_n 0, 1) := by decide +kernel
theorem dX11_go_45 : decode cX11_go 45 = .ok (.invokevirtual 175, 3) := by decide +kernel
theorem dX11_go_48 : decode cX11_go 48 = .ok (.pop, 1) := by decide +kernel
theorem dX11_go_49 : decode cX11_go 49 = .ok (.iinc 2 1, 3) := by decide +kernel
theorem dX11_go_52 : decode cX11_go 52 = .ok (.goto (-13), 3) := by decide +kernel
theorem dX11_go_55 : decode cX11_go 55 = .ok (.aload_n 0, 1) := by decide +kernel
theorem dX11_go_56 : decode cX11_go 56 = .ok (.getfield 13, 3) := by decide +kernel
theorem dX11_go_59 : decode cX11_go 59 = .ok (.bipush 31, 2) := by decide +kernel
theorem dX11_go_61 : decode cX11_go 61 = .ok (.iaload, 1) := by decide +kernel
theorem dX11_go_62 : decode cX11_go 62 = .ok (.ireturn, 1) := by decide +kernel
theorem dX11_undo_0 : decode cX11_undo 0 = .ok (.aload_n 0, 1) := by decide +kernel
theorem dX11_undo_1 : decode cX11_undo 1 = .ok (.getfield 130, 3) := by decide +kernel
theorem dX11_undo_4 : decode cX11_undo 4 = .ok (.ifCond .ne 6, 3) := by decide +kernel
theorem dX11_undo_7 : decode cX11_undo 7 = .ok (.bipush (-4), 2) := by decide +kernel
theorem dX11_undo_9 : decode cX11_undo 9 = .ok (.ireturn, 1) := by decide +kernel
theorem dX11_undo_10 : decode cX11_undo 10 = .ok (.aload_n 0, 1) := by decide +kernel
theorem dX11_undo_11 : decode cX11_undo 11 = .ok (.dup, 1) := by decide +kernel
theorem dX11_undo_12 : decode cX11_undo 12 = .ok (.getfield 130, 3) := by decide +kernel
theorem dX11_undo_15 : decode cX11_undo 15 = .ok (.iconst 1, 1) := by decide +kernel
theorem dX11_undo_16 : decode cX11_undo 16 = .ok (.isub, 1) := by decide +kernel
theorem dX11_undo_17 : decode cX11_undo 17 = .ok (.putfield 130, 3) := by decide +kernel
theorem dX11_undo_20 : decode cX11_undo 20 = .ok (.iconst 0, 1) := by decide +kernel
theorem dX11_undo_21 : decode cX11_undo 21 = .ok (.istore_n 1, 1) := by decide +kernel
theorem dX11_undo_22 : decode cX11_undo 22 = .ok (.iload_n 1, 1) := by decide +kernel
theorem dX11_undo_23 : decode cX11_undo 23 = .ok (.bipush 35, 2) := by decide +kernel
theorem dX11_undo_25 : decode cX11_undo 25 = .ok (.if_icmp .ge 29, 3) := by decide +kernel
theorem dX11_undo_28 : decode cX11_undo 28 = .ok (.aload_n 0, 1) := by decide +kernel
theorem dX11_undo_29 : decode cX11_undo 29 = .ok (.getfield 13, 3) := by decide +kernel
theorem dX11_undo_32 : decode cX11_undo 32 = .ok (.iload_n 1, 1) := by decide +kernel
theorem dX11_undo_33 : decode cX11_undo 33 = .ok (.aload_n 0, 1) := by decide +kernel
theorem dX11_undo_34 : decode cX11_undo 34 = .ok (.getfield 22, 3) := by decide +kernel
theorem dX11_undo_37 : decode cX11_undo 37 = .ok (.bipush 35, 2) := by decide +kernel
theorem dX11_undo_39 : decode cX11_undo 39 = .ok (.aload_n 0, 1) := by decide +kernel
theorem dX11_undo_40 : decode cX11_undo 40 = .ok (.getfield 130, 3) := by decide +kernel
theorem dX11_undo_43 : decode cX11_undo 43 = .ok (.imul, 1) := by decide +kernel
theorem dX11_undo_44 : decode cX11_undo 44 = .ok (.iload_n 1, 1) := by decide +kernel
theorem dX11_undo_45 : decode cX11_undo 45 = .ok (.iadd, 1) := by decide +kernel
theorem dX11_undo_46 : decode cX11_undo 46 = .ok (.iaload, 1) := by decide +kernel
theorem dX11_undo_47 : decode cX11_undo 47 = .ok (.iastore, 1) := by decide +kernel
theorem dX11_undo_48 : decode cX11_undo 48 = .ok (.iinc 1 1, 3) := by decide +kernel
theorem dX11_undo_51 : decode cX11_undo 51 = .ok (.goto (-29), 3) := by decide +kernel
theorem dX11_undo_54 : decode cX11_undo 54 = .ok (.aload_n 0, 1) := by decide +kernel
theorem dX11_undo_55 : decode cX11_undo 55 = .ok (.getfield 130, 3) := by decide +kernel
theorem dX11_undo_58 : decode cX11_undo 58 = .ok (.ireturn, 1) := by decide +kernel
theorem dX11_keep_0 : decode cX11_keep 0 = .ok (.iload_n 1, 1) := by decide +kernel
theorem dX11_keep_1 : decode cX11_keep 1 = .ok (.i2l, 1) := by decide +kernel
theorem dX11_keep_2 : decode cX11_keep 2 = .ok (.lconst 0, 1) := by decide +kernel
theorem dX11_keep_3 : decode cX11_keep 3 = .ok (.lconst 1, 1) := by decide +kernel
theorem dX11_keep_4 : decode cX11_keep 4 = .ok (.invokestatic 49, 3) := by decide +kernel
theorem dX11_keep_7 : decode cX11_keep 7 = .ok (.ifCond .ne 6, 3) := by decide +kernel
theorem dX11_keep_10 : decode cX11_keep 10 = .ok (.bipush (-2), 2) := by decide +kernel
theorem dX11_keep_12 : decode cX11_keep 12 = .ok (.ireturn, 1) := by decide +kernel
theorem dX11_keep_13 : decode cX11_keep 13 = .ok (.iconst 0, 1) := by decide +kernel
theorem dX11_keep_14 : decode cX11_keep 14 = .ok (.istore_n 2, 1) := by decide +kernel
theorem dX11_keep_15 : decode cX11_keep 15 = .ok (.iload_n 2, 1) := by decide +kernel
theorem dX11_keep_16 : decode cX11_keep 16 = .ok (.bipush 35, 2) := by decide +kernel
theorem dX11_keep_18 : decode cX11_keep 18 = .ok (.if_icmp .ge 26, 3) := by decide +kernel
theorem dX11_keep_21 : decode cX11_keep 21 = .ok (.aload_n 0, 1) := by decide +kernel
theorem dX11_keep_22 : decode cX11_keep 22 = .ok (.getfield 29, 3) := by decide +kernel
theorem dX11_keep_25 : decode cX11_keep 25 = .ok (.bipush 35, 2) := by decide +kernel
theorem dX11_keep_27 : decode cX11_keep 27 = .ok (.iload_n 1, 1) := by decide +kernel
theorem dX11_keep_28 : decode cX11_keep 28 = .ok (.imul, 1) := by decide +kernel
theorem dX11_keep_29 : decode cX11_keep 29 = .ok (.iload_n 2, 1) := by decide +kernel
theorem dX11_keep_30 : decode cX11_keep 30 = .ok (.iadd, 1) := by decide +kernel
theorem dX11_keep_31 : decode cX11_keep 31 = .ok (.aload_n 0, 1) := by decide +kernel
theorem dX11_keep_32 : decode cX11_keep 32 = .ok (.getfield 13, 3) := by decide +kernel
theorem dX11_keep_35 : decode cX11_keep 35 = .ok (.iload_n 2, 1) := by decide +kernel
theorem dX11_keep_36 : decode cX11_keep 36 = .ok (.iaload, 1) := by decide +kernel
theorem dX11_keep_37 : decode cX11_keep 37 = .ok (.iastore, 1) := by decide +kernel
theorem dX11_keep_38 : decode cX11_keep 38 = .ok (.iinc 2 1, 3) := by decide +kernel
theorem dX11_keep_41 : decode cX11_keep 41 = .ok (.goto (-26), 3) := by decide +kernel
theorem dX11_keep_44 : decode cX11_keep 44 = .ok (.aload_n 0, 1) := by decide +kernel
theorem dX11_keep_45 : decode cX11_keep 45 = .ok (.getfield 25, 3) := by decide +kernel
theorem dX11_keep_48 : decode cX11_keep 48 = .ok (.iload_n 1, 1) := by decide +kernel
theorem dX11_keep_49 : decode cX11_keep 49 = .ok (.iconst 1, 1) := by decide +kernel
theorem dX11_keep_50 : decode cX11_keep 50 = .ok (.bastore, 1) := by decide +kernel
theorem dX11_keep_51 : decode cX11_keep 51 = .ok (.aload_n 0, 1) := by decide +kernel
theorem dX11_keep_52 : decode cX11_keep 52 = .ok (.getfield 13, 3) := by decide +kernel
theorem dX11_keep_55 : decode cX11_keep 55 = .ok (.bipush 30, 2) := by decide +kernel
theorem dX11_keep_57 : decode cX11_keep 57 = .ok (.iaload, 1) := by decide +kernel
theorem dX11_keep_58 : decode cX11_keep 58 = .ok (.ireturn, 1) := by decide +kernel
theorem dX11_back_0 : decode cX11_back 0 = .ok (.iload_n 1, 1) := by decide +kernel
theorem dX11_back_1 : decode cX11_back 1 = .ok (.i2l, 1) := by decide +kernel
theorem dX11_back_2 : decode cX11_back 2 = .ok (.lconst 0, 1) := by decide +kernel
theorem dX11_back_3 : decode cX11_back 3 = .ok (.lconst 1, 1) := by decide +kernel
theorem dX11_back_4 : decode cX11_back 4 = .ok (.invokestatic 49, 3) := by decide +kernel
theorem dX11_back_7 : decode cX11_back 7 = .ok (.ifCond .ne 6, 3) := by decide +kernel
theorem dX11_back_10 : decode cX11_back 10 = .ok (.bipush (-2), 2) := by decide +kernel
theorem dX11_back_12 : decode cX11_back 12 = .ok (.ireturn, 1) := by decide +kernel
theorem dX11_back_13 : decode cX11_back 13 = .ok (.aload_n 0, 1) := by decide +kernel
theorem dX11_back_14 : decode cX11_back 14 = .ok (.getfield 25, 3) := by decide +kernel
end
section
theorem dX11_back_17 : decode cX11_back 17 = .ok (.iload_n 1, 1) := by decide +kernel
theorem dX11_back_18 : decode cX11_back 18 = .ok (.baload, 1) := by decide +kernel
theorem dX11_back_19 : decode cX11_back 19 = .ok (.ifCond .ne 6, 3) := by decide +kernel
theorem dX11_back_22 : decode cX11_back 22 = .ok (.bipush (-4), 2) := by decide +kernel
theorem dX11_back_24 : decode cX11_back 24 = .ok (.ireturn, 1) := by decide +kernel
theorem dX11_back_25 : decode cX11_back 25 = .ok (.iconst 0, 1) := by decide +kernel
theorem dX11_back_26 : decode cX11_back 26 = .ok (.istore_n 2, 1) := by decide +kernel
theorem dX11_back_27 : decode cX11_back 27 = .ok (.iload_n 2, 1) := by decide +kernel
theorem dX11_back_28 : decode cX11_back 28 = .ok (.bipush 35, 2) := by decide +kernel
theorem dX11_back_30 : decode cX11_back 30 = .ok (.if_icmp .ge 26, 3) := by decide +kernel
theorem dX11_back_33 : decode cX11_back 33 = .ok (.aload_n 0, 1) := by decide +kernel
theorem dX11_back_34 : decode cX11_back 34 = .ok (.getfield 13, 3) := by decide +kernel
theorem dX11_back_37 : decode cX11_back 37 = .ok (.iload_n 2, 1) := by decide +kernel
theorem dX11_back_38 : decode cX11_back 38 = .ok (.aload_n 0, 1) := by decide +kernel
theorem dX11_back_39 : decode cX11_back 39 = .ok (.getfield 29, 3) := by decide +kernel
theorem dX11_back_42 : decode cX11_back 42 = .ok (.bipush 35, 2) := by decide +kernel
theorem dX11_back_44 : decode cX11_back 44 = .ok (.iload_n 1, 1) := by decide +kernel
theorem dX11_back_45 : decode cX11_back 45 = .ok (.imul, 1) := by decide +kernel
theorem dX11_back_46 : decode cX11_back 46 = .ok (.iload_n 2, 1) := by decide +kernel
theorem dX11_back_47 : decode cX11_back 47 = .ok (.iadd, 1) := by decide +kernel
theorem dX11_back_48 : decode cX11_back 48 = .ok (.iaload, 1) := by decide +kernel
theorem dX11_back_49 : decode cX11_back 49 = .ok (.iastore, 1) := by decide +kernel
theorem dX11_back_50 : decode cX11_back 50 = .ok (.iinc 2 1, 3) := by decide +kernel
theorem dX11_back_53 : decode cX11_back 53 = .ok (.goto (-26), 3) := by decide +kernel
theorem dX11_back_56 : decode cX11_back 56 = .ok (.aload_n 0, 1) := by decide +kernel
theorem dX11_back_57 : decode cX11_back 57 = .ok (.iconst 0, 1) := by decide +kernel
theorem dX11_back_58 : decode cX11_back 58 = .ok (.putfield 130, 3) := by decide +kernel
theorem dX11_back_61 : decode cX11_back 61 = .ok (.aload_n 0, 1) := by decide +kernel
theorem dX11_back_62 : decode cX11_back 62 = .ok (.getfield 13, 3) := by decide +kernel
theorem dX11_back_65 : decode cX11_back 65 = .ok (.bipush 30, 2) := by decide +kernel
theorem dX11_back_67 : decode cX11_back 67 = .ok (.iaload, 1) := by decide +kernel
theorem dX11_back_68 : decode cX11_back 68 = .ok (.ireturn, 1) := by decide +kernel
theorem dX11_putAside_0 : decode cX11_putAside 0 = .ok (.iconst 0, 1) := by decide +kernel
theorem dX11_putAside_1 : decode cX11_putAside 1 = .ok (.istore_n 1, 1) := by decide +kernel
theorem dX11_putAside_2 : decode cX11_putAside 2 = .ok (.iload_n 1, 1) := by decide +kernel
theorem dX11_putAside_3 : decode cX11_putAside 3 = .ok (.bipush 35, 2) := by decide +kernel
theorem dX11_putAside_5 : decode cX11_putAside 5 = .ok (.if_icmp .ge 21, 3) := by decide +kernel
theorem dX11_putAside_8 : decode cX11_putAside 8 = .ok (.aload_n 0, 1) := by decide +kernel
theorem dX11_putAside_9 : decode cX11_putAside 9 = .ok (.getfield 32, 3) := by decide +kernel
theorem dX11_putAside_12 : decode cX11_putAside 12 = .ok (.iload_n 1, 1) := by decide +kernel
theorem dX11_putAside_13 : decode cX11_putAside 13 = .ok (.aload_n 0, 1) := by decide +kernel
theorem dX11_putAside_14 : decode cX11_putAside 14 = .ok (.getfield 13, 3) := by decide +kernel
theorem dX11_putAside_17 : decode cX11_putAside 17 = .ok (.iload_n 1, 1) := by decide +kernel
theorem dX11_putAside_18 : decode cX11_putAside 18 = .ok (.iaload, 1) := by decide +kernel
theorem dX11_putAside_19 : decode cX11_putAside 19 = .ok (.iastore, 1) := by decide +kernel
theorem dX11_putAside_20 : decode cX11_putAside 20 = .ok (.iinc 1 1, 3) := by decide +kernel
theorem dX11_putAside_23 : decode cX11_putAside 23 = .ok (.goto (-21), 3) := by decide +kernel
theorem dX11_putAside_26 : decode cX11_putAside 26 = .ok (.return_, 1) := by decide +kernel
theorem dX11_takeBack_0 : decode cX11_takeBack 0 = .ok (.iconst 0, 1) := by decide +kernel
theorem dX11_takeBack_1 : decode cX11_takeBack 1 = .ok (.istore_n 1, 1) := by decide +kernel
theorem dX11_takeBack_2 : decode cX11_takeBack 2 = .ok (.iload_n 1, 1) := by decide +kernel
theorem dX11_takeBack_3 : decode cX11_takeBack 3 = .ok (.bipush 35, 2) := by decide +kernel
theorem dX11_takeBack_5 : decode cX11_takeBack 5 = .ok (.if_icmp .ge 21, 3) := by decide +kernel
theorem dX11_takeBack_8 : decode cX11_takeBack 8 = .ok (.aload_n 0, 1) := by decide +kernel
theorem dX11_takeBack_9 : decode cX11_takeBack 9 = .ok (.getfield 13, 3) := by decide +kernel
theorem dX11_takeBack_12 : decode cX11_takeBack 12 = .ok (.iload_n 1, 1) := by decide +kernel
theorem dX11_takeBack_13 : decode cX11_takeBack 13 = .ok (.aload_n 0, 1) := by decide +kernel
theorem dX11_takeBack_14 : decode cX11_takeBack 14 = .ok (.getfield 32, 3) := by decide +kernel
theorem dX11_takeBack_17 : decode cX11_takeBack 17 = .ok (.iload_n 1, 1) := by decide +kernel
theorem dX11_takeBack_18 : decode cX11_takeBack 18 = .ok (.iaload, 1) := by decide +kernel
theorem dX11_takeBack_19 : decode cX11_takeBack 19 = .ok (.iastore, 1) := by decide +kernel
theorem dX11_takeBack_20 : decode cX11_takeBack 20 = .ok (.iinc 1 1, 3) := by decide +kernel
theorem dX11_takeBack_23 : decode cX11_takeBack 23 = .ok (.goto (-21), 3) := by decide +kernel
theorem dX11_takeBack_26 : decode cX11_takeBack 26 = .ok (.return_, 1) := by decide +kernel
theorem dX11_levelBehind_0 : decode cX11_levelBehind 0 = .ok (.iconst 0, 1) := by decide +kernel
theorem dX11_levelBehind_1 : decode cX11_levelBehind 1 = .ok (.istore_n 2, 1) := by decide +kernel
theorem dX11_levelBehind_2 : decode cX11_levelBehind 2 = .ok (.iload_n 2, 1) := by decide +kernel
theorem dX11_levelBehind_3 : decode cX11_levelBehind 3 = .ok (.iload_n 1, 1) := by decide +kernel
theorem dX11_levelBehind_4 : decode cX11_levelBehind 4 = .ok (.if_icmp .ge 14, 3) := by decide +kernel
theorem dX11_levelBehind_7 : decode cX11_levelBehind 7 = .ok (.aload_n 0, 1) := by decide +kernel
theorem dX11_levelBehind_8 : decode cX11_levelBehind 8 = .ok (.invokevirtual 175, 3) := by decide +kernel
theorem dX11_levelBehind_11 : decode cX11_levelBehind 11 = .ok (.pop, 1) := by decide +kernel
theorem dX11_levelBehind_12 : decode cX11_levelBehind 12 = .ok (.iinc 2 1, 3) := by decide +kernel
theorem dX11_levelBehind_15 : decode cX11_levelBehind 15 = .ok (.goto (-13), 3) := by decide +kernel
theorem dX11_levelBehind_18 : decode cX11_levelBehind 18 = .ok (.aload_n 0, 1) := by decide +kernel
theorem dX11_levelBehind_19 : decode cX11_levelBehind 19 = .ok (.getfield 13, 3) := by decide +kernel
theorem dX11_levelBehind_22 : decode cX11_levelBehind 22 = .ok (.bipush 31, 2) := by decide +kernel
theorem dX11_levelBehind_24 : decode cX11_levelBehind 24 = .ok (.iaload, 1) := by decide +kernel
theorem dX11_levelBehind_25 : decode cX11_levelBehind 25 = .ok (.istore_n 2, 1) := by decide +kernel
theorem dX11_levelBehind_26 : decode cX11_levelBehind 26 = .ok (.aload_n 0, 1) := by decide +kernel
theorem dX11_levelBehind_27 : decode cX11_levelBehind 27 = .ok (.invokevirtual 178, 3) := by decide +kernel
theorem dX11_levelBehind_30 : decode cX11_levelBehind 30 = .ok (.iload_n 2, 1) := by decide +kernel
theorem dX11_levelBehind_31 : decode cX11_levelBehind 31 = .ok (.ireturn, 1) := by decide +kernel
theorem dX11_highestOf_0 : decode cX11_highestOf 0 = .ok (.aload_n 0, 1) := by decide +kernel
theorem dX11_highestOf_1 : decode cX11_highestOf 1 = .ok (.getfield 13, 3) := by decide +kernel
theorem dX11_highestOf_4 : decode cX11_highestOf 4 = .ok (.bipush 31, 2) := by decide +kernel
theorem dX11_highestOf_6 : decode cX11_highestOf 6 = .ok (.iaload, 1) := by decide +kernel
theorem dX11_highestOf_7 : decode cX11_highestOf 7 = .ok (.istore_n 2, 1) := by decide +kernel
theorem dX11_highestOf_8 : decode cX11_highestOf 8 = .ok (.iconst 0, 1) := by decide +kernel
theorem dX11_highestOf_9 : decode cX11_highestOf 9 = .ok (.istore_n 3, 1) := by decide +kernel
theorem dX11_highestOf_10 : decode cX11_highestOf 10 = .ok (.iload_n 3, 1) := by decide +kernel
theorem dX11_highestOf_11 : decode cX11_highestOf 11 = .ok (.iload_n 1, 1) := by decide +kernel
theorem dX11_highestOf_12 : decode cX11_highestOf 12 = .ok (.if_icmp .ge 28, 3) := by decide +kernel
theorem dX11_highestOf_15 : decode cX11_highestOf 15 = .ok (.aload_n 0, 1) := by decide +kernel
theorem dX11_highestOf_16 : decode cX11_highestOf 16 = .ok (.invokevirtual 175, 3) := by decide +kernel
theorem dX11_highestOf_19 : decode cX11_highestOf 19 = .ok (.istore 4, 2) := by decide +kernel
theorem dX11_highestOf_21 : decode cX11_highestOf 21 = .ok (.iload 4, 2) := by decide +kernel
theorem dX11_highestOf_23 : decode cX11_highestOf 23 = .ok (.iload_n 2, 1) := by decide +kernel
theorem dX11_highestOf_24 : decode cX11_highestOf 24 = .ok (.if_icmp .le 8, 3) := by decide +kernel
theorem dX11_highestOf_27 : decode cX11_highestOf 27 = .ok (.iload 4, 2) := by decide +kernel
theorem dX11_highestOf_29 : decode cX11_highestOf 29 = .ok (.goto 4, 3) := by decide +kernel
theorem dX11_highestOf_32 : decode cX11_highestOf 32 = .ok (.iload_n 2, 1) := by decide +kernel
theorem dX11_highestOf_33 : decode cX11_highestOf 33 = .ok (.istore_n 2, 1) := by decide +kernel
theorem dX11_highestOf_34 : decode cX11_highestOf 34 = .ok (.iinc 3 1, 3) := by decide +kernel
theorem dX11_highestOf_37 : decode cX11_highestOf 37 = .ok (.goto (-27), 3) := by decide +kernel
theorem dX11_highestOf_40 : decode cX11_highestOf 40 = .ok (.aload_n 0, 1) := by decide +kernel
theorem dX11_highestOf_41 : decode cX11_highestOf 41 = .ok (.invokevirtual 178, 3) := by decide +kernel
theorem dX11_highestOf_44 : decode cX11_highestOf 44 = .ok (.iload_n 2, 1) := by decide +kernel
theorem dX11_highestOf_45 : decode cX11_highestOf 45 = .ok (.ireturn, 1) := by decide +kernel
theorem dX11_fullIn_0 : decode cX11_fullIn 0 = .ok (.iconst (-1), 1) := by decide +kernel
theorem dX11_fullIn_1 : decode cX11_fullIn 1 = .ok (.istore_n 2, 1) := by decide +kernel
theorem dX11_fullIn_2 : decode cX11_fullIn 2 = .ok (.iconst 1, 1) := by decide +kernel
theorem dX11_fullIn_3 : decode cX11_fullIn 3 = .ok (.istore_n 3, 1) := by decide +kernel
theorem dX11_fullIn_4 : decode cX11_fullIn 4 = .ok (.iload_n 3, 1) := by decide +kernel
theorem dX11_fullIn_5 : decode cX11_fullIn 5 = .ok (.iload_n 1, 1) := by decide +kernel
theorem dX11_fullIn_6 : decode cX11_fullIn 6 = .ok (.if_icmp .gt 32, 3) := by decide +kernel
theorem dX11_fullIn_9 : decode cX11_fullIn 9 = .ok (.iload_n 2, 1) := by decide +kernel
theorem dX11_fullIn_10 : decode cX11_fullIn 10 = .ok (.ifCond .ge 28, 3) := by decide +kernel
theorem dX11_fullIn_13 : decode cX11_fullIn 13 = .ok (.aload_n 0, 1) := by decide +kernel
theorem dX11_fullIn_14 : decode cX11_fullIn 14 = .ok (.invokevirtual 175, 3) := by decide +kernel
theorem dX11_fullIn_17 : decode cX11_fullIn 17 = .ok (.aload_n 0, 1) := by decide +kernel
theorem dX11_fullIn_18 : decode cX11_fullIn 18 = .ok (.getfield 7, 3) := by decide +kernel
theorem dX11_fullIn_21 : decode cX11_fullIn 21 = .ok (.iconst 0, 1) := by decide +kernel
theorem dX11_fullIn_22 : decode cX11_fullIn 22 = .ok (.iaload, 1) := by decide +kernel
theorem dX11_fullIn_23 : decode cX11_fullIn 23 = .ok (.if_icmp .ne 7, 3) := by decide +kernel
theorem dX11_fullIn_26 : decode cX11_fullIn 26 = .ok (.iload_n 3, 1) := by decide +kernel
theorem dX11_fullIn_27 : decode cX11_fullIn 27 = .ok (.goto 4, 3) := by decide +kernel
theorem dX11_fullIn_30 : decode cX11_fullIn 30 = .ok (.iconst (-1), 1) := by decide +kernel
theorem dX11_fullIn_31 : decode cX11_fullIn 31 = .ok (.istore_n 2, 1) := by decide +kernel
theorem dX11_fullIn_32 : decode cX11_fullIn 32 = .ok (.iinc 3 1, 3) := by decide +kernel
theorem dX11_fullIn_35 : decode cX11_fullIn 35 = .ok (.goto (-31), 3) := by decide +kernel
theorem dX11_fullIn_38 : decode cX11_fullIn 38 = .ok (.aload_n 0, 1) := by decide +kernel
theorem dX11_fullIn_39 : decode cX11_fullIn 39 = .ok (.invokevirtual 178, 3) := by decide +kernel
theorem dX11_fullIn_42 : decode cX11_fullIn 42 = .ok (.iload_n 2, 1) := by decide +kernel
theorem dX11_fullIn_43 : decode cX11_fullIn 43 = .ok (.ireturn, 1) := by decide +kernel
theorem dX11_isFar_0 : decode cX11_isFar 0 = .ok (.iload_n 0, 1) := by decide +kernel
theorem dX11_isFar_1 : decode cX11_isFar 1 = .ok (.i2l, 1) := by decide +kernel
theorem dX11_isFar_2 : decode cX11_isFar 2 = .ok (.iload_n 1, 1) := by decide +kernel
theorem dX11_isFar_3 : decode cX11_isFar 3 = .ok (.i2l, 1) := by decide +kernel
theorem dX11_isFar_4 : decode cX11_isFar 4 = .ok (.ldc2_w 173, 3) := by decide +kernel
theorem dX11_isFar_7 : decode cX11_isFar 7 = .ok (.invokestatic 49, 3) := by decide +kernel
theorem dX11_isFar_10 : decode cX11_isFar 10 = .ok (.ireturn, 1) := by decide +kernel
theorem dX11_level_0 : decode cX11_level 0 = .ok (.iload_n 1, 1) := by decide +kernel
theorem dX11_level_1 : decode cX11_level 1 = .ok (.iconst 0, 1) := by decide +kernel
theorem dX11_level_2 : decode cX11_level 2 = .ok (.invokestatic 181, 3) := by decide +kernel
theorem dX11_level_5 : decode cX11_level 5 = .ok (.ifCond .ne 6, 3) := by decide +kernel
theorem dX11_level_8 : decode cX11_level 8 = .ok (.bipush (-3), 2) := by decide +kernel
theorem dX11_level_10 : decode cX11_level 10 = .ok (.ireturn, 1) := by decide +kernel
theorem dX11_level_11 : decode cX11_level 11 = .ok (.aload_n 0, 1) := by decide +kernel
theorem dX11_level_12 : decode cX11_level 12 = .ok (.invokevirtual 185, 3) := by decide +kernel
theorem dX11_level_15 : decode cX11_level 15 = .ok (.aload_n 0, 1) := by decide +kernel
theorem dX11_level_16 : decode cX11_level 16 = .ok (.iload_n 1, 1) := by decide +kernel
theorem dX11_level_17 : decode cX11_level 17 = .ok (.invokevirtual 188, 3) := by decide +kernel
theorem dX11_level_20 : decode cX11_level 20 = .ok (.ireturn, 1) := by decide +kernel
theorem dX11_highest_0 : decode cX11_highest 0 = .ok (.iload_n 1, 1) := by decide +kernel
theorem dX11_highest_1 : decode cX11_highest 1 = .ok (.iconst 0, 1) := by decide +kernel
theorem dX11_highest_2 : decode cX11_highest 2 = .ok (.invokestatic 181, 3) := by decide +kernel
theorem dX11_highest_5 : decode cX11_highest 5 = .ok (.ifCond .ne 6, 3) := by decide +kernel
theorem dX11_highest_8 : decode cX11_highest 8 = .ok (.bipush (-3), 2) := by decide +kernel
theorem dX11_highest_10 : decode cX11_highest 10 = .ok (.ireturn, 1) := by decide +kernel
theorem dX11_highest_11 : decode cX11_highest 11 = .ok (.aload_n 0, 1) := by decide +kernel
theorem dX11_highest_12 : decode cX11_highest 12 = .ok (.invokevirtual 185, 3) := by decide +kernel
theorem dX11_highest_15 : decode cX11_highest 15 = .ok (.aload_n 0, 1) := by decide +kernel
theorem dX11_highest_16 : decode cX11_highest 16 = .ok (.iload_n 1, 1) := by decide +kernel
theorem dX11_highest_17 : decode cX11_highest 17 = .ok (.invokevirtual 191, 3) := by decide +kernel
theorem dX11_highest_20 : decode cX11_highest 20 = .ok (.ireturn, 1) := by decide +kernel
theorem dX11_full_0 : decode cX11_full 0 = .ok (.aload_n 0, 1) := by decide +kernel
theorem dX11_full_1 : decode cX11_full 1 = .ok (.invokevirtual 185, 3) := by decide +kernel
theorem dX11_full_4 : decode cX11_full 4 = .ok (.aload_n 0, 1) := by decide +kernel
theorem dX11_full_5 : decode cX11_full 5 = .ok (.bipush 99, 2) := by decide +kernel
theorem dX11_full_7 : decode cX11_full 7 = .ok (.invokevirtual 194, 3) := by decide +kernel
theorem dX11_full_10 : decode cX11_full 10 = .ok (.ireturn, 1) := by decide +kernel
theorem dX11_mossTo_0 : decode cX11_mossTo 0 = .ok (.iload_n 1, 1) := by decide +kernel
theorem dX11_mossTo_1 : decode cX11_mossTo 1 = .ok (.iconst 1, 1) := by decide +kernel
theorem dX11_mossTo_2 : decode cX11_mossTo 2 = .ok (.invokestatic 181, 3) := by decide +kernel
theorem dX11_mossTo_5 : decode cX11_mossTo 5 = .ok (.ifCond .ne 6, 3) := by decide +kernel
theorem dX11_mossTo_8 : decode cX11_mossTo 8 = .ok (.bipush (-3), 2) := by decide +kernel
theorem dX11_mossTo_10 : decode cX11_mossTo 10 = .ok (.ireturn, 1) := by decide +kernel
theorem dX11_mossTo_11 : decode cX11_mossTo 11 = .ok (.aload_n 0, 1) := by decide +kernel
theorem dX11_mossTo_12 : decode cX11_mossTo 12 = .ok (.invokevirtual 185, 3) := by decide +kernel
theorem dX11_mossTo_15 : decode cX11_mossTo 15 = .ok (.iconst (-1), 1) := by decide +kernel
theorem dX11_mossTo_16 : decode cX11_mossTo 16 = .ok (.istore_n 2, 1) := by decide +kernel
theorem dX11_mossTo_17 : decode cX11_mossTo 17 = .ok (.aload_n 0, 1) := by decide +kernel
theorem dX11_mossTo_18 : decode cX11_mossTo 18 = .ok (.iload_n 1, 1) := by decide +kernel
theorem dX11_mossTo_19 : decode cX11_mossTo 19 = .ok (.invokevirtual 188, 3) := by decide +kernel
theorem dX11_mossTo_22 : decode cX11_mossTo 22 = .ok (.istore_n 3, 1) := by decide +kernel
theorem dX11_mossTo_23 : decode cX11_mossTo 23 = .ok (.iconst 0, 1) := by decide +kernel
theorem dX11_mossTo_24 : decode cX11_mossTo 24 = .ok (.istore 4, 2) := by decide +kernel
theorem dX11_mossTo_26 : decode cX11_mossTo 26 = .ok (.iload 4, 2) := by decide +kernel
theorem dX11_mossTo_28 : decode cX11_mossTo 28 = .ok (.aload_n 0, 1) := by decide +kernel
theorem dX11_mossTo_29 : decode cX11_mossTo 29 = .ok (.getfield 45, 3) := by decide +kernel
theorem dX11_mossTo_32 : decode cX11_mossTo 32 = .ok (.if_icmp .ge 71, 3) := by decide +kernel
theorem dX11_mossTo_35 : decode cX11_mossTo 35 = .ok (.aload_n 0, 1) := by decide +kernel
theorem dX11_mossTo_36 : decode cX11_mossTo 36 = .ok (.iload 4, 2) := by decide +kernel
theorem dX11_mossTo_38 : decode cX11_mossTo 38 = .ok (.invokevirtual 142, 3) := by decide +kernel
theorem dX11_mossTo_41 : decode cX11_mossTo 41 = .ok (.ifCond .ne 56, 3) := by decide +kernel
theorem dX11_mossTo_44 : decode cX11_mossTo 44 = .ok (.aload_n 0, 1) := by decide +kernel
theorem dX11_mossTo_45 : decode cX11_mossTo 45 = .ok (.getfield 13, 3) := by decide +kernel
theorem dX11_mossTo_48 : decode cX11_mossTo 48 = .ok (.bipush 25, 2) := by decide +kernel
theorem dX11_mossTo_50 : decode cX11_mossTo 50 = .ok (.iload 4, 2) := by decide +kernel
theorem dX11_mossTo_52 : decode cX11_mossTo 52 = .ok (.iadd, 1) := by decide +kernel
theorem dX11_mossTo_53 : decode cX11_mossTo 53 = .ok (.aload_n 0, 1) := by decide +kernel
theorem dX11_mossTo_54 : decode cX11_mossTo 54 = .ok (.getfield 13, 3) := by decide +kernel
theorem dX11_mossTo_57 : decode cX11_mossTo 57 = .ok (.bipush 30, 2) := by decide +kernel
theorem dX11_mossTo_59 : decode cX11_mossTo 59 = .ok (.iaload, 1) := by decide +kernel
theorem dX11_mossTo_60 : decode cX11_mossTo 60 = .ok (.bipush 30, 2) := by decide +kernel
theorem dX11_mossTo_62 : decode cX11_mossTo 62 = .ok (.iadd, 1) := by decide +kernel
theorem dX11_mossTo_63 : decode cX11_mossTo 63 = .ok (.iastore, 1) := by decide +kernel
theorem dX11_mossTo_64 : decode cX11_mossTo 64 = .ok (.aload_n 0, 1) := by decide +kernel
theorem dX11_mossTo_65 : decode cX11_mossTo 65 = .ok (.iload_n 1, 1) := by decide +kernel
theorem dX11_mossTo_66 : decode cX11_mossTo 66 = .ok (.invokevirtual 188, 3) := by decide +kernel
theorem dX11_mossTo_69 : decode cX11_mossTo 69 = .ok (.istore 5, 2) := by decide +kernel
theorem dX11_mossTo_71 : decode cX11_mossTo 71 = .ok (.iload 5, 2) := by decide +kernel
theorem dX11_mossTo_73 : decode cX11_mossTo 73 = .ok (.iload_n 3, 1) := by decide +kernel
theorem dX11_mossTo_74 : decode cX11_mossTo 74 = .ok (.if_icmp .le 8, 3) := by decide +kernel
theorem dX11_mossTo_77 : decode cX11_mossTo 77 = .ok (.iload 4, 2) := by decide +kernel
theorem dX11_mossTo_79 : decode cX11_mossTo 79 = .ok (.goto 4, 3) := by decide +kernel
theorem dX11_mossTo_82 : decode cX11_mossTo 82 = .ok (.iload_n 2, 1) := by decide +kernel
theorem dX11_mossTo_83 : decode cX11_mossTo 83 = .ok (.istore_n 2, 1) := by decide +kernel
theorem dX11_mossTo_84 : decode cX11_mossTo 84 = .ok (.iload 5, 2) := by decide +kernel
theorem dX11_mossTo_86 : decode cX11_mossTo 86 = .ok (.iload_n 3, 1) := by decide +kernel
theorem dX11_mossTo_87 : decode cX11_mossTo 87 = .ok (.if_icmp .le 8, 3) := by decide +kernel
theorem dX11_mossTo_90 : decode cX11_mossTo 90 = .ok (.iload 5, 2) := by decide +kernel
theorem dX11_mossTo_92 : decode cX11_mossTo 92 = .ok (.goto 4, 3) := by decide +kernel
theorem dX11_mossTo_95 : decode cX11_mossTo 95 = .ok (.iload_n 3, 1) := by decide +kernel
theorem dX11_mossTo_96 : decode cX11_mossTo 96 = .ok (.istore_n 3, 1) := by decide +kernel
theorem dX11_mossTo_97 : decode cX11_mossTo 97 = .ok (.iinc 4 1, 3) := by decide +kernel
theorem dX11_mossTo_100 : decode cX11_mossTo 100 = .ok (.goto (-74), 3) := by decide +kernel
theorem dX11_mossTo_103 : decode cX11_mossTo 103 = .ok (.iload_n 2, 1) := by decide +kernel
theorem dX11_mossTo_104 : decode cX11_mossTo 104 = .ok (.ireturn, 1) := by decide +kernel
theorem dX11_adds_0 : decode cX11_adds 0 = .ok (.aload_n 0, 1) := by decide +kernel
theorem dX11_adds_1 : decode cX11_adds 1 = .ok (.iload_n 1, 1) := by decide +kernel
theorem dX11_adds_2 : decode cX11_adds 2 = .ok (.invokevirtual 139, 3) := by decide +kernel
theorem dX11_adds_5 : decode cX11_adds 5 = .ok (.ifCond .ne 6, 3) := by decide +kernel
theorem dX11_adds_8 : decode cX11_adds 8 = .ok (.bipush (-2), 2) := by decide +kernel
theorem dX11_adds_10 : decode cX11_adds 10 = .ok (.ireturn, 1) := by decide +kernel
theorem dX11_adds_11 : decode cX11_adds 11 = .ok (.iload_n 2, 1) := by decide +kernel
theorem dX11_adds_12 : decode cX11_adds 12 = .ok (.iconst 1, 1) := by decide +kernel
theorem dX11_adds_13 : decode cX11_adds 13 = .ok (.invokestatic 181, 3) := by decide +kernel
theorem dX11_adds_16 : decode cX11_adds 16 = .ok (.ifCond .ne 6, 3) := by decide +kernel
theorem dX11_adds_19 : decode cX11_adds 19 = .ok (.bipush (-3), 2) := by decide +kernel
theorem dX11_adds_21 : decode cX11_adds 21 = .ok (.ireturn, 1) := by decide +kernel
theorem dX11_adds_22 : decode cX11_adds 22 = .ok (.aload_n 0, 1) := by decide +kernel
theorem dX11_adds_23 : decode cX11_adds 23 = .ok (.invokevirtual 185, 3) := by decide +kernel
theorem dX11_adds_26 : decode cX11_adds 26 = .ok (.aload_n 0, 1) := by decide +kernel
theorem dX11_adds_27 : decode cX11_adds 27 = .ok (.iload_n 2, 1) := by decide +kernel
theorem dX11_adds_28 : decode cX11_adds 28 = .ok (.invokevirtual 191, 3) := by decide +kernel
theorem dX11_adds_31 : decode cX11_adds 31 = .ok (.istore_n 3, 1) := by decide +kernel
theorem dX11_adds_32 : decode cX11_adds 32 = .ok (.aload_n 0, 1) := by decide +kernel
theorem dX11_adds_33 : decode cX11_adds 33 = .ok (.iload_n 1, 1) := by decide +kernel
theorem dX11_adds_34 : decode cX11_adds 34 = .ok (.invokevirtual 165, 3) := by decide +kernel
theorem dX11_adds_37 : decode cX11_adds 37 = .ok (.iload_n 3, 1) := by decide +kernel
theorem dX11_adds_38 : decode cX11_adds 38 = .ok (.aload_n 0, 1) := by decide +kernel
theorem dX11_adds_39 : decode cX11_adds 39 = .ok (.iload_n 2, 1) := by decide +kernel
theorem dX11_adds_40 : decode cX11_adds 40 = .ok (.invokevirtual 191, 3) := by decide +kernel
theorem dX11_adds_43 : decode cX11_adds 43 = .ok (.isub, 1) := by decide +kernel
theorem dX11_adds_44 : decode cX11_adds 44 = .ok (.ireturn, 1) := by decide +kernel
theorem dX11_working_0 : decode cX11_working 0 = .ok (.iconst 0, 1) := by decide +kernel
theorem dX11_working_1 : decode cX11_working 1 = .ok (.istore_n 1, 1) := by decide +kernel
theorem dX11_working_2 : decode cX11_working 2 = .ok (.iconst 0, 1) := by decide +kernel
theorem dX11_working_3 : decode cX11_working 3 = .ok (.istore_n 2, 1) := by decide +kernel
theorem dX11_working_4 : decode cX11_working 4 = .ok (.iload_n 2, 1) := by decide +kernel
theorem dX11_working_5 : decode cX11_working 5 = .ok (.aload_n 0, 1) := by decide +kernel
theorem dX11_working_6 : decode cX11_working 6 = .ok (.getfield 45, 3) := by decide +kernel
theorem dX11_working_9 : decode cX11_working 9 = .ok (.if_icmp .ge 30, 3) := by decide +kernel
theorem dX11_working_12 : decode cX11_working 12 = .ok (.iload_n 1, 1) := by decide +kernel
theorem dX11_working_13 : decode cX11_working 13 = .ok (.aload_n 0, 1) := by decide +kernel
theorem dX11_working_14 : decode cX11_working 14 = .ok (.getfield 13, 3) := by decide +kernel
theorem dX11_working_17 : decode cX11_working 17 = .ok (.iconst 0, 1) := by decide +kernel
theorem dX11_working_18 : decode cX11_working 18 = .ok (.iload_n 2, 1) := by decide +kernel
theorem dX11_working_19 : decode cX11_working 19 = .ok (.iadd, 1) := by decide +kernel
theorem dX11_working_20 : decode cX11_working 20 = .ok (.iaload, 1) := by decide +kernel
theorem dX11_working_21 : decode cX11_working 21 = .ok (.ifCond .eq 9, 3) := by decide +kernel
theorem dX11_working_24 : decode cX11_working 24 = .ok (.iconst 1, 1) := by decide +kernel
theorem dX11_working_25 : decode cX11_working 25 = .ok (.iload_n 2, 1) := by decide +kernel
theorem dX11_working_26 : decode cX11_working 26 = .ok (.ishl, 1) := by decide +kernel
theorem dX11_working_27 : decode cX11_working 27 = .ok (.goto 4, 3) := by decide +kernel
theorem dX11_working_30 : decode cX11_working 30 = .ok (.iconst 0, 1) := by decide +kernel
theorem dX11_working_31 : decode cX11_working 31 = .ok (.ior, 1) := by decide +kernel
theorem dX11_working_32 : decode cX11_working 32 = .ok (.istore_n 1, 1) := by decide +kernel
theorem dX11_working_33 : decode cX11_working 33 = .ok (.iinc 2 1, 3) := by decide +kernel
theorem dX11_working_36 : decode cX11_working 36 = .ok (.goto (-32), 3) := by decide +kernel
theorem dX11_working_39 : decode cX11_working 39 = .ok (.iload_n 1, 1) := by decide +kernel
theorem dX11_working_40 : decode cX11_working 40 = .ok (.ireturn, 1) := by decide +kernel
theorem dX11_fewest_0 : decode cX11_fewest 0 = .ok (.iload_n 1, 1) := by decide +kernel
theorem dX11_fewest_1 : decode cX11_fewest 1 = .ok (.iconst 1, 1) := by decide +kernel
theorem dX11_fewest_2 : decode cX11_fewest 2 = .ok (.invokestatic 181, 3) := by decide +kernel
theorem dX11_fewest_5 : decode cX11_fewest 5 = .ok (.ifCond .ne 6, 3) := by decide +kernel
theorem dX11_fewest_8 : decode cX11_fewest 8 = .ok (.bipush (-3), 2) := by decide +kernel
theorem dX11_fewest_10 : decode cX11_fewest 10 = .ok (.ireturn, 1) := by decide +kernel
theorem dX11_fewest_11 : decode cX11_fewest 11 = .ok (.aload_n 0, 1) := by decide +kernel
theorem dX11_fewest_12 : decode cX11_fewest 12 = .ok (.invokevirtual 185, 3) := by decide +kernel
theorem dX11_fewest_15 : decode cX11_fewest 15 = .ok (.aload_n 0, 1) := by decide +kernel
theorem dX11_fewest_16 : decode cX11_fewest 16 = .ok (.invokevirtual 197, 3) := by decide +kernel
theorem dX11_fewest_19 : decode cX11_fewest 19 = .ok (.istore_n 2, 1) := by decide +kernel
theorem dX11_fewest_20 : decode cX11_fewest 20 = .ok (.iconst (-1), 1) := by decide +kernel
theorem dX11_fewest_21 : decode cX11_fewest 21 = .ok (.istore_n 3, 1) := by decide +kernel
theorem dX11_fewest_22 : decode cX11_fewest 22 = .ok (.iconst 0, 1) := by decide +kernel
theorem dX11_fewest_23 : decode cX11_fewest 23 = .ok (.istore 4, 2) := by decide +kernel
theorem dX11_fewest_25 : decode cX11_fewest 25 = .ok (.iload 4, 2) := by decide +kernel
theorem dX11_fewest_27 : decode cX11_fewest 27 = .ok (.iconst 1, 1) := by decide +kernel
theorem dX11_fewest_28 : decode cX11_fewest 28 = .ok (.aload_n 0, 1) := by decide +kernel
theorem dX11_fewest_29 : decode cX11_fewest 29 = .ok (.getfield 45, 3) := by decide +kernel
theorem dX11_fewest_32 : decode cX11_fewest 32 = .ok (.ishl, 1) := by decide +kernel
theorem dX11_fewest_33 : decode cX11_fewest 33 = .ok (.if_icmp .ge 83, 3) := by decide +kernel
theorem dX11_fewest_36 : decode cX11_fewest 36 = .ok (.iload 4, 2) := by decide +kernel
theorem dX11_fewest_38 : decode cX11_fewest 38 = .ok (.iload_n 2, 1) := by decide +kernel
theorem dX11_fewest_39 : decode cX11_fewest 39 = .ok (.iconst (-1), 1) := by decide +kernel
theorem dX11_fewest_40 : decode cX11_fewest 40 = .ok (.ixor, 1) := by decide +kernel
theorem dX11_fewest_41 : decode cX11_fewest 41 = .ok (.iand, 1) := by decide +kernel
theorem dX11_fewest_42 : decode cX11_fewest 42 = .ok (.ifCond .ne 68, 3) := by decide +kernel
theorem dX11_fewest_45 : decode cX11_fewest 45 = .ok (.iload_n 3, 1) := by decide +kernel
theorem dX11_fewest_46 : decode cX11_fewest 46 = .ok (.ifCond .lt 15, 3) := by decide +kernel
theorem dX11_fewest_49 : decode cX11_fewest 49 = .ok (.iload 4, 2) := by decide +kernel
theorem dX11_fewest_51 : decode cX11_fewest 51 = .ok (.invokestatic 200, 3) := by decide +kernel
theorem dX11_fewest_54 : decode cX11_fewest 54 = .ok (.iload_n 3, 1) := by decide +kernel
theorem dX11_fewest_55 : decode cX11_fewest 55 = .ok (.invokestatic 200, 3) := by decide +kernel
theorem dX11_fewest_58 : decode cX11_fewest 58 = .ok (.if_icmp .ge 52, 3) := by decide +kernel
theorem dX11_fewest_61 : decode cX11_fewest 61 = .ok (.iconst 0, 1) := by decide +kernel
theorem dX11_fewest_62 : decode cX11_fewest 62 = .ok (.istore 5, 2) := by decide +kernel
theorem dX11_fewest_64 : decode cX11_fewest 64 = .ok (.iload 5, 2) := by decide +kernel
theorem dX11_fewest_66 : decode cX11_fewest 66 = .ok (.aload_n 0, 1) := by decide +kernel
theorem dX11_fewest_67 : decode cX11_fewest 67 = .ok (.getfield 45, 3) := by decide +kernel
theorem dX11_fewest_70 : decode cX11_fewest 70 = .ok (.if_icmp .ge 25, 3) := by decide +kernel
theorem dX11_fewest_73 : decode cX11_fewest 73 = .ok (.iload 4, 2) := by decide +kernel
theorem dX11_fewest_75 : decode cX11_fewest 75 = .ok (.iload 5, 2) := by decide +kernel
theorem dX11_fewest_77 : decode cX11_fewest 77 = .ok (.invokestatic 203, 3) := by decide +kernel
theorem dX11_fewest_80 : decode cX11_fewest 80 = .ok (.ifCond .ne 9, 3) := by decide +kernel
theorem dX11_fewest_83 : decode cX11_fewest 83 = .ok (.aload_n 0, 1) := by decide +kernel
theorem dX11_fewest_84 : decode cX11_fewest 84 = .ok (.iload 5, 2) := by decide +kernel
theorem dX11_fewest_86 : decode cX11_fewest 86 = .ok (.invokevirtual 165, 3) := by decide +kernel
theorem dX11_fewest_89 : decode cX11_fewest 89 = .ok (.iinc 5 1, 3) := by decide +kernel
theorem dX11_fewest_92 : decode cX11_fewest 92 = .ok (.goto (-28), 3) := by decide +kernel
theorem dX11_fewest_95 : decode cX11_fewest 95 = .ok (.aload_n 0, 1) := by decide +kernel
theorem dX11_fewest_96 : decode cX11_fewest 96 = .ok (.iload_n 1, 1) := by decide +kernel
theorem dX11_fewest_97 : decode cX11_fewest 97 = .ok (.invokevirtual 194, 3) := by decide +kernel
theorem dX11_fewest_100 : decode cX11_fewest 100 = .ok (.ifCond .le 8, 3) := by decide +kernel
theorem dX11_fewest_103 : decode cX11_fewest 103 = .ok (.iload 4, 2) := by decide +kernel
theorem dX11_fewest_105 : decode cX11_fewest 105 = .ok (.goto 4, 3) := by decide +kernel
theorem dX11_fewest_108 : decode cX11_fewest 108 = .ok (.iload_n 3, 1) := by decide +kernel
theorem dX11_fewest_109 : decode cX11_fewest 109 = .ok (.istore_n 3, 1) := by decide +kernel
theorem dX11_fewest_110 : decode cX11_fewest 110 = .ok (.iinc 4 1, 3) := by decide +kernel
theorem dX11_fewest_113 : decode cX11_fewest 113 = .ok (.goto (-88), 3) := by decide +kernel
theorem dX11_fewest_116 : decode cX11_fewest 116 = .ok (.iload_n 3, 1) := by decide +kernel
theorem dX11_fewest_117 : decode cX11_fewest 117 = .ok (.ireturn, 1) := by decide +kernel
theorem dX11_highestBy_0 : decode cX11_highestBy 0 = .ok (.aload_n 0, 1) := by decide +kernel
theorem dX11_highestBy_1 : decode cX11_highestBy 1 = .ok (.getfield 13, 3) := by decide +kernel
theorem dX11_highestBy_4 : decode cX11_highestBy 4 = .ok (.bipush 31, 2) := by decide +kernel
theorem dX11_highestBy_6 : decode cX11_highestBy 6 = .ok (.iaload, 1) := by decide +kernel
theorem dX11_highestBy_7 : decode cX11_highestBy 7 = .ok (.istore_n 3, 1) := by decide +kernel
theorem dX11_highestBy_8 : decode cX11_highestBy 8 = .ok (.iconst 0, 1) := by decide +kernel
theorem dX11_highestBy_9 : decode cX11_highestBy 9 = .ok (.istore 4, 2) := by decide +kernel
theorem dX11_highestBy_11 : decode cX11_highestBy 11 = .ok (.iload 4, 2) := by decide +kernel
theorem dX11_highestBy_13 : decode cX11_highestBy 13 = .ok (.iload_n 1, 1) := by decide +kernel
theorem dX11_highestBy_14 : decode cX11_highestBy 14 = .ok (.if_icmp .ge 73, 3) := by decide +kernel
theorem dX11_highestBy_17 : decode cX11_highestBy 17 = .ok (.iconst 0, 1) := by decide +kernel
theorem dX11_highestBy_18 : decode cX11_highestBy 18 = .ok (.istore 5, 2) := by decide +kernel
theorem dX11_highestBy_20 : decode cX11_highestBy 20 = .ok (.iload 5, 2) := by decide +kernel
theorem dX11_highestBy_22 : decode cX11_highestBy 22 = .ok (.aload_n 0, 1) := by decide +kernel
theorem dX11_highestBy_23 : decode cX11_highestBy 23 = .ok (.getfield 45, 3) := by decide +kernel
theorem dX11_highestBy_26 : decode cX11_highestBy 26 = .ok (.if_icmp .ge 36, 3) := by decide +kernel
theorem dX11_highestBy_29 : decode cX11_highestBy 29 = .ok (.iload_n 2, 1) := by decide +kernel
theorem dX11_highestBy_30 : decode cX11_highestBy 30 = .ok (.iload 5, 2) := by decide +kernel
theorem dX11_highestBy_32 : decode cX11_highestBy 32 = .ok (.invokestatic 203, 3) := by decide +kernel
theorem dX11_highestBy_35 : decode cX11_highestBy 35 = .ok (.ifCond .eq 21, 3) := by decide +kernel
theorem dX11_highestBy_38 : decode cX11_highestBy 38 = .ok (.aload_n 0, 1) := by decide +kernel
theorem dX11_highestBy_39 : decode cX11_highestBy 39 = .ok (.getfield 35, 3) := by decide +kernel
theorem dX11_highestBy_42 : decode cX11_highestBy 42 = .ok (.iload 5, 2) := by decide +kernel
theorem dX11_highestBy_44 : decode cX11_highestBy 44 = .ok (.iaload, 1) := by decide +kernel
theorem dX11_highestBy_45 : decode cX11_highestBy 45 = .ok (.iload 4, 2) := by decide +kernel
theorem dX11_highestBy_47 : decode cX11_highestBy 47 = .ok (.if_icmp .ne 9, 3) := by decide +kernel
theorem dX11_highestBy_50 : decode cX11_highestBy 50 = .ok (.aload_n 0, 1) := by decide +kernel
theorem dX11_highestBy_51 : decode cX11_highestBy 51 = .ok (.iload 5, 2) := by decide +kernel
theorem dX11_highestBy_53 : decode cX11_highestBy 53 = .ok (.invokevirtual 155, 3) := by decide +kernel
theorem dX11_highestBy_56 : decode cX11_highestBy 56 = .ok (.iinc 5 1, 3) := by decide +kernel
theorem dX11_highestBy_59 : decode cX11_highestBy 59 = .ok (.goto (-39), 3) := by decide +kernel
theorem dX11_highestBy_62 : decode cX11_highestBy 62 = .ok (.aload_n 0, 1) := by decide +kernel
theorem dX11_highestBy_63 : decode cX11_highestBy 63 = .ok (.invokevirtual 175, 3) := by decide +kernel
theorem dX11_highestBy_66 : decode cX11_highestBy 66 = .ok (.istore 5, 2) := by decide +kernel
theorem dX11_highestBy_68 : decode cX11_highestBy 68 = .ok (.iload 5, 2) := by decide +kernel
theorem dX11_highestBy_70 : decode cX11_highestBy 70 = .ok (.iload_n 3, 1) := by decide +kernel
theorem dX11_highestBy_71 : decode cX11_highestBy 71 = .ok (.if_icmp .le 8, 3) := by decide +kernel
theorem dX11_highestBy_74 : decode cX11_highestBy 74 = .ok (.iload 5, 2) := by decide +kernel
theorem dX11_highestBy_76 : decode cX11_highestBy 76 = .ok (.goto 4, 3) := by decide +kernel
theorem dX11_highestBy_79 : decode cX11_highestBy 79 = .ok (.iload_n 3, 1) := by decide +kernel
theorem dX11_highestBy_80 : decode cX11_highestBy 80 = .ok (.istore_n 3, 1) := by decide +kernel
theorem dX11_highestBy_81 : decode cX11_highestBy 81 = .ok (.iinc 4 1, 3) := by decide +kernel
theorem dX11_highestBy_84 : decode cX11_highestBy 84 = .ok (.goto (-73), 3) := by decide +kernel
theorem dX11_highestBy_87 : decode cX11_highestBy 87 = .ok (.aload_n 0, 1) := by decide +kernel
theorem dX11_highestBy_88 : decode cX11_highestBy 88 = .ok (.invokevirtual 178, 3) := by decide +kernel
theorem dX11_highestBy_91 : decode cX11_highestBy 91 = .ok (.iload_n 3, 1) := by decide +kernel
theorem dX11_highestBy_92 : decode cX11_highestBy 92 = .ok (.ireturn, 1) := by decide +kernel
theorem dX11_together_0 : decode cX11_together 0 = .ok (.iload_n 2, 1) := by decide +kernel
theorem dX11_together_1 : decode cX11_together 1 = .ok (.iconst (-1), 1) := by decide +kernel
theorem dX11_together_2 : decode cX11_together 2 = .ok (.if_icmp .eq 14, 3) := by decide +kernel
theorem dX11_together_5 : decode cX11_together 5 = .ok (.aload_n 0, 1) := by decide +kernel
theorem dX11_together_6 : decode cX11_together 6 = .ok (.iload_n 2, 1) := by decide +kernel
theorem dX11_together_7 : decode cX11_together 7 = .ok (.invokevirtual 139, 3) := by decide +kernel
theorem dX11_together_10 : decode cX11_together 10 = .ok (.ifCond .ne 6, 3) := by decide +kernel
theorem dX11_together_13 : decode cX11_together 13 = .ok (.bipush (-2), 2) := by decide +kernel
theorem dX11_together_15 : decode cX11_together 15 = .ok (.ireturn, 1) := by decide +kernel
theorem dX11_together_16 : decode cX11_together 16 = .ok (.iload_n 1, 1) := by decide +kernel
theorem dX11_together_17 : decode cX11_together 17 = .ok (.i2l, 1) := by decide +kernel
theorem dX11_together_18 : decode cX11_together 18 = .ok (.lconst 1, 1) := by decide +kernel
theorem dX11_together_19 : decode cX11_together 19 = .ok (.ldc2_w 206, 3) := by decide +kernel
theorem dX11_together_22 : decode cX11_together 22 = .ok (.invokestatic 49, 3) := by decide +kernel
theorem dX11_together_25 : decode cX11_together 25 = .ok (.ifCond .ne 6, 3) := by decide +kernel
theorem dX11_together_28 : decode cX11_together 28 = .ok (.bipush (-3), 2) := by decide +kernel
theorem dX11_together_30 : decode cX11_together 30 = .ok (.ireturn, 1) := by decide +kernel
theorem dX11_together_31 : decode cX11_together 31 = .ok (.aload_n 0, 1) := by decide +kernel
theorem dX11_together_32 : decode cX11_together 32 = .ok (.invokevirtual 185, 3) := by decide +kernel
theorem dX11_together_35 : decode cX11_together 35 = .ok (.iconst 1, 1) := by decide +kernel
theorem dX11_together_36 : decode cX11_together 36 = .ok (.aload_n 0, 1) := by decide +kernel
theorem dX11_together_37 : decode cX11_together 37 = .ok (.getfield 45, 3) := by decide +kernel
theorem dX11_together_40 : decode cX11_together 40 = .ok (.ishl, 1) := by decide +kernel
theorem dX11_together_41 : decode cX11_together 41 = .ok (.iconst 1, 1) := by decide +kernel
theorem dX11_together_42 : decode cX11_together 42 = .ok (.isub, 1) := by decide +kernel
theorem dX11_together_43 : decode cX11_together 43 = .ok (.aload_n 0, 1) := by decide +kernel
theorem dX11_together_44 : decode cX11_together 44 = .ok (.invokevirtual 197, 3) := by decide +kernel
theorem dX11_together_47 : decode cX11_together 47 = .ok (.iconst (-1), 1) := by decide +kernel
theorem dX11_together_48 : decode cX11_together 48 = .ok (.ixor, 1) := by decide +kernel
theorem dX11_together_49 : decode cX11_together 49 = .ok (.iand, 1) := by decide +kernel
theorem dX11_together_50 : decode cX11_together 50 = .ok (.istore_n 3, 1) := by decide +kernel
theorem dX11_together_51 : decode cX11_together 51 = .ok (.iconst (-1), 1) := by decide +kernel
theorem dX11_together_52 : decode cX11_together 52 = .ok (.istore 4, 2) := by decide +kernel
theorem dX11_together_54 : decode cX11_together 54 = .ok (.iconst (-1), 1) := by decide +kernel
theorem dX11_together_55 : decode cX11_together 55 = .ok (.istore 5, 2) := by decide +kernel
theorem dX11_together_57 : decode cX11_together 57 = .ok (.iconst 0, 1) := by decide +kernel
theorem dX11_together_58 : decode cX11_together 58 = .ok (.istore 6, 2) := by decide +kernel
theorem dX11_together_60 : decode cX11_together 60 = .ok (.iload 6, 2) := by decide +kernel
theorem dX11_together_62 : decode cX11_together 62 = .ok (.iconst 1, 1) := by decide +kernel
theorem dX11_together_63 : decode cX11_together 63 = .ok (.iconst 2, 1) := by decide +kernel
theorem dX11_together_64 : decode cX11_together 64 = .ok (.iload_n 3, 1) := by decide +kernel
theorem dX11_together_65 : decode cX11_together 65 = .ok (.invokestatic 200, 3) := by decide +kernel
theorem dX11_together_68 : decode cX11_together 68 = .ok (.imul, 1) := by decide +kernel
theorem dX11_together_69 : decode cX11_together 69 = .ok (.ishl, 1) := by decide +kernel
theorem dX11_together_70 : decode cX11_together 70 = .ok (.if_icmp .ge 101, 3) := by decide +kernel
theorem dX11_together_73 : decode cX11_together 73 = .ok (.iload 6, 2) := by decide +kernel
theorem dX11_together_75 : decode cX11_together 75 = .ok (.istore 7, 2) := by decide +kernel
theorem dX11_together_77 : decode cX11_together 77 = .ok (.aload_n 0, 1) := by decide +kernel
theorem dX11_together_78 : decode cX11_together 78 = .ok (.getfield 45, 3) := by decide +kernel
theorem dX11_together_81 : decode cX11_together 81 = .ok (.iconst 1, 1) := by decide +kernel
theorem dX11_together_82 : decode cX11_together 82 = .ok (.isub, 1) := by decide +kernel
theorem dX11_together_83 : decode cX11_together 83 = .ok (.istore 8, 2) := by decide +kernel
theorem dX11_together_85 : decode cX11_together 85 = .ok (.iload 8, 2) := by decide +kernel
theorem dX11_together_87 : decode cX11_together 87 = .ok (.ifCond .lt 43, 3) := by decide +kernel
theorem dX11_together_90 : decode cX11_together 90 = .ok (.aload_n 0, 1) := by decide +kernel
theorem dX11_together_91 : decode cX11_together 91 = .ok (.getfield 35, 3) := by decide +kernel
theorem dX11_together_94 : decode cX11_together 94 = .ok (.iload 8, 2) := by decide +kernel
theorem dX11_together_96 : decode cX11_together 96 = .ok (.iconst (-1), 1) := by decide +kernel
theorem dX11_together_97 : decode cX11_together 97 = .ok (.iastore, 1) := by decide +kernel
theorem dX11_together_98 : decode cX11_together 98 = .ok (.iload_n 3, 1) := by decide +kernel
theorem dX11_together_99 : decode cX11_together 99 = .ok (.iload 8, 2) := by decide +kernel
theorem dX11_together_101 : decode cX11_together 101 = .ok (.invokestatic 203, 3) := by decide +kernel
theorem dX11_together_104 : decode cX11_together 104 = .ok (.ifCond .eq 20, 3) := by decide +kernel
theorem dX11_together_107 : decode cX11_together 107 = .ok (.aload_n 0, 1) := by decide +kernel
theorem dX11_together_108 : decode cX11_together 108 = .ok (.getfield 35, 3) := by decide +kernel
theorem dX11_together_111 : decode cX11_together 111 = .ok (.iload 8, 2) := by decide +kernel
theorem dX11_together_113 : decode cX11_together 113 = .ok (.iload 7, 2) := by decide +kernel
theorem dX11_together_115 : decode cX11_together 115 = .ok (.iconst 4, 1) := by decide +kernel
theorem dX11_together_116 : decode cX11_together 116 = .ok (.irem, 1) := by decide +kernel
theorem dX11_together_117 : decode cX11_together 117 = .ok (.iastore, 1) := by decide +kernel
theorem dX11_together_118 : decode cX11_together 118 = .ok (.iload 7, 2) := by decide +kernel
theorem dX11_together_120 : decode cX11_together 120 = .ok (.iconst 4, 1) := by decide +kernel
theorem dX11_together_121 : decode cX11_together 121 = .ok (.idiv, 1) := by decide +kernel
theorem dX11_together_122 : decode cX11_together 122 = .ok (.istore 7, 2) := by decide +kernel
theorem dX11_together_124 : decode cX11_together 124 = .ok (.iinc 8 (-1), 3) := by decide +kernel
theorem dX11_together_127 : decode cX11_together 127 = .ok (.goto (-42), 3) := by decide +kernel
theorem dX11_together_130 : decode cX11_together 130 = .ok (.aload_n 0, 1) := by decide +kernel
theorem dX11_together_131 : decode cX11_together 131 = .ok (.iload_n 1, 1) := by decide +kernel
theorem dX11_together_132 : decode cX11_together 132 = .ok (.iload_n 3, 1) := by decide +kernel
theorem dX11_together_133 : decode cX11_together 133 = .ok (.invokevirtual 208, 3) := by decide +kernel
theorem dX11_together_136 : decode cX11_together 136 = .ok (.istore 8, 2) := by decide +kernel
theorem dX11_together_138 : decode cX11_together 138 = .ok (.iload 8, 2) := by decide +kernel
theorem dX11_together_140 : decode cX11_together 140 = .ok (.iload 4, 2) := by decide +kernel
theorem dX11_together_142 : decode cX11_together 142 = .ok (.if_icmp .le 23, 3) := by decide +kernel
theorem dX11_together_145 : decode cX11_together 145 = .ok (.iload 8, 2) := by decide +kernel
theorem dX11_together_147 : decode cX11_together 147 = .ok (.istore 4, 2) := by decide +kernel
theorem dX11_together_149 : decode cX11_together 149 = .ok (.iload_n 2, 1) := by decide +kernel
theorem dX11_together_150 : decode cX11_together 150 = .ok (.ifCond .ge 7, 3) := by decide +kernel
theorem dX11_together_153 : decode cX11_together 153 = .ok (.iconst (-1), 1) := by decide +kernel
theorem dX11_together_154 : decode cX11_together 154 = .ok (.goto 9, 3) := by decide +kernel
theorem dX11_together_157 : decode cX11_together 157 = .ok (.aload_n 0, 1) := by decide +kernel
theorem dX11_together_158 : decode cX11_together 158 = .ok (.getfield 35, 3) := by decide +kernel
theorem dX11_together_161 : decode cX11_together 161 = .ok (.iload_n 2, 1) := by decide +kernel
theorem dX11_together_162 : decode cX11_together 162 = .ok (.iaload, 1) := by decide +kernel
theorem dX11_together_163 : decode cX11_together 163 = .ok (.istore 5, 2) := by decide +kernel
theorem dX11_together_165 : decode cX11_together 165 = .ok (.iinc 6 1, 3) := by decide +kernel
theorem dX11_together_168 : decode cX11_together 168 = .ok (.goto (-108), 3) := by decide +kernel
theorem dX11_together_171 : decode cX11_together 171 = .ok (.iload_n 2, 1) := by decide +kernel
theorem dX11_together_172 : decode cX11_together 172 = .ok (.ifCond .ge 8, 3) := by decide +kernel
theorem dX11_together_175 : decode cX11_together 175 = .ok (.iload 4, 2) := by decide +kernel
theorem dX11_together_177 : decode cX11_together 177 = .ok (.goto 5, 3) := by decide +kernel
theorem dX11_together_180 : decode cX11_together 180 = .ok (.iload 5, 2) := by decide +kernel
theorem dX11_together_182 : decode cX11_together 182 = .ok (.ireturn, 1) := by decide +kernel
theorem dX11_pitch_0 : decode cX11_pitch 0 = .ok (.iload_n 1, 1) := by decide +kernel
theorem dX11_pitch_1 : decode cX11_pitch 1 = .ok (.i2l, 1) := by decide +kernel
theorem dX11_pitch_2 : decode cX11_pitch 2 = .ok (.lconst 0, 1) := by decide +kernel
theorem dX11_pitch_3 : decode cX11_pitch 3 = .ok (.ldc2_w 168, 3) := by decide +kernel
theorem dX11_pitch_6 : decode cX11_pitch 6 = .ok (.invokestatic 49, 3) := by decide +kernel
theorem dX11_pitch_9 : decode cX11_pitch 9 = .ok (.ifCond .ne 6, 3) := by decide +kernel
theorem dX11_pitch_12 : decode cX11_pitch 12 = .ok (.bipush (-3), 2) := by decide +kernel
theorem dX11_pitch_14 : decode cX11_pitch 14 = .ok (.ireturn, 1) := by decide +kernel
theorem dX11_pitch_15 : decode cX11_pitch 15 = .ok (.aload_n 0, 1) := by decide +kernel
theorem dX11_pitch_16 : decode cX11_pitch 16 = .ok (.invokevirtual 185, 3) := by decide +kernel
theorem dX11_pitch_19 : decode cX11_pitch 19 = .ok (.aload_n 0, 1) := by decide +kernel
theorem dX11_pitch_20 : decode cX11_pitch 20 = .ok (.getfield 13, 3) := by decide +kernel
theorem dX11_pitch_23 : decode cX11_pitch 23 = .ok (.bipush 32, 2) := by decide +kernel
theorem dX11_pitch_25 : decode cX11_pitch 25 = .ok (.aload_n 0, 1) := by decide +kernel
theorem dX11_pitch_26 : decode cX11_pitch 26 = .ok (.getfield 13, 3) := by decide +kernel
theorem dX11_pitch_29 : decode cX11_pitch 29 = .ok (.bipush 32, 2) := by decide +kernel
theorem dX11_pitch_31 : decode cX11_pitch 31 = .ok (.iaload, 1) := by decide +kernel
theorem dX11_pitch_32 : decode cX11_pitch 32 = .ok (.iload_n 1, 1) := by decide +kernel
theorem dX11_pitch_33 : decode cX11_pitch 33 = .ok (.invokestatic 170, 3) := by decide +kernel
theorem dX11_pitch_36 : decode cX11_pitch 36 = .ok (.iastore, 1) := by decide +kernel
theorem dX11_pitch_37 : decode cX11_pitch 37 = .ok (.aload_n 0, 1) := by decide +kernel
theorem dX11_pitch_38 : decode cX11_pitch 38 = .ok (.bipush 99, 2) := by decide +kernel
theorem dX11_pitch_40 : decode cX11_pitch 40 = .ok (.invokevirtual 194, 3) := by decide +kernel
theorem dX11_pitch_43 : decode cX11_pitch 43 = .ok (.ireturn, 1) := by decide +kernel
theorem dX11_seen_0 : decode cX11_seen 0 = .ok (.iload_n 1, 1) := by decide +kernel
theorem dX11_seen_1 : decode cX11_seen 1 = .ok (.i2l, 1) := by decide +kernel
theorem dX11_seen_2 : decode cX11_seen 2 = .ok (.lconst 0, 1) := by decide +kernel
theorem dX11_seen_3 : decode cX11_seen 3 = .ok (.ldc2_w 173, 3) := by decide +kernel
theorem dX11_seen_6 : decode cX11_seen 6 = .ok (.invokestatic 49, 3) := by decide +kernel
theorem dX11_seen_9 : decode cX11_seen 9 = .ok (.ifCond .eq 15, 3) := by decide +kernel
theorem dX11_seen_12 : decode cX11_seen 12 = .ok (.iload_n 2, 1) := by decide +kernel
theorem dX11_seen_13 : decode cX11_seen 13 = .ok (.i2l, 1) := by decide +kernel
theorem dX11_seen_14 : decode cX11_seen 14 = .ok (.lconst 0, 1) := by decide +kernel
theorem dX11_seen_15 : decode cX11_seen 15 = .ok (.ldc2_w 173, 3) := by decide +kernel
theorem dX11_seen_18 : decode cX11_seen 18 = .ok (.invokestatic 49, 3) := by decide +kernel
theorem dX11_seen_21 : decode cX11_seen 21 = .ok (.ifCond .ne 6, 3) := by decide +kernel
theorem dX11_seen_24 : decode cX11_seen 24 = .ok (.bipush (-3), 2) := by decide +kernel
theorem dX11_seen_26 : decode cX11_seen 26 = .ok (.ireturn, 1) := by decide +kernel
theorem dX11_seen_27 : decode cX11_seen 27 = .ok (.aload_n 0, 1) := by decide +kernel
theorem dX11_seen_28 : decode cX11_seen 28 = .ok (.getfield 127, 3) := by decide +kernel
theorem dX11_seen_31 : decode cX11_seen 31 = .ok (.bipush 6, 2) := by decide +kernel
theorem dX11_seen_33 : decode cX11_seen 33 = .ok (.if_icmp .ne 6, 3) := by decide +kernel
theorem dX11_seen_36 : decode cX11_seen 36 = .ok (.bipush (-5), 2) := by decide +kernel
theorem dX11_seen_38 : decode cX11_seen 38 = .ok (.ireturn, 1) := by decide +kernel
theorem dX11_seen_39 : decode cX11_seen 39 = .ok (.aload_n 0, 1) := by decide +kernel
theorem dX11_seen_40 : decode cX11_seen 40 = .ok (.getfield 38, 3) := by decide +kernel
theorem dX11_seen_43 : decode cX11_seen 43 = .ok (.iconst 2, 1) := by decide +kernel
theorem dX11_seen_44 : decode cX11_seen 44 = .ok (.aload_n 0, 1) := by decide +kernel
theorem dX11_seen_45 : decode cX11_seen 45 = .ok (.getfield 127, 3) := by decide +kernel
theorem dX11_seen_48 : decode cX11_seen 48 = .ok (.imul, 1) := by decide +kernel
theorem dX11_seen_49 : decode cX11_seen 49 = .ok (.iload_n 1, 1) := by decide +kernel
theorem dX11_seen_50 : decode cX11_seen 50 = .ok (.iastore, 1) := by decide +kernel
theorem dX11_seen_51 : decode cX11_seen 51 = .ok (.aload_n 0, 1) := by decide +kernel
theorem dX11_seen_52 : decode cX11_seen 52 = .ok (.getfield 38, 3) := by decide +kernel
theorem dX11_seen_55 : decode cX11_seen 55 = .ok (.iconst 2, 1) := by decide +kernel
theorem dX11_seen_56 : decode cX11_seen 56 = .ok (.aload_n 0, 1) := by decide +kernel
theorem dX11_seen_57 : decode cX11_seen 57 = .ok (.getfield 127, 3) := by decide +kernel
theorem dX11_seen_60 : decode cX11_seen 60 = .ok (.imul, 1) := by decide +kernel
theorem dX11_seen_61 : decode cX11_seen 61 = .ok (.iconst 1, 1) := by decide +kernel
theorem dX11_seen_62 : decode cX11_seen 62 = .ok (.iadd, 1) := by decide +kernel
theorem dX11_seen_63 : decode cX11_seen 63 = .ok (.iload_n 2, 1) := by decide +kernel
theorem dX11_seen_64 : decode cX11_seen 64 = .ok (.iastore, 1) := by decide +kernel
theorem dX11_seen_65 : decode cX11_seen 65 = .ok (.aload_n 0, 1) := by decide +kernel
theorem dX11_seen_66 : decode cX11_seen 66 = .ok (.dup, 1) := by decide +kernel
theorem dX11_seen_67 : decode cX11_seen 67 = .ok (.getfield 127, 3) := by decide +kernel
theorem dX11_seen_70 : decode cX11_seen 70 = .ok (.iconst 1, 1) := by decide +kernel
theorem dX11_seen_71 : decode cX11_seen 71 = .ok (.iadd, 1) := by decide +kernel
theorem dX11_seen_72 : decode cX11_seen 72 = .ok (.putfield 127, 3) := by decide +kernel
theorem dX11_seen_75 : decode cX11_seen 75 = .ok (.aload_n 0, 1) := by decide +kernel
theorem dX11_seen_76 : decode cX11_seen 76 = .ok (.getfield 127, 3) := by decide +kernel
theorem dX11_seen_79 : decode cX11_seen 79 = .ok (.ireturn, 1) := by decide +kernel
theorem dX11_forget_0 : decode cX11_forget 0 = .ok (.aload_n 0, 1) := by decide +kernel
theorem dX11_forget_1 : decode cX11_forget 1 = .ok (.getfield 127, 3) := by decide +kernel
theorem dX11_forget_4 : decode cX11_forget 4 = .ok (.istore_n 1, 1) := by decide +kernel
theorem dX11_forget_5 : decode cX11_forget 5 = .ok (.aload_n 0, 1) := by decide +kernel
theorem dX11_forget_6 : decode cX11_forget 6 = .ok (.iconst 0, 1) := by decide +kernel
theorem dX11_forget_7 : decode cX11_forget 7 = .ok (.putfield 127, 3) := by decide +kernel
theorem dX11_forget_10 : decode cX11_forget 10 = .ok (.iload_n 1, 1) := by decide +kernel
theorem dX11_forget_11 : decode cX11_forget 11 = .ok (.ireturn, 1) := by decide +kernel
theorem dX11_isBy_0 : decode cX11_isBy 0 = .ok (.aload_n 0, 1) := by decide +kernel
theorem dX11_isBy_1 : decode cX11_isBy 1 = .ok (.invokevirtual 124, 3) := by decide +kernel
theorem dX11_isBy_4 : decode cX11_isBy 4 = .ok (.iconst 0, 1) := by decide +kernel
theorem dX11_isBy_5 : decode cX11_isBy 5 = .ok (.istore_n 2, 1) := by decide +kernel
theorem dX11_isBy_6 : decode cX11_isBy 6 = .ok (.iload_n 2, 1) := by decide +kernel
theorem dX11_isBy_7 : decode cX11_isBy 7 = .ok (.aload_n 0, 1) := by decide +kernel
theorem dX11_isBy_8 : decode cX11_isBy 8 = .ok (.getfield 45, 3) := by decide +kernel
theorem dX11_isBy_11 : decode cX11_isBy 11 = .ok (.if_icmp .ge 22, 3) := by decide +kernel
theorem dX11_isBy_14 : decode cX11_isBy 14 = .ok (.iload_n 1, 1) := by decide +kernel
theorem dX11_isBy_15 : decode cX11_isBy 15 = .ok (.iload_n 2, 1) := by decide +kernel
theorem dX11_isBy_16 : decode cX11_isBy 16 = .ok (.invokestatic 203, 3) := by decide +kernel
theorem dX11_isBy_19 : decode cX11_isBy 19 = .ok (.ifCond .eq 8, 3) := by decide +kernel
theorem dX11_isBy_22 : decode cX11_isBy 22 = .ok (.aload_n 0, 1) := by decide +kernel
theorem dX11_isBy_23 : decode cX11_isBy 23 = .ok (.iload_n 2, 1) := by decide +kernel
theorem dX11_isBy_24 : decode cX11_isBy 24 = .ok (.invokevirtual 155, 3) := by decide +kernel
theorem dX11_isBy_27 : decode cX11_isBy 27 = .ok (.iinc 2 1, 3) := by decide +kernel
theorem dX11_isBy_30 : decode cX11_isBy 30 = .ok (.goto (-24), 3) := by decide +kernel
theorem dX11_isBy_33 : decode cX11_isBy 33 = .ok (.iconst 1, 1) := by decide +kernel
theorem dX11_isBy_34 : decode cX11_isBy 34 = .ok (.istore_n 2, 1) := by decide +kernel
theorem dX11_isBy_35 : decode cX11_isBy 35 = .ok (.iconst 0, 1) := by decide +kernel
theorem dX11_isBy_36 : decode cX11_isBy 36 = .ok (.istore_n 3, 1) := by decide +kernel
theorem dX11_isBy_37 : decode cX11_isBy 37 = .ok (.iload_n 3, 1) := by decide +kernel
theorem dX11_isBy_38 : decode cX11_isBy 38 = .ok (.bipush 99, 2) := by decide +kernel
theorem dX11_isBy_40 : decode cX11_isBy 40 = .ok (.if_icmp .gt 76, 3) := by decide +kernel
theorem dX11_isBy_43 : decode cX11_isBy 43 = .ok (.iconst 0, 1) := by decide +kernel
theorem dX11_isBy_44 : decode cX11_isBy 44 = .ok (.istore 4, 2) := by decide +kernel
theorem dX11_isBy_46 : decode cX11_isBy 46 = .ok (.iload 4, 2) := by decide +kernel
theorem dX11_isBy_48 : decode cX11_isBy 48 = .ok (.aload_n 0, 1) := by decide +kernel
theorem dX11_isBy_49 : decode cX11_isBy 49 = .ok (.getfield 127, 3) := by decide +kernel
theorem dX11_isBy_52 : decode cX11_isBy 52 = .ok (.if_icmp .ge 53, 3) := by decide +kernel
theorem dX11_isBy_55 : decode cX11_isBy 55 = .ok (.iload_n 2, 1) := by decide +kernel
theorem dX11_isBy_56 : decode cX11_isBy 56 = .ok (.ifCond .eq 41, 3) := by decide +kernel
theorem dX11_isBy_59 : decode cX11_isBy 59 = .ok (.aload_n 0, 1) := by decide +kernel
theorem dX11_isBy_60 : decode cX11_isBy 60 = .ok (.getfield 38, 3) := by decide +kernel
theorem dX11_isBy_63 : decode cX11_isBy 63 = .ok (.iconst 2, 1) := by decide +kernel
theorem dX11_isBy_64 : decode cX11_isBy 64 = .ok (.iload 4, 2) := by decide +kernel
theorem dX11_isBy_66 : decode cX11_isBy 66 = .ok (.imul, 1) := by decide +kernel
theorem dX11_isBy_67 : decode cX11_isBy 67 = .ok (.iaload, 1) := by decide +kernel
theorem dX11_isBy_68 : decode cX11_isBy 68 = .ok (.iload_n 3, 1) := by decide +kernel
theorem dX11_isBy_69 : decode cX11_isBy 69 = .ok (.if_icmp .ne 24, 3) := by decide +kernel
theorem dX11_isBy_72 : decode cX11_isBy 72 = .ok (.aload_n 0, 1) := by decide +kernel
theorem dX11_isBy_73 : decode cX11_isBy 73 = .ok (.getfield 38, 3) := by decide +kernel
theorem dX11_isBy_76 : decode cX11_isBy 76 = .ok (.iconst 2, 1) := by decide +kernel
theorem dX11_isBy_77 : decode cX11_isBy 77 = .ok (.iload 4, 2) := by decide +kernel
theorem dX11_isBy_79 : decode cX11_isBy 79 = .ok (.imul, 1) := by decide +kernel
theorem dX11_isBy_80 : decode cX11_isBy 80 = .ok (.iconst 1, 1) := by decide +kernel
theorem dX11_isBy_81 : decode cX11_isBy 81 = .ok (.iadd, 1) := by decide +kernel
theorem dX11_isBy_82 : decode cX11_isBy 82 = .ok (.iaload, 1) := by decide +kernel
theorem dX11_isBy_83 : decode cX11_isBy 83 = .ok (.aload_n 0, 1) := by decide +kernel
theorem dX11_isBy_84 : decode cX11_isBy 84 = .ok (.getfield 13, 3) := by decide +kernel
theorem dX11_isBy_87 : decode cX11_isBy 87 = .ok (.bipush 31, 2) := by decide +kernel
theorem dX11_isBy_89 : decode cX11_isBy 89 = .ok (.iaload, 1) := by decide +kernel
theorem dX11_isBy_90 : decode cX11_isBy 90 = .ok (.if_icmp .ne 7, 3) := by decide +kernel
theorem dX11_isBy_93 : decode cX11_isBy 93 = .ok (.iconst 1, 1) := by decide +kernel
theorem dX11_isBy_94 : decode cX11_isBy 94 = .ok (.goto 4, 3) := by decide +kernel
theorem dX11_isBy_97 : decode cX11_isBy 97 = .ok (.iconst 0, 1) := by decide +kernel
theorem dX11_isBy_98 : decode cX11_isBy 98 = .ok (.istore_n 2, 1) := by decide +kernel
theorem dX11_isBy_99 : decode cX11_isBy 99 = .ok (.iinc 4 1, 3) := by decide +kernel
theorem dX11_isBy_102 : decode cX11_isBy 102 = .ok (.goto (-56), 3) := by decide +kernel
theorem dX11_isBy_105 : decode cX11_isBy 105 = .ok (.aload_n 0, 1) := by decide +kernel
theorem dX11_isBy_106 : decode cX11_isBy 106 = .ok (.invokevirtual 175, 3) := by decide +kernel
theorem dX11_isBy_109 : decode cX11_isBy 109 = .ok (.pop, 1) := by decide +kernel
theorem dX11_isBy_110 : decode cX11_isBy 110 = .ok (.iinc 3 1, 3) := by decide +kernel
theorem dX11_isBy_113 : decode cX11_isBy 113 = .ok (.goto (-76), 3) := by decide +kernel
theorem dX11_isBy_116 : decode cX11_isBy 116 = .ok (.aload_n 0, 1) := by decide +kernel
theorem dX11_isBy_117 : decode cX11_isBy 117 = .ok (.invokevirtual 178, 3) := by decide +kernel
theorem dX11_isBy_120 : decode cX11_isBy 120 = .ok (.iload_n 2, 1) := by decide +kernel
theorem dX11_isBy_121 : decode cX11_isBy 121 = .ok (.ireturn, 1) := by decide +kernel
theorem dX11_worked_0 : decode cX11_worked 0 = .ok (.iload_n 1, 1) := by decide +kernel
theorem dX11_worked_1 : decode cX11_worked 1 = .ok (.i2l, 1) := by decide +kernel
theorem dX11_worked_2 : decode cX11_worked 2 = .ok (.lconst 0, 1) := by decide +kernel
theorem dX11_worked_3 : decode cX11_worked 3 = .ok (.ldc2_w 211, 3) := by decide +kernel
theorem dX11_worked_6 : decode cX11_worked 6 = .ok (.invokestatic 49, 3) := by decide +kernel
theorem dX11_worked_9 : decode cX11_worked 9 = .ok (.ifCond .ne 6, 3) := by decide +kernel
theorem dX11_worked_12 : decode cX11_worked 12 = .ok (.bipush (-3), 2) := by decide +kernel
theorem dX11_worked_14 : decode cX11_worked 14 = .ok (.ireturn, 1) := by decide +kernel
theorem dX11_worked_15 : decode cX11_worked 15 = .ok (.aload_n 0, 1) := by decide +kernel
theorem dX11_worked_16 : decode cX11_worked 16 = .ok (.invokevirtual 185, 3) := by decide +kernel
theorem dX11_worked_19 : decode cX11_worked 19 = .ok (.iconst 0, 1) := by decide +kernel
theorem dX11_worked_20 : decode cX11_worked 20 = .ok (.istore_n 2, 1) := by decide +kernel
theorem dX11_worked_21 : decode cX11_worked 21 = .ok (.iconst (-1), 1) := by decide +kernel
theorem dX11_worked_22 : decode cX11_worked 22 = .ok (.istore_n 3, 1) := by decide +kernel
theorem dX11_worked_23 : decode cX11_worked 23 = .ok (.iconst 1, 1) := by decide +kernel
theorem dX11_worked_24 : decode cX11_worked 24 = .ok (.aload_n 0, 1) := by decide +kernel
theorem dX11_worked_25 : decode cX11_worked 25 = .ok (.getfield 45, 3) := by decide +kernel
theorem dX11_worked_28 : decode cX11_worked 28 = .ok (.ishl, 1) := by decide +kernel
theorem dX11_worked_29 : decode cX11_worked 29 = .ok (.iconst 1, 1) := by decide +kernel
theorem dX11_worked_30 : decode cX11_worked 30 = .ok (.isub, 1) := by decide +kernel
theorem dX11_worked_31 : decode cX11_worked 31 = .ok (.istore 4, 2) := by decide +kernel
theorem dX11_worked_33 : decode cX11_worked 33 = .ok (.iconst 1, 1) := by decide +kernel
theorem dX11_worked_34 : decode cX11_worked 34 = .ok (.aload_n 0, 1) := by decide +kernel
theorem dX11_worked_35 : decode cX11_worked 35 = .ok (.getfield 45, 3) := by decide +kernel
theorem dX11_worked_38 : decode cX11_worked 38 = .ok (.ishl, 1) := by decide +kernel
theorem dX11_worked_39 : decode cX11_worked 39 = .ok (.iconst 1, 1) := by decide +kernel
theorem dX11_worked_40 : decode cX11_worked 40 = .ok (.isub, 1) := by decide +kernel
theorem dX11_worked_41 : decode cX11_worked 41 = .ok (.istore 5, 2) := by decide +kernel
theorem dX11_worked_43 : decode cX11_worked 43 = .ok (.iload 5, 2) := by decide +kernel
theorem dX11_worked_45 : decode cX11_worked 45 = .ok (.ifCond .lt 31, 3) := by decide +kernel
theorem dX11_worked_48 : decode cX11_worked 48 = .ok (.aload_n 0, 1) := by decide +kernel
theorem dX11_worked_49 : decode cX11_worked 49 = .ok (.iload 5, 2) := by decide +kernel
theorem dX11_worked_51 : decode cX11_worked 51 = .ok (.invokevirtual 213, 3) := by decide +kernel
theorem dX11_worked_54 : decode cX11_worked 54 = .ok (.ifCond .eq 16, 3) := by decide +kernel
theorem dX11_worked_57 : decode cX11_worked 57 = .ok (.iinc 2 1, 3) := by decide +kernel
theorem dX11_worked_60 : decode cX11_worked 60 = .ok (.iload 5, 2) := by decide +kernel
theorem dX11_worked_62 : decode cX11_worked 62 = .ok (.istore_n 3, 1) := by decide +kernel
theorem dX11_worked_63 : decode cX11_worked 63 = .ok (.iload 4, 2) := by decide +kernel
theorem dX11_worked_65 : decode cX11_worked 65 = .ok (.iload 5, 2) := by decide +kernel
theorem dX11_worked_67 : decode cX11_worked 67 = .ok (.iand, 1) := by decide +kernel
theorem dX11_worked_68 : decode cX11_worked 68 = .ok (.istore 4, 2) := by decide +kernel
theorem dX11_worked_70 : decode cX11_worked 70 = .ok (.iinc 5 (-1), 3) := by decide +kernel
theorem dX11_worked_73 : decode cX11_worked 73 = .ok (.goto (-30), 3) := by decide +kernel
theorem dX11_worked_76 : decode cX11_worked 76 = .ok (.iload_n 1, 1) := by decide +kernel
theorem dX11_worked_77 : decode cX11_worked 77 = .ok (.ifCond .ne 7, 3) := by decide +kernel
theorem dX11_worked_80 : decode cX11_worked 80 = .ok (.iload_n 2, 1) := by decide +kernel
theorem dX11_worked_81 : decode cX11_worked 81 = .ok (.goto 22, 3) := by decide +kernel
theorem dX11_worked_84 : decode cX11_worked 84 = .ok (.iload_n 1, 1) := by decide +kernel
theorem dX11_worked_85 : decode cX11_worked 85 = .ok (.iconst 1, 1) := by decide +kernel
theorem dX11_worked_86 : decode cX11_worked 86 = .ok (.if_icmp .ne 7, 3) := by decide +kernel
theorem dX11_worked_89 : decode cX11_worked 89 = .ok (.iload_n 3, 1) := by decide +kernel
theorem dX11_worked_90 : decode cX11_worked 90 = .ok (.goto 13, 3) := by decide +kernel
theorem dX11_worked_93 : decode cX11_worked 93 = .ok (.iload_n 2, 1) := by decide +kernel
theorem dX11_worked_94 : decode cX11_worked 94 = .ok (.ifCond .ne 7, 3) := by decide +kernel
theorem dX11_worked_97 : decode cX11_worked 97 = .ok (.iconst 0, 1) := by decide +kernel
theorem dX11_worked_98 : decode cX11_worked 98 = .ok (.goto 5, 3) := by decide +kernel
theorem dX11_worked_101 : decode cX11_worked 101 = .ok (.iload 4, 2) := by decide +kernel
theorem dX11_worked_103 : decode cX11_worked 103 = .ok (.ireturn, 1) := by decide +kernel
theorem dX11_leaves_0 : decode cX11_leaves 0 = .ok (.iload_n 1, 1) := by decide +kernel
theorem dX11_leaves_1 : decode cX11_leaves 1 = .ok (.i2l, 1) := by decide +kernel
theorem dX11_leaves_2 : decode cX11_leaves 2 = .ok (.lconst 0, 1) := by decide +kernel
theorem dX11_leaves_3 : decode cX11_leaves 3 = .ok (.ldc2_w 216, 3) := by decide +kernel
theorem dX11_leaves_6 : decode cX11_leaves 6 = .ok (.invokestatic 49, 3) := by decide +kernel
theorem dX11_leaves_9 : decode cX11_leaves 9 = .ok (.ifCond .eq 38, 3) := by decide +kernel
theorem dX11_leaves_12 : decode cX11_leaves 12 = .ok (.iload_n 2, 1) := by decide +kernel
theorem dX11_leaves_13 : decode cX11_leaves 13 = .ok (.i2l, 1) := by decide +kernel
theorem dX11_leaves_14 : decode cX11_leaves 14 = .ok (.lconst 0, 1) := by decide +kernel
theorem dX11_leaves_15 : decode cX11_leaves 15 = .ok (.ldc2_w 216, 3) := by decide +kernel
theorem dX11_leaves_18 : decode cX11_leaves 18 = .ok (.invokestatic 49, 3) := by decide +kernel
theorem dX11_leaves_21 : decode cX11_leaves 21 = .ok (.ifCond .eq 26, 3) := by decide +kernel
theorem dX11_leaves_24 : decode cX11_leaves 24 = .ok (.iload_n 3, 1) := by decide +kernel
theorem dX11_leaves_25 : decode cX11_leaves 25 = .ok (.i2l, 1) := by decide +kernel
theorem dX11_leaves_26 : decode cX11_leaves 26 = .ok (.lconst 0, 1) := by decide +kernel
theorem dX11_leaves_27 : decode cX11_leaves 27 = .ok (.ldc2_w 218, 3) := by decide +kernel
theorem dX11_leaves_30 : decode cX11_leaves 30 = .ok (.invokestatic 49, 3) := by decide +kernel
theorem dX11_leaves_33 : decode cX11_leaves 33 = .ok (.ifCond .eq 14, 3) := by decide +kernel
theorem dX11_leaves_36 : decode cX11_leaves 36 = .ok (.iload 4, 2) := by decide +kernel
theorem dX11_leaves_38 : decode cX11_leaves 38 = .ok (.i2l, 1) := by decide +kernel
theorem dX11_leaves_39 : decode cX11_leaves 39 = .ok (.lconst 0, 1) := by decide +kernel
theorem dX11_leaves_40 : decode cX11_leaves 40 = .ok (.lconst 1, 1) := by decide +kernel
theorem dX11_leaves_41 : decode cX11_leaves 41 = .ok (.invokestatic 49, 3) := by decide +kernel
theorem dX11_leaves_44 : decode cX11_leaves 44 = .ok (.ifCond .ne 6, 3) := by decide +kernel
theorem dX11_leaves_47 : decode cX11_leaves 47 = .ok (.bipush (-3), 2) := by decide +kernel
theorem dX11_leaves_49 : decode cX11_leaves 49 = .ok (.ireturn, 1) := by decide +kernel
theorem dX11_leaves_50 : decode cX11_leaves 50 = .ok (.iconst 0, 1) := by decide +kernel
theorem dX11_leaves_51 : decode cX11_leaves 51 = .ok (.istore 5, 2) := by decide +kernel
theorem dX11_leaves_53 : decode cX11_leaves 53 = .ok (.iconst 1, 1) := by decide +kernel
theorem dX11_leaves_54 : decode cX11_leaves 54 = .ok (.istore 6, 2) := by decide +kernel
theorem dX11_leaves_56 : decode cX11_leaves 56 = .ok (.iconst 0, 1) := by decide +kernel
theorem dX11_leaves_57 : decode cX11_leaves 57 = .ok (.istore 7, 2) := by decide +kernel
theorem dX11_leaves_59 : decode cX11_leaves 59 = .ok (.iload 7, 2) := by decide +kernel
theorem dX11_leaves_61 : decode cX11_leaves 61 = .ok (.iload_n 1, 1) := by decide +kernel
theorem dX11_leaves_62 : decode cX11_leaves 62 = .ok (.if_icmp .ge 16, 3) := by decide +kernel
theorem dX11_leaves_65 : decode cX11_leaves 65 = .ok (.iload 6, 2) := by decide +kernel
theorem dX11_leaves_67 : decode cX11_leaves 67 = .ok (.bipush 10, 2) := by decide +kernel
theorem dX11_leaves_69 : decode cX11_leaves 69 = .ok (.imul, 1) := by decide +kernel
theorem dX11_leaves_70 : decode cX11_leaves 70 = .ok (.istore 6, 2) := by decide +kernel
theorem dX11_leaves_72 : decode cX11_leaves 72 = .ok (.iinc 7 1, 3) := by decide +kernel
theorem dX11_leaves_75 : decode cX11_leaves 75 = .ok (.goto (-16), 3) := by decide +kernel
theorem dX11_leaves_78 : decode cX11_leaves 78 = .ok (.iconst 0, 1) := by decide +kernel
theorem dX11_leaves_79 : decode cX11_leaves 79 = .ok (.istore 7, 2) := by decide +kernel
theorem dX11_leaves_81 : decode cX11_leaves 81 = .ok (.iload 7, 2) := by decide +kernel
theorem dX11_leaves_83 : decode cX11_leaves 83 = .ok (.iconst 1, 1) := by decide +kernel
theorem dX11_leaves_84 : decode cX11_leaves 84 = .ok (.iload_n 1, 1) := by decide +kernel
theorem dX11_leaves_85 : decode cX11_leaves 85 = .ok (.ishl, 1) := by decide +kernel
theorem dX11_leaves_86 : decode cX11_leaves 86 = .ok (.if_icmp .ge 70, 3) := by decide +kernel
theorem dX11_leaves_89 : decode cX11_leaves 89 = .ok (.iconst 1, 1) := by decide +kernel
theorem dX11_leaves_90 : decode cX11_leaves 90 = .ok (.istore 8, 2) := by decide +kernel
theorem dX11_leaves_92 : decode cX11_leaves 92 = .ok (.iconst 0, 1) := by decide +kernel
theorem dX11_leaves_93 : decode cX11_leaves 93 = .ok (.istore 9, 2) := by decide +kernel
theorem dX11_leaves_95 : decode cX11_leaves 95 = .ok (.iload 9, 2) := by decide +kernel
theorem dX11_leaves_97 : decode cX11_leaves 97 = .ok (.iload_n 1, 1) := by decide +kernel
theorem dX11_leaves_98 : decode cX11_leaves 98 = .ok (.if_icmp .ge 32, 3) := by decide +kernel
theorem dX11_leaves_101 : decode cX11_leaves 101 = .ok (.iload 8, 2) := by decide +kernel
theorem dX11_leaves_103 : decode cX11_leaves 103 = .ok (.iload 7, 2) := by decide +kernel
theorem dX11_leaves_105 : decode cX11_leaves 105 = .ok (.iload 9, 2) := by decide +kernel
theorem dX11_leaves_107 : decode cX11_leaves 107 = .ok (.invokestatic 203, 3) := by decide +kernel
theorem dX11_leaves_110 : decode cX11_leaves 110 = .ok (.ifCond .eq 7, 3) := by decide +kernel
theorem dX11_leaves_113 : decode cX11_leaves 113 = .ok (.iload_n 3, 1) := by decide +kernel
theorem dX11_leaves_114 : decode cX11_leaves 114 = .ok (.goto 7, 3) := by decide +kernel
theorem dX11_leaves_117 : decode cX11_leaves 117 = .ok (.bipush 10, 2) := by decide +kernel
theorem dX11_leaves_119 : decode cX11_leaves 119 = .ok (.iload_n 3, 1) := by decide +kernel
theorem dX11_leaves_120 : decode cX11_leaves 120 = .ok (.isub, 1) := by decide +kernel
theorem dX11_leaves_121 : decode cX11_leaves 121 = .ok (.imul, 1) := by decide +kernel
theorem dX11_leaves_122 : decode cX11_leaves 122 = .ok (.istore 8, 2) := by decide +kernel
theorem dX11_leaves_124 : decode cX11_leaves 124 = .ok (.iinc 9 1, 3) := by decide +kernel
theorem dX11_leaves_127 : decode cX11_leaves 127 = .ok (.goto (-32), 3) := by decide +kernel
theorem dX11_leaves_130 : decode cX11_leaves 130 = .ok (.iload 5, 2) := by decide +kernel
theorem dX11_leaves_132 : decode cX11_leaves 132 = .ok (.iload 7, 2) := by decide +kernel
theorem dX11_leaves_134 : decode cX11_leaves 134 = .ok (.invokestatic 200, 3) := by decide +kernel
theorem dX11_leaves_137 : decode cX11_leaves 137 = .ok (.iload_n 2, 1) := by decide +kernel
theorem dX11_leaves_138 : decode cX11_leaves 138 = .ok (.if_icmp .lt 8, 3) := by decide +kernel
theorem dX11_leaves_141 : decode cX11_leaves 141 = .ok (.iload 8, 2) := by decide +kernel
theorem dX11_leaves_143 : decode cX11_leaves 143 = .ok (.goto 4, 3) := by decide +kernel
theorem dX11_leaves_146 : decode cX11_leaves 146 = .ok (.iconst 0, 1) := by decide +kernel
theorem dX11_leaves_147 : decode cX11_leaves 147 = .ok (.iadd, 1) := by decide +kernel
theorem dX11_leaves_148 : decode cX11_leaves 148 = .ok (.istore 5, 2) := by decide +kernel
theorem dX11_leaves_150 : decode cX11_leaves 150 = .ok (.iinc 7 1, 3) := by decide +kernel
theorem dX11_leaves_153 : decode cX11_leaves 153 = .ok (.goto (-72), 3) := by decide +kernel
theorem dX11_leaves_156 : decode cX11_leaves 156 = .ok (.iload 5, 2) := by decide +kernel
theorem dX11_leaves_158 : decode cX11_leaves 158 = .ok (.istore 7, 2) := by decide +kernel
theorem dX11_leaves_160 : decode cX11_leaves 160 = .ok (.iload 6, 2) := by decide +kernel
theorem dX11_leaves_162 : decode cX11_leaves 162 = .ok (.istore 8, 2) := by decide +kernel
theorem dX11_leaves_164 : decode cX11_leaves 164 = .ok (.iload 8, 2) := by decide +kernel
theorem dX11_leaves_166 : decode cX11_leaves 166 = .ok (.ifCond .eq 21, 3) := by decide +kernel
theorem dX11_leaves_169 : decode cX11_leaves 169 = .ok (.iload 7, 2) := by decide +kernel
theorem dX11_leaves_171 : decode cX11_leaves 171 = .ok (.iload 8, 2) := by decide +kernel
theorem dX11_leaves_173 : decode cX11_leaves 173 = .ok (.irem, 1) := by decide +kernel
theorem dX11_leaves_174 : decode cX11_leaves 174 = .ok (.istore 9, 2) := by decide +kernel
theorem dX11_leaves_176 : decode cX11_leaves 176 = .ok (.iload 8, 2) := by decide +kernel
theorem dX11_leaves_178 : decode cX11_leaves 178 = .ok (.istore 7, 2) := by decide +kernel
theorem dX11_leaves_180 : decode cX11_leaves 180 = .ok (.iload 9, 2) := by decide +kernel
theorem dX11_leaves_182 : decode cX11_leaves 182 = .ok (.istore 8, 2) := by decide +kernel
theorem dX11_leaves_184 : decode cX11_leaves 184 = .ok (.goto (-20), 3) := by decide +kernel
theorem dX11_leaves_187 : decode cX11_leaves 187 = .ok (.iload 4, 2) := by decide +kernel
theorem dX11_leaves_189 : decode cX11_leaves 189 = .ok (.ifCond .ne 11, 3) := by decide +kernel
theorem dX11_leaves_192 : decode cX11_leaves 192 = .ok (.iload 5, 2) := by decide +kernel
theorem dX11_leaves_194 : decode cX11_leaves 194 = .ok (.iload 7, 2) := by decide +kernel
theorem dX11_leaves_196 : decode cX11_leaves 196 = .ok (.idiv, 1) := by decide +kernel
theorem dX11_leaves_197 : decode cX11_leaves 197 = .ok (.goto 8, 3) := by decide +kernel
theorem dX11_leaves_200 : decode cX11_leaves 200 = .ok (.iload 6, 2) := by decide +kernel
theorem dX11_leaves_202 : decode cX11_leaves 202 = .ok (.iload 7, 2) := by decide +kernel
theorem dX11_leaves_204 : decode cX11_leaves 204 = .ok (.idiv, 1) := by decide +kernel
theorem dX11_leaves_205 : decode cX11_leaves 205 = .ok (.ireturn, 1) := by decide +kernel
theorem dX11_count_0 : decode cX11_count 0 = .ok (.iload_n 1, 1) := by decide +kernel
theorem dX11_count_1 : decode cX11_count 1 = .ok (.tableswitch 131 0 10 #[59, 64, 72, 80, 87, 95, 103, 108, 116, 121, 126], 59) := by decide +kernel
theorem dX11_count_60 : decode cX11_count 60 = .ok (.aload_n 0, 1) := by decide +kernel
theorem dX11_count_61 : decode cX11_count 61 = .ok (.getfield 45, 3) := by decide +kernel
theorem dX11_count_64 : decode cX11_count 64 = .ok (.ireturn, 1) := by decide +kernel
theorem dX11_count_65 : decode cX11_count 65 = .ok (.aload_n 0, 1) := by decide +kernel
theorem dX11_count_66 : decode cX11_count 66 = .ok (.getfield 13, 3) := by decide +kernel
theorem dX11_count_69 : decode cX11_count 69 = .ok (.bipush 30, 2) := by decide +kernel
theorem dX11_count_71 : decode cX11_count 71 = .ok (.iaload, 1) := by decide +kernel
theorem dX11_count_72 : decode cX11_count 72 = .ok (.ireturn, 1) := by decide +kernel
theorem dX11_count_73 : decode cX11_count 73 = .ok (.aload_n 0, 1) := by decide +kernel
theorem dX11_count_74 : decode cX11_count 74 = .ok (.getfield 13, 3) := by decide +kernel
theorem dX11_count_77 : decode cX11_count 77 = .ok (.bipush 31, 2) := by decide +kernel
theorem dX11_count_79 : decode cX11_count 79 = .ok (.iaload, 1) := by decide +kernel
theorem dX11_count_80 : decode cX11_count 80 = .ok (.ireturn, 1) := by decide +kernel
theorem dX11_count_81 : decode cX11_count 81 = .ok (.aload_n 0, 1) := by decide +kernel
theorem dX11_count_82 : decode cX11_count 82 = .ok (.getfield 7, 3) := by decide +kernel
theorem dX11_count_85 : decode cX11_count 85 = .ok (.iconst 0, 1) := by decide +kernel
theorem dX11_count_86 : decode cX11_count 86 = .ok (.iaload, 1) := by decide +kernel
theorem dX11_count_87 : decode cX11_count 87 = .ok (.ireturn, 1) := by decide +kernel
theorem dX11_count_88 : decode cX11_count 88 = .ok (.aload_n 0, 1) := by decide +kernel
theorem dX11_count_89 : decode cX11_count 89 = .ok (.getfield 13, 3) := by decide +kernel
theorem dX11_count_92 : decode cX11_count 92 = .ok (.bipush 32, 2) := by decide +kernel
theorem dX11_count_94 : decode cX11_count 94 = .ok (.iaload, 1) := by decide +kernel
theorem dX11_count_95 : decode cX11_count 95 = .ok (.ireturn, 1) := by decide +kernel
theorem dX11_count_96 : decode cX11_count 96 = .ok (.aload_n 0, 1) := by decide +kernel
theorem dX11_count_97 : decode cX11_count 97 = .ok (.getfield 13, 3) := by decide +kernel
theorem dX11_count_100 : decode cX11_count 100 = .ok (.bipush 33, 2) := by decide +kernel
theorem dX11_count_102 : decode cX11_count 102 = .ok (.iaload, 1) := by decide +kernel
theorem dX11_count_103 : decode cX11_count 103 = .ok (.ireturn, 1) := by decide +kernel
theorem dX11_count_104 : decode cX11_count 104 = .ok (.aload_n 0, 1) := by decide +kernel
theorem dX11_count_105 : decode cX11_count 105 = .ok (.invokevirtual 197, 3) := by decide +kernel
theorem dX11_count_108 : decode cX11_count 108 = .ok (.ireturn, 1) := by decide +kernel
theorem dX11_count_109 : decode cX11_count 109 = .ok (.aload_n 0, 1) := by decide +kernel
theorem dX11_count_110 : decode cX11_count 110 = .ok (.getfield 13, 3) := by decide +kernel
theorem dX11_count_113 : decode cX11_count 113 = .ok (.bipush 34, 2) := by decide +kernel
theorem dX11_count_115 : decode cX11_count 115 = .ok (.iaload, 1) := by decide +kernel
theorem dX11_count_116 : decode cX11_count 116 = .ok (.ireturn, 1) := by decide +kernel
theorem dX11_count_117 : decode cX11_count 117 = .ok (.aload_n 0, 1) := by decide +kernel
theorem dX11_count_118 : decode cX11_count 118 = .ok (.getfield 127, 3) := by decide +kernel
theorem dX11_count_121 : decode cX11_count 121 = .ok (.ireturn, 1) := by decide +kernel
theorem dX11_count_122 : decode cX11_count 122 = .ok (.aload_n 0, 1) := by decide +kernel
theorem dX11_count_123 : decode cX11_count 123 = .ok (.getfield 130, 3) := by decide +kernel
theorem dX11_count_126 : decode cX11_count 126 = .ok (.ireturn, 1) := by decide +kernel
theorem dX11_count_127 : decode cX11_count 127 = .ok (.aload_n 0, 1) := by decide +kernel
theorem dX11_count_128 : decode cX11_count 128 = .ok (.getfield 55, 3) := by decide +kernel
theorem dX11_count_131 : decode cX11_count 131 = .ok (.ireturn, 1) := by decide +kernel
theorem dX11_count_132 : decode cX11_count 132 = .ok (.bipush (-3), 2) := by decide +kernel
theorem dX11_count_134 : decode cX11_count 134 = .ok (.ireturn, 1) := by decide +kernel
theorem dJ6_bitCount_0f7a4_0 : decode cJ6_bitCount_0f7a4 0 = .ok (.iload_n 0, 1) := by decide +kernel
theorem dJ6_bitCount_0f7a4_1 : decode cJ6_bitCount_0f7a4 1 = .ok (.iload_n 0, 1) := by decide +kernel
theorem dJ6_bitCount_0f7a4_2 : decode cJ6_bitCount_0f7a4 2 = .ok (.iconst 1, 1) := by decide +kernel
theorem dJ6_bitCount_0f7a4_3 : decode cJ6_bitCount_0f7a4 3 = .ok (.iushr, 1) := by decide +kernel
theorem dJ6_bitCount_0f7a4_4 : decode cJ6_bitCount_0f7a4 4 = .ok (.ldc_w 265, 3) := by decide +kernel
theorem dJ6_bitCount_0f7a4_7 : decode cJ6_bitCount_0f7a4 7 = .ok (.iand, 1) := by decide +kernel
theorem dJ6_bitCount_0f7a4_8 : decode cJ6_bitCount_0f7a4 8 = .ok (.isub, 1) := by decide +kernel
theorem dJ6_bitCount_0f7a4_9 : decode cJ6_bitCount_0f7a4 9 = .ok (.istore_n 0, 1) := by decide +kernel
theorem dJ6_bitCount_0f7a4_10 : decode cJ6_bitCount_0f7a4 10 = .ok (.iload_n 0, 1) := by decide +kernel
theorem dJ6_bitCount_0f7a4_11 : decode cJ6_bitCount_0f7a4 11 = .ok (.ldc_w 266, 3) := by decide +kernel
theorem dJ6_bitCount_0f7a4_14 : decode cJ6_bitCount_0f7a4 14 = .ok (.iand, 1) := by decide +kernel
theorem dJ6_bitCount_0f7a4_15 : decode cJ6_bitCount_0f7a4 15 = .ok (.iload_n 0, 1) := by decide +kernel
theorem dJ6_bitCount_0f7a4_16 : decode cJ6_bitCount_0f7a4 16 = .ok (.iconst 2, 1) := by decide +kernel
theorem dJ6_bitCount_0f7a4_17 : decode cJ6_bitCount_0f7a4 17 = .ok (.iushr, 1) := by decide +kernel
theorem dJ6_bitCount_0f7a4_18 : decode cJ6_bitCount_0f7a4 18 = .ok (.ldc_w 266, 3) := by decide +kernel
theorem dJ6_bitCount_0f7a4_21 : decode cJ6_bitCount_0f7a4 21 = .ok (.iand, 1) := by decide +kernel
theorem dJ6_bitCount_0f7a4_22 : decode cJ6_bitCount_0f7a4 22 = .ok (.iadd, 1) := by decide +kernel
theorem dJ6_bitCount_0f7a4_23 : decode cJ6_bitCount_0f7a4 23 = .ok (.istore_n 0, 1) := by decide +kernel
theorem dJ6_bitCount_0f7a4_24 : decode cJ6_bitCount_0f7a4 24 = .ok (.iload_n 0, 1) := by decide +kernel
theorem dJ6_bitCount_0f7a4_25 : decode cJ6_bitCount_0f7a4 25 = .ok (.iload_n 0, 1) := by decide +kernel
theorem dJ6_bitCount_0f7a4_26 : decode cJ6_bitCount_0f7a4 26 = .ok (.iconst 4, 1) := by decide +kernel
theorem dJ6_bitCount_0f7a4_27 : decode cJ6_bitCount_0f7a4 27 = .ok (.iushr, 1) := by decide +kernel
theorem dJ6_bitCount_0f7a4_28 : decode cJ6_bitCount_0f7a4 28 = .ok (.iadd, 1) := by decide +kernel
theorem dJ6_bitCount_0f7a4_29 : decode cJ6_bitCount_0f7a4 29 = .ok (.ldc_w 267, 3) := by decide +kernel
theorem dJ6_bitCount_0f7a4_32 : decode cJ6_bitCount_0f7a4 32 = .ok (.iand, 1) := by decide +kernel
theorem dJ6_bitCount_0f7a4_33 : decode cJ6_bitCount_0f7a4 33 = .ok (.istore_n 0, 1) := by decide +kernel
theorem dJ6_bitCount_0f7a4_34 : decode cJ6_bitCount_0f7a4 34 = .ok (.iload_n 0, 1) := by decide +kernel
theorem dJ6_bitCount_0f7a4_35 : decode cJ6_bitCount_0f7a4 35 = .ok (.iload_n 0, 1) := by decide +kernel
theorem dJ6_bitCount_0f7a4_36 : decode cJ6_bitCount_0f7a4 36 = .ok (.bipush 8, 2) := by decide +kernel
theorem dJ6_bitCount_0f7a4_38 : decode cJ6_bitCount_0f7a4 38 = .ok (.iushr, 1) := by decide +kernel
theorem dJ6_bitCount_0f7a4_39 : decode cJ6_bitCount_0f7a4 39 = .ok (.iadd, 1) := by decide +kernel
theorem dJ6_bitCount_0f7a4_40 : decode cJ6_bitCount_0f7a4 40 = .ok (.istore_n 0, 1) := by decide +kernel
theorem dJ6_bitCount_0f7a4_41 : decode cJ6_bitCount_0f7a4 41 = .ok (.iload_n 0, 1) := by decide +kernel
theorem dJ6_bitCount_0f7a4_42 : decode cJ6_bitCount_0f7a4 42 = .ok (.iload_n 0, 1) := by decide +kernel
theorem dJ6_bitCount_0f7a4_43 : decode cJ6_bitCount_0f7a4 43 = .ok (.bipush 16, 2) := by decide +kernel
theorem dJ6_bitCount_0f7a4_45 : decode cJ6_bitCount_0f7a4 45 = .ok (.iushr, 1) := by decide +kernel
theorem dJ6_bitCount_0f7a4_46 : decode cJ6_bitCount_0f7a4 46 = .ok (.iadd, 1) := by decide +kernel
theorem dJ6_bitCount_0f7a4_47 : decode cJ6_bitCount_0f7a4 47 = .ok (.istore_n 0, 1) := by decide +kernel
theorem dJ6_bitCount_0f7a4_48 : decode cJ6_bitCount_0f7a4 48 = .ok (.iload_n 0, 1) := by decide +kernel
theorem dJ6_bitCount_0f7a4_49 : decode cJ6_bitCount_0f7a4 49 = .ok (.bipush 63, 2) := by decide +kernel
theorem dJ6_bitCount_0f7a4_51 : decode cJ6_bitCount_0f7a4 51 = .ok (.iand, 1) := by decide +kernel
theorem dJ6_bitCount_0f7a4_52 : decode cJ6_bitCount_0f7a4 52 = .ok (.ireturn, 1) := by decide +kernel
theorem dJ9_max_7cf53_0 : decode cJ9_max_7cf53 0 = .ok (.iload_n 0, 1) := by decide +kernel
theorem dJ9_max_7cf53_1 : decode cJ9_max_7cf53 1 = .ok (.iload_n 1, 1) := by decide +kernel
theorem dJ9_max_7cf53_2 : decode cJ9_max_7cf53 2 = .ok (.if_icmp .lt 7, 3) := by decide +kernel
theorem dJ9_max_7cf53_5 : decode cJ9_max_7cf53 5 = .ok (.iload_n 0, 1) := by decide +kernel
theorem dJ9_max_7cf53_6 : decode cJ9_max_7cf53 6 = .ok (.goto 4, 3) := by decide +kernel
theorem dJ9_max_7cf53_9 : decode cJ9_max_7cf53 9 = .ok (.iload_n 1, 1) := by decide +kernel
theorem dJ9_max_7cf53_10 : decode cJ9_max_7cf53 10 = .ok (.ireturn, 1) := by decide +kernel
theorem dJ9_min_7cf53_0 : decode cJ9_min_7cf53 0 = .ok (.iload_n 0, 1) := by decide +kernel
theorem dJ9_min_7cf53_1 : decode cJ9_min_7cf53 1 = .ok (.iload_n 1, 1) := by decide +kernel
theorem dJ9_min_7cf53_2 : decode cJ9_min_7cf53 2 = .ok (.if_icmp .gt 7, 3) := by decide +kernel
theorem dJ9_min_7cf53_5 : decode cJ9_min_7cf53 5 = .ok (.iload_n 0, 1) := by decide +kernel
theorem dJ9_min_7cf53_6 : decode cJ9_min_7cf53 6 = .ok (.goto 4, 3) := by decide +kernel
theorem dJ9_min_7cf53_9 : decode cJ9_min_7cf53 9 = .ok (.iload_n 1, 1) := by decide +kernel
theorem dJ9_min_7cf53_10 : decode cJ9_min_7cf53 10 = .ok (.ireturn, 1) := by decide +kernel
theorem dJ0_length_8abf5_0 : decode cJ0_length_8abf5 0 = .ok (.aload_n 0, 1) := by decide +kernel
theorem dJ0_length_8abf5_1 : decode cJ0_length_8abf5 1 = .ok (.getfield 9, 3) := by decide +kernel
theorem dJ0_length_8abf5_4 : decode cJ0_length_8abf5 4 = .ok (.arraylength, 1) := by decide +kernel
theorem dJ0_length_8abf5_5 : decode cJ0_length_8abf5 5 = .ok (.aload_n 0, 1) := by decide +kernel
theorem dJ0_length_8abf5_6 : decode cJ0_length_8abf5 6 = .ok (.invokevirtual 335, 3) := by decide +kernel
theorem dJ0_length_8abf5_9 : decode cJ0_length_8abf5 9 = .ok (.ishr, 1) := by decide +kernel
theorem dJ0_length_8abf5_10 : decode cJ0_length_8abf5 10 = .ok (.ireturn, 1) := by decide +kernel
theorem dJ0_charAt_5068e_0 : decode cJ0_charAt_5068e 0 = .ok (.aload_n 0, 1) := by decide +kernel
theorem dJ0_charAt_5068e_1 : decode cJ0_charAt_5068e 1 = .ok (.invokevirtual 492, 3) := by decide +kernel
theorem dJ0_charAt_5068e_4 : decode cJ0_charAt_5068e 4 = .ok (.ifCond .eq 12, 3) := by decide +kernel
theorem dJ0_charAt_5068e_7 : decode cJ0_charAt_5068e 7 = .ok (.aload_n 0, 1) := by decide +kernel
theorem dJ0_charAt_5068e_8 : decode cJ0_charAt_5068e 8 = .ok (.getfield 9, 3) := by decide +kernel
theorem dJ0_charAt_5068e_11 : decode cJ0_charAt_5068e 11 = .ok (.iload_n 1, 1) := by decide +kernel
theorem dJ0_charAt_5068e_12 : decode cJ0_charAt_5068e 12 = .ok (.invokestatic 495, 3) := by decide +kernel
theorem dJ0_charAt_5068e_15 : decode cJ0_charAt_5068e 15 = .ok (.ireturn, 1) := by decide +kernel
theorem dJ0_charAt_5068e_16 : decode cJ0_charAt_5068e 16 = .ok (.aload_n 0, 1) := by decide +kernel
theorem dJ0_charAt_5068e_17 : decode cJ0_charAt_5068e 17 = .ok (.getfield 9, 3) := by decide +kernel
theorem dJ0_charAt_5068e_20 : decode cJ0_charAt_5068e 20 = .ok (.iload_n 1, 1) := by decide +kernel
theorem dJ0_charAt_5068e_21 : decode cJ0_charAt_5068e 21 = .ok (.invokestatic 498, 3) := by decide +kernel
theorem dJ0_charAt_5068e_24 : decode cJ0_charAt_5068e 24 = .ok (.ireturn, 1) := by decide +kernel
theorem dJ0_coder_7d493_0 : decode cJ0_coder_7d493 0 = .ok (.getstatic 38, 3) := by decide +kernel
theorem dJ0_coder_7d493_3 : decode cJ0_coder_7d493 3 = .ok (.ifCond .eq 10, 3) := by decide +kernel
theorem dJ0_coder_7d493_6 : decode cJ0_coder_7d493 6 = .ok (.aload_n 0, 1) := by decide +kernel
theorem dJ0_coder_7d493_7 : decode cJ0_coder_7d493 7 = .ok (.getfield 15, 3) := by decide +kernel
theorem dJ0_coder_7d493_10 : decode cJ0_coder_7d493 10 = .ok (.goto 4, 3) := by decide +kernel
theorem dJ0_coder_7d493_13 : decode cJ0_coder_7d493 13 = .ok (.iconst 1, 1) := by decide +kernel
theorem dJ0_coder_7d493_14 : decode cJ0_coder_7d493 14 = .ok (.ireturn, 1) := by decide +kernel
theorem dJ0_isLatin1_aae02_0 : decode cJ0_isLatin1_aae02 0 = .ok (.getstatic 38, 3) := by decide +kernel
theorem dJ0_isLatin1_aae02_3 : decode cJ0_isLatin1_aae02 3 = .ok (.ifCond .eq 14, 3) := by decide +kernel
theorem dJ0_isLatin1_aae02_6 : decode cJ0_isLatin1_aae02 6 = .ok (.aload_n 0, 1) := by decide +kernel
theorem dJ0_isLatin1_aae02_7 : decode cJ0_isLatin1_aae02 7 = .ok (.getfield 15, 3) := by decide +kernel
theorem dJ0_isLatin1_aae02_10 : decode cJ0_isLatin1_aae02 10 = .ok (.ifCond .ne 7, 3) := by decide +kernel
theorem dJ0_isLatin1_aae02_13 : decode cJ0_isLatin1_aae02 13 = .ok (.iconst 1, 1) := by decide +kernel
theorem dJ0_isLatin1_aae02_14 : decode cJ0_isLatin1_aae02 14 = .ok (.goto 4, 3) := by decide +kernel
theorem dJ0_isLatin1_aae02_17 : decode cJ0_isLatin1_aae02 17 = .ok (.iconst 0, 1) := by decide +kernel
theorem dJ0_isLatin1_aae02_18 : decode cJ0_isLatin1_aae02 18 = .ok (.ireturn, 1) := by decide +kernel
theorem dJ0_checkIndex_df160_0 : decode cJ0_checkIndex_df160 0 = .ok (.iload_n 0, 1) := by decide +kernel
theorem dJ0_checkIndex_df160_1 : decode cJ0_checkIndex_df160 1 = .ok (.iload_n 1, 1) := by decide +kernel
theorem dJ0_checkIndex_df160_2 : decode cJ0_checkIndex_df160 2 = .ok (.getstatic 1053, 3) := by decide +kernel
theorem dJ0_checkIndex_df160_5 : decode cJ0_checkIndex_df160 5 = .ok (.invokestatic 1059, 3) := by decide +kernel
theorem dJ0_checkIndex_df160_8 : decode cJ0_checkIndex_df160 8 = .ok (.pop, 1) := by decide +kernel
theorem dJ0_checkIndex_df160_9 : decode cJ0_checkIndex_df160 9 = .ok (.return_, 1) := by decide +kernel
theorem dJ1_charAt_3b067_0 : decode cJ1_charAt_3b067 0 = .ok (.iload_n 1, 1) := by decide +kernel
theorem dJ1_charAt_3b067_1 : decode cJ1_charAt_3b067 1 = .ok (.aload_n 0, 1) := by decide +kernel
theorem dJ1_charAt_3b067_2 : decode cJ1_charAt_3b067 2 = .ok (.arraylength, 1) := by decide +kernel
theorem dJ1_charAt_3b067_3 : decode cJ1_charAt_3b067 3 = .ok (.invokestatic 9, 3) := by decide +kernel
theorem dJ1_charAt_3b067_6 : decode cJ1_charAt_3b067 6 = .ok (.aload_n 0, 1) := by decide +kernel
theorem dJ1_charAt_3b067_7 : decode cJ1_charAt_3b067 7 = .ok (.iload_n 1, 1) := by decide +kernel
theorem dJ1_charAt_3b067_8 : decode cJ1_charAt_3b067 8 = .ok (.baload, 1) := by decide +kernel
theorem dJ1_charAt_3b067_9 : decode cJ1_charAt_3b067 9 = .ok (.sipush 255, 3) := by decide +kernel
theorem dJ1_charAt_3b067_12 : decode cJ1_charAt_3b067 12 = .ok (.iand, 1) := by decide +kernel
theorem dJ1_charAt_3b067_13 : decode cJ1_charAt_3b067 13 = .ok (.i2c, 1) := by decide +kernel
theorem dJ1_charAt_3b067_14 : decode cJ1_charAt_3b067 14 = .ok (.ireturn, 1) := by decide +kernel
theorem dJ2_getChar_3b067_0 : decode cJ2_getChar_3b067 0 = .ok (.getstatic 44, 3) := by decide +kernel
theorem dJ2_getChar_3b067_3 : decode cJ2_getChar_3b067 3 = .ok (.ifCond .ne 25, 3) := by decide +kernel
theorem dJ2_getChar_3b067_6 : decode cJ2_getChar_3b067 6 = .ok (.iload_n 1, 1) := by decide +kernel
theorem dJ2_getChar_3b067_7 : decode cJ2_getChar_3b067 7 = .ok (.ifCond .lt 11, 3) := by decide +kernel
theorem dJ2_getChar_3b067_10 : decode cJ2_getChar_3b067 10 = .ok (.iload_n 1, 1) := by decide +kernel
theorem dJ2_getChar_3b067_11 : decode cJ2_getChar_3b067 11 = .ok (.aload_n 0, 1) := by decide +kernel
theorem dJ2_getChar_3b067_12 : decode cJ2_getChar_3b067 12 = .ok (.invokestatic 48, 3) := by decide +kernel
theorem dJ2_getChar_3b067_15 : decode cJ2_getChar_3b067 15 = .ok (.if_icmp .lt 13, 3) := by decide +kernel
theorem dJ2_getChar_3b067_18 : decode cJ2_getChar_3b067 18 = .ok (.new 52, 3) := by decide +kernel
theorem dJ2_getChar_3b067_21 : decode cJ2_getChar_3b067 21 = .ok (.dup, 1) := by decide +kernel
theorem dJ2_getChar_3b067_22 : decode cJ2_getChar_3b067 22 = .ok (.ldc 54, 2) := by decide +kernel
theorem dJ2_getChar_3b067_24 : decode cJ2_getChar_3b067 24 = .ok (.invokespecial 56, 3) := by decide +kernel
theorem dJ2_getChar_3b067_27 : decode cJ2_getChar_3b067 27 = .ok (.athrow, 1) := by decide +kernel
theorem dJ2_getChar_3b067_28 : decode cJ2_getChar_3b067 28 = .ok (.iload_n 1, 1) := by decide +kernel
theorem dJ2_getChar_3b067_29 : decode cJ2_getChar_3b067 29 = .ok (.iconst 1, 1) := by decide +kernel
theorem dJ2_getChar_3b067_30 : decode cJ2_getChar_3b067 30 = .ok (.ishl, 1) := by decide +kernel
theorem dJ2_getChar_3b067_31 : decode cJ2_getChar_3b067 31 = .ok (.istore_n 1, 1) := by decide +kernel
theorem dJ2_getChar_3b067_32 : decode cJ2_getChar_3b067 32 = .ok (.aload_n 0, 1) := by decide +kernel
theorem dJ2_getChar_3b067_33 : decode cJ2_getChar_3b067 33 = .ok (.iload_n 1, 1) := by decide +kernel
theorem dJ2_getChar_3b067_34 : decode cJ2_getChar_3b067 34 = .ok (.iinc 1 1, 3) := by decide +kernel
theorem dJ2_getChar_3b067_37 : decode cJ2_getChar_3b067 37 = .ok (.baload, 1) := by decide +kernel
theorem dJ2_getChar_3b067_38 : decode cJ2_getChar_3b067 38 = .ok (.sipush 255, 3) := by decide +kernel
theorem dJ2_getChar_3b067_41 : decode cJ2_getChar_3b067 41 = .ok (.iand, 1) := by decide +kernel
theorem dJ2_getChar_3b067_42 : decode cJ2_getChar_3b067 42 = .ok (.getstatic 59, 3) := by decide +kernel
theorem dJ2_getChar_3b067_45 : decode cJ2_getChar_3b067 45 = .ok (.ishl, 1) := by decide +kernel
theorem dJ2_getChar_3b067_46 : decode cJ2_getChar_3b067 46 = .ok (.aload_n 0, 1) := by decide +kernel
theorem dJ2_getChar_3b067_47 : decode cJ2_getChar_3b067 47 = .ok (.iload_n 1, 1) := by decide +kernel
theorem dJ2_getChar_3b067_48 : decode cJ2_getChar_3b067 48 = .ok (.baload, 1) := by decide +kernel
theorem dJ2_getChar_3b067_49 : decode cJ2_getChar_3b067 49 = .ok (.sipush 255, 3) := by decide +kernel
theorem dJ2_getChar_3b067_52 : decode cJ2_getChar_3b067 52 = .ok (.iand, 1) := by decide +kernel
theorem dJ2_getChar_3b067_53 : decode cJ2_getChar_3b067 53 = .ok (.getstatic 63, 3) := by decide +kernel
theorem dJ2_getChar_3b067_56 : decode cJ2_getChar_3b067 56 = .ok (.ishl, 1) := by decide +kernel
theorem dJ2_getChar_3b067_57 : decode cJ2_getChar_3b067 57 = .ok (.ior, 1) := by decide +kernel
theorem dJ2_getChar_3b067_58 : decode cJ2_getChar_3b067 58 = .ok (.i2c, 1) := by decide +kernel
theorem dJ2_getChar_3b067_59 : decode cJ2_getChar_3b067 59 = .ok (.ireturn, 1) := by decide +kernel
theorem dJ2_length_9d52b_0 : decode cJ2_length_9d52b 0 = .ok (.aload_n 0, 1) := by decide +kernel
theorem dJ2_length_9d52b_1 : decode cJ2_length_9d52b 1 = .ok (.arraylength, 1) := by decide +kernel
theorem dJ2_length_9d52b_2 : decode cJ2_length_9d52b 2 = .ok (.iconst 1, 1) := by decide +kernel
theorem dJ2_length_9d52b_3 : decode cJ2_length_9d52b 3 = .ok (.ishr, 1) := by decide +kernel
theorem dJ2_length_9d52b_4 : decode cJ2_length_9d52b 4 = .ok (.ireturn, 1) := by decide +kernel
theorem dJ2_charAt_3b067_0 : decode cJ2_charAt_3b067 0 = .ok (.iload_n 1, 1) := by decide +kernel
theorem dJ2_charAt_3b067_1 : decode cJ2_charAt_3b067 1 = .ok (.aload_n 0, 1) := by decide +kernel
theorem dJ2_charAt_3b067_2 : decode cJ2_charAt_3b067 2 = .ok (.invokestatic 67, 3) := by decide +kernel
theorem dJ2_charAt_3b067_5 : decode cJ2_charAt_3b067 5 = .ok (.aload_n 0, 1) := by decide +kernel
theorem dJ2_charAt_3b067_6 : decode cJ2_charAt_3b067 6 = .ok (.iload_n 1, 1) := by decide +kernel
theorem dJ2_charAt_3b067_7 : decode cJ2_charAt_3b067 7 = .ok (.invokestatic 71, 3) := by decide +kernel
theorem dJ2_charAt_3b067_10 : decode cJ2_charAt_3b067 10 = .ok (.ireturn, 1) := by decide +kernel
theorem dJ2_checkIndex_2214a_0 : decode cJ2_checkIndex_2214a 0 = .ok (.iload_n 0, 1) := by decide +kernel
theorem dJ2_checkIndex_2214a_1 : decode cJ2_checkIndex_2214a 1 = .ok (.aload_n 1, 1) := by decide +kernel
theorem dJ2_checkIndex_2214a_2 : decode cJ2_checkIndex_2214a 2 = .ok (.invokestatic 48, 3) := by decide +kernel
theorem dJ2_checkIndex_2214a_5 : decode cJ2_checkIndex_2214a 5 = .ok (.invokestatic 414, 3) := by decide +kernel
theorem dJ2_checkIndex_2214a_8 : decode cJ2_checkIndex_2214a 8 = .ok (.return_, 1) := by decide +kernel
theorem dJ3_checkIndex_8e157_0 : decode cJ3_checkIndex_8e157 0 = .ok (.iload_n 0, 1) := by decide +kernel
theorem dJ3_checkIndex_8e157_1 : decode cJ3_checkIndex_8e157 1 = .ok (.ifCond .lt 8, 3) := by decide +kernel
theorem dJ3_checkIndex_8e157_4 : decode cJ3_checkIndex_8e157 4 = .ok (.iload_n 0, 1) := by decide +kernel
theorem dJ3_checkIndex_8e157_5 : decode cJ3_checkIndex_8e157 5 = .ok (.iload_n 1, 1) := by decide +kernel
theorem dJ3_checkIndex_8e157_6 : decode cJ3_checkIndex_8e157 6 = .ok (.if_icmp .lt 10, 3) := by decide +kernel
theorem dJ3_checkIndex_8e157_9 : decode cJ3_checkIndex_8e157 9 = .ok (.aload_n 2, 1) := by decide +kernel
theorem dJ3_checkIndex_8e157_10 : decode cJ3_checkIndex_8e157 10 = .ok (.iload_n 0, 1) := by decide +kernel
theorem dJ3_checkIndex_8e157_11 : decode cJ3_checkIndex_8e157 11 = .ok (.iload_n 1, 1) := by decide +kernel
theorem dJ3_checkIndex_8e157_12 : decode cJ3_checkIndex_8e157 12 = .ok (.invokestatic 95, 3) := by decide +kernel
theorem dJ3_checkIndex_8e157_15 : decode cJ3_checkIndex_8e157 15 = .ok (.athrow, 1) := by decide +kernel
theorem dJ3_checkIndex_8e157_16 : decode cJ3_checkIndex_8e157 16 = .ok (.iload_n 0, 1) := by decide +kernel
theorem dJ3_checkIndex_8e157_17 : decode cJ3_checkIndex_8e157 17 = .ok (.ireturn, 1) := by decide +kernel
theorem dL_law_0 : decode cL_law 0 = .ok (.new 7, 3) := by decide +kernel
theorem dL_law_3 : decode cL_law 3 = .ok (.dup, 1) := by decide +kernel
theorem dL_law_4 : decode cL_law 4 = .ok (.invokespecial 9, 3) := by decide +kernel
theorem dL_law_7 : decode cL_law 7 = .ok (.astore_n 1, 1) := by decide +kernel
theorem dL_law_8 : decode cL_law 8 = .ok (.new 10, 3) := by decide +kernel
theorem dL_law_11 : decode cL_law 11 = .ok (.dup, 1) := by decide +kernel
theorem dL_law_12 : decode cL_law 12 = .ok (.invokespecial 12, 3) := by decide +kernel
theorem dL_law_15 : decode cL_law 15 = .ok (.astore_n 2, 1) := by decide +kernel
theorem dL_law_16 : decode cL_law 16 = .ok (.iconst 0, 1) := by decide +kernel
theorem dL_law_17 : decode cL_law 17 = .ok (.istore_n 3, 1) := by decide +kernel
theorem dL_law_18 : decode cL_law 18 = .ok (.iload_n 3, 1) := by decide +kernel
theorem dL_law_19 : decode cL_law 19 = .ok (.aload_n 0, 1) := by decide +kernel
theorem dL_law_20 : decode cL_law 20 = .ok (.arraylength, 1) := by decide +kernel
theorem dL_law_21 : decode cL_law 21 = .ok (.iconst 5, 1) := by decide +kernel
theorem dL_law_22 : decode cL_law 22 = .ok (.isub, 1) := by decide +kernel
theorem dL_law_23 : decode cL_law 23 = .ok (.if_icmp .gt 817, 3) := by decide +kernel
theorem dL_law_26 : decode cL_law 26 = .ok (.aload_n 0, 1) := by decide +kernel
theorem dL_law_27 : decode cL_law 27 = .ok (.iload_n 3, 1) := by decide +kernel
theorem dL_law_28 : decode cL_law 28 = .ok (.iaload, 1) := by decide +kernel
theorem dL_law_29 : decode cL_law 29 = .ok (.bipush 31, 2) := by decide +kernel
theorem dL_law_31 : decode cL_law 31 = .ok (.iand, 1) := by decide +kernel
theorem dL_law_32 : decode cL_law 32 = .ok (.tableswitch 802 0 27 #[128, 151, 164, 177, 190, 223, 256, 289, 312, 335, 358, 381, 404, 417, 440, 463, 486, 509, 522, 545, 578, 601, 634, 657, 690, 703, 726, 779], 128) := by decide +kernel
theorem dL_law_160 : decode cL_law 160 = .ok (.aload_n 1, 1) := by decide +kernel
theorem dL_law_161 : decode cL_law 161 = .ok (.aload_n 0, 1) := by decide +kernel
theorem dL_law_162 : decode cL_law 162 = .ok (.iload_n 3, 1) := by decide +kernel
theorem dL_law_163 : decode cL_law 163 = .ok (.iconst 1, 1) := by decide +kernel
theorem dL_law_164 : decode cL_law 164 = .ok (.iadd, 1) := by decide +kernel
theorem dL_law_165 : decode cL_law 165 = .ok (.iaload, 1) := by decide +kernel
theorem dL_law_166 : decode cL_law 166 = .ok (.invokevirtual 13, 3) := by decide +kernel
theorem dL_law_169 : decode cL_law 169 = .ok (.aload_n 2, 1) := by decide +kernel
theorem dL_law_170 : decode cL_law 170 = .ok (.aload_n 0, 1) := by decide +kernel
theorem dL_law_171 : decode cL_law 171 = .ok (.iload_n 3, 1) := by decide +kernel
theorem dL_law_172 : decode cL_law 172 = .ok (.iconst 1, 1) := by decide +kernel
theorem dL_law_173 : decode cL_law 173 = .ok (.iadd, 1) := by decide +kernel
theorem dL_law_174 : decode cL_law 174 = .ok (.iaload, 1) := by decide +kernel
theorem dL_law_175 : decode cL_law 175 = .ok (.invokevirtual 17, 3) := by decide +kernel
theorem dL_law_178 : decode cL_law 178 = .ok (.if_icmp .eq 656, 3) := by decide +kernel
theorem dL_law_181 : decode cL_law 181 = .ok (.iconst 0, 1) := by decide +kernel
theorem dL_law_182 : decode cL_law 182 = .ok (.ireturn, 1) := by decide +kernel
theorem dL_law_183 : decode cL_law 183 = .ok (.aload_n 1, 1) := by decide +kernel
theorem dL_law_184 : decode cL_law 184 = .ok (.invokevirtual 18, 3) := by decide +kernel
theorem dL_law_187 : decode cL_law 187 = .ok (.aload_n 2, 1) := by decide +kernel
theorem dL_law_188 : decode cL_law 188 = .ok (.invokevirtual 22, 3) := by decide +kernel
theorem dL_law_191 : decode cL_law 191 = .ok (.if_icmp .eq 643, 3) := by decide +kernel
theorem dL_law_194 : decode cL_law 194 = .ok (.iconst 0, 1) := by decide +kernel
theorem dL_law_195 : decode cL_law 195 = .ok (.ireturn, 1) := by decide +kernel
theorem dL_law_196 : decode cL_law 196 = .ok (.aload_n 1, 1) := by decide +kernel
theorem dL_law_197 : decode cL_law 197 = .ok (.invokevirtual 23, 3) := by decide +kernel
theorem dL_law_200 : decode cL_law 200 = .ok (.aload_n 2, 1) := by decide +kernel
theorem dL_law_201 : decode cL_law 201 = .ok (.invokevirtual 26, 3) := by decide +kernel
theorem dL_law_204 : decode cL_law 204 = .ok (.if_icmp .eq 630, 3) := by decide +kernel
theorem dL_law_207 : decode cL_law 207 = .ok (.iconst 0, 1) := by decide +kernel
theorem dL_law_208 : decode cL_law 208 = .ok (.ireturn, 1) := by decide +kernel
theorem dL_law_209 : decode cL_law 209 = .ok (.aload_n 1, 1) := by decide +kernel
theorem dL_law_210 : decode cL_law 210 = .ok (.invokevirtual 27, 3) := by decide +kernel
theorem dL_law_213 : decode cL_law 213 = .ok (.aload_n 2, 1) := by decide +kernel
theorem dL_law_214 : decode cL_law 214 = .ok (.invokevirtual 30, 3) := by decide +kernel
theorem dL_law_217 : decode cL_law 217 = .ok (.if_icmp .eq 617, 3) := by decide +kernel
theorem dL_law_220 : decode cL_law 220 = .ok (.iconst 0, 1) := by decide +kernel
theorem dL_law_221 : decode cL_law 221 = .ok (.ireturn, 1) := by decide +kernel
theorem dL_law_222 : decode cL_law 222 = .ok (.aload_n 1, 1) := by decide +kernel
theorem dL_law_223 : decode cL_law 223 = .ok (.aload_n 0, 1) := by decide +kernel
theorem dL_law_224 : decode cL_law 224 = .ok (.iload_n 3, 1) := by decide +kernel
theorem dL_law_225 : decode cL_law 225 = .ok (.iconst 1, 1) := by decide +kernel
theorem dL_law_226 : decode cL_law 226 = .ok (.iadd, 1) := by decide +kernel
theorem dL_law_227 : decode cL_law 227 = .ok (.iaload, 1) := by decide +kernel
theorem dL_law_228 : decode cL_law 228 = .ok (.aload_n 0, 1) := by decide +kernel
theorem dL_law_229 : decode cL_law 229 = .ok (.iload_n 3, 1) := by decide +kernel
theorem dL_law_230 : decode cL_law 230 = .ok (.iconst 2, 1) := by decide +kernel
theorem dL_law_231 : decode cL_law 231 = .ok (.iadd, 1) := by decide +kernel
theorem dL_law_232 : decode cL_law 232 = .ok (.iaload, 1) := by decide +kernel
theorem dL_law_233 : decode cL_law 233 = .ok (.invokevirtual 31, 3) := by decide +kernel
theorem dL_law_236 : decode cL_law 236 = .ok (.aload_n 2, 1) := by decide +kernel
theorem dL_law_237 : decode cL_law 237 = .ok (.aload_n 0, 1) := by decide +kernel
theorem dL_law_238 : decode cL_law 238 = .ok (.iload_n 3, 1) := by decide +kernel
theorem dL_law_239 : decode cL_law 239 = .ok (.iconst 1, 1) := by decide +kernel
theorem dL_law_240 : decode cL_law 240 = .ok (.iadd, 1) := by decide +kernel
theorem dL_law_241 : decode cL_law 241 = .ok (.iaload, 1) := by decide +kernel
theorem dL_law_242 : decode cL_law 242 = .ok (.aload_n 0, 1) := by decide +kernel
theorem dL_law_243 : decode cL_law 243 = .ok (.iload_n 3, 1) := by decide +kernel
theorem dL_law_244 : decode cL_law 244 = .ok (.iconst 2, 1) := by decide +kernel
theorem dL_law_245 : decode cL_law 245 = .ok (.iadd, 1) := by decide +kernel
theorem dL_law_246 : decode cL_law 246 = .ok (.iaload, 1) := by decide +kernel
theorem dL_law_247 : decode cL_law 247 = .ok (.invokevirtual 35, 3) := by decide +kernel
theorem dL_law_250 : decode cL_law 250 = .ok (.if_icmp .eq 584, 3) := by decide +kernel
theorem dL_law_253 : decode cL_law 253 = .ok (.iconst 0, 1) := by decide +kernel
theorem dL_law_254 : decode cL_law 254 = .ok (.ireturn, 1) := by decide +kernel
theorem dL_law_255 : decode cL_law 255 = .ok (.aload_n 1, 1) := by decide +kernel
theorem dL_law_256 : decode cL_law 256 = .ok (.aload_n 0, 1) := by decide +kernel
theorem dL_law_257 : decode cL_law 257 = .ok (.iload_n 3, 1) := by decide +kernel
theorem dL_law_258 : decode cL_law 258 = .ok (.iconst 1, 1) := by decide +kernel
theorem dL_law_259 : decode cL_law 259 = .ok (.iadd, 1) := by decide +kernel
theorem dL_law_260 : decode cL_law 260 = .ok (.iaload, 1) := by decide +kernel
theorem dL_law_261 : decode cL_law 261 = .ok (.aload_n 0, 1) := by decide +kernel
theorem dL_law_262 : decode cL_law 262 = .ok (.iload_n 3, 1) := by decide +kernel
theorem dL_law_263 : decode cL_law 263 = .ok (.iconst 2, 1) := by decide +kernel
theorem dL_law_264 : decode cL_law 264 = .ok (.iadd, 1) := by decide +kernel
theorem dL_law_265 : decode cL_law 265 = .ok (.iaload, 1) := by decide +kernel
theorem dL_law_266 : decode cL_law 266 = .ok (.invokevirtual 36, 3) := by decide +kernel
theorem dL_law_269 : decode cL_law 269 = .ok (.aload_n 2, 1) := by decide +kernel
theorem dL_law_270 : decode cL_law 270 = .ok (.aload_n 0, 1) := by decide +kernel
theorem dL_law_271 : decode cL_law 271 = .ok (.iload_n 3, 1) := by decide +kernel
theorem dL_law_272 : decode cL_law 272 = .ok (.iconst 1, 1) := by decide +kernel
theorem dL_law_273 : decode cL_law 273 = .ok (.iadd, 1) := by decide +kernel
theorem dL_law_274 : decode cL_law 274 = .ok (.iaload, 1) := by decide +kernel
theorem dL_law_275 : decode cL_law 275 = .ok (.aload_n 0, 1) := by decide +kernel
theorem dL_law_276 : decode cL_law 276 = .ok (.iload_n 3, 1) := by decide +kernel
theorem dL_law_277 : decode cL_law 277 = .ok (.iconst 2, 1) := by decide +kernel
theorem dL_law_278 : decode cL_law 278 = .ok (.iadd, 1) := by decide +kernel
theorem dL_law_279 : decode cL_law 279 = .ok (.iaload, 1) := by decide +kernel
theorem dL_law_280 : decode cL_law 280 = .ok (.invokevirtual 39, 3) := by decide +kernel
theorem dL_law_283 : decode cL_law 283 = .ok (.if_icmp .eq 551, 3) := by decide +kernel
theorem dL_law_286 : decode cL_law 286 = .ok (.iconst 0, 1) := by decide +kernel
theorem dL_law_287 : decode cL_law 287 = .ok (.ireturn, 1) := by decide +kernel
theorem dL_law_288 : decode cL_law 288 = .ok (.aload_n 1, 1) := by decide +kernel
theorem dL_law_289 : decode cL_law 289 = .ok (.aload_n 0, 1) := by decide +kernel
theorem dL_law_290 : decode cL_law 290 = .ok (.iload_n 3, 1) := by decide +kernel
theorem dL_law_291 : decode cL_law 291 = .ok (.iconst 1, 1) := by decide +kernel
theorem dL_law_292 : decode cL_law 292 = .ok (.iadd, 1) := by decide +kernel
theorem dL_law_293 : decode cL_law 293 = .ok (.iaload, 1) := by decide +kernel
theorem dL_law_294 : decode cL_law 294 = .ok (.aload_n 0, 1) := by decide +kernel
theorem dL_law_295 : decode cL_law 295 = .ok (.iload_n 3, 1) := by decide +kernel
theorem dL_law_296 : decode cL_law 296 = .ok (.iconst 2, 1) := by decide +kernel
theorem dL_law_297 : decode cL_law 297 = .ok (.iadd, 1) := by decide +kernel
theorem dL_law_298 : decode cL_law 298 = .ok (.iaload, 1) := by decide +kernel
theorem dL_law_299 : decode cL_law 299 = .ok (.invokevirtual 40, 3) := by decide +kernel
theorem dL_law_302 : decode cL_law 302 = .ok (.aload_n 2, 1) := by decide +kernel
theorem dL_law_303 : decode cL_law 303 = .ok (.aload_n 0, 1) := by decide +kernel
theorem dL_law_304 : decode cL_law 304 = .ok (.iload_n 3, 1) := by decide +kernel
theorem dL_law_305 : decode cL_law 305 = .ok (.iconst 1, 1) := by decide +kernel
theorem dL_law_306 : decode cL_law 306 = .ok (.iadd, 1) := by decide +kernel
theorem dL_law_307 : decode cL_law 307 = .ok (.iaload, 1) := by decide +kernel
theorem dL_law_308 : decode cL_law 308 = .ok (.aload_n 0, 1) := by decide +kernel
theorem dL_law_309 : decode cL_law 309 = .ok (.iload_n 3, 1) := by decide +kernel
theorem dL_law_310 : decode cL_law 310 = .ok (.iconst 2, 1) := by decide +kernel
theorem dL_law_311 : decode cL_law 311 = .ok (.iadd, 1) := by decide +kernel
theorem dL_law_312 : decode cL_law 312 = .ok (.iaload, 1) := by decide +kernel
theorem dL_law_313 : decode cL_law 313 = .ok (.invokevirtual 43, 3) := by decide +kernel
theorem dL_law_316 : decode cL_law 316 = .ok (.if_icmp .eq 518, 3) := by decide +kernel
theorem dL_law_319 : decode cL_law 319 = .ok (.iconst 0, 1) := by decide +kernel
theorem dL_law_320 : decode cL_law 320 = .ok (.ireturn, 1) := by decide +kernel
theorem dL_law_321 : decode cL_law 321 = .ok (.aload_n 1, 1) := by decide +kernel
theorem dL_law_322 : decode cL_law 322 = .ok (.aload_n 0, 1) := by decide +kernel
theorem dL_law_323 : decode cL_law 323 = .ok (.iload_n 3, 1) := by decide +kernel
theorem dL_law_324 : decode cL_law 324 = .ok (.iconst 1, 1) := by decide +kernel
theorem dL_law_325 : decode cL_law 325 = .ok (.iadd, 1) := by decide +kernel
theorem dL_law_326 : decode cL_law 326 = .ok (.iaload, 1) := by decide +kernel
theorem dL_law_327 : decode cL_law 327 = .ok (.invokevirtual 44, 3) := by decide +kernel
theorem dL_law_330 : decode cL_law 330 = .ok (.aload_n 2, 1) := by decide +kernel
theorem dL_law_331 : decode cL_law 331 = .ok (.aload_n 0, 1) := by decide +kernel
theorem dL_law_332 : decode cL_law 332 = .ok (.iload_n 3, 1) := by decide +kernel
theorem dL_law_333 : decode cL_law 333 = .ok (.iconst 1, 1) := by decide +kernel
theorem dL_law_334 : decode cL_law 334 = .ok (.iadd, 1) := by decide +kernel
theorem dL_law_335 : decode cL_law 335 = .ok (.iaload, 1) := by decide +kernel
theorem dL_law_336 : decode cL_law 336 = .ok (.invokevirtual 47, 3) := by decide +kernel
theorem dL_law_339 : decode cL_law 339 = .ok (.if_icmp .eq 495, 3) := by decide +kernel
theorem dL_law_342 : decode cL_law 342 = .ok (.iconst 0, 1) := by decide +kernel
theorem dL_law_343 : decode cL_law 343 = .ok (.ireturn, 1) := by decide +kernel
theorem dL_law_344 : decode cL_law 344 = .ok (.aload_n 1, 1) := by decide +kernel
theorem dL_law_345 : decode cL_law 345 = .ok (.aload_n 0, 1) := by decide +kernel
theorem dL_law_346 : decode cL_law 346 = .ok (.iload_n 3, 1) := by decide +kernel
theorem dL_law_347 : decode cL_law 347 = .ok (.iconst 1, 1) := by decide +kernel
theorem dL_law_348 : decode cL_law 348 = .ok (.iadd, 1) := by decide +kernel
theorem dL_law_349 : decode cL_law 349 = .ok (.iaload, 1) := by decide +kernel
theorem dL_law_350 : decode cL_law 350 = .ok (.invokevirtual 48, 3) := by decide +kernel
theorem dL_law_353 : decode cL_law 353 = .ok (.aload_n 2, 1) := by decide +kernel
theorem dL_law_354 : decode cL_law 354 = .ok (.aload_n 0, 1) := by decide +kernel
theorem dL_law_355 : decode cL_law 355 = .ok (.iload_n 3, 1) := by decide +kernel
theorem dL_law_356 : decode cL_law 356 = .ok (.iconst 1, 1) := by decide +kernel
theorem dL_law_357 : decode cL_law 357 = .ok (.iadd, 1) := by decide +kernel
theorem dL_law_358 : decode cL_law 358 = .ok (.iaload, 1) := by decide +kernel
theorem dL_law_359 : decode cL_law 359 = .ok (.invokevirtual 51, 3) := by decide +kernel
theorem dL_law_362 : decode cL_law 362 = .ok (.if_icmp .eq 472, 3) := by decide +kernel
theorem dL_law_365 : decode cL_law 365 = .ok (.iconst 0, 1) := by decide +kernel
theorem dL_law_366 : decode cL_law 366 = .ok (.ireturn, 1) := by decide +kernel
theorem dL_law_367 : decode cL_law 367 = .ok (.aload_n 1, 1) := by decide +kernel
theorem dL_law_368 : decode cL_law 368 = .ok (.aload_n 0, 1) := by decide +kernel
theorem dL_law_369 : decode cL_law 369 = .ok (.iload_n 3, 1) := by decide +kernel
theorem dL_law_370 : decode cL_law 370 = .ok (.iconst 1, 1) := by decide +kernel
theorem dL_law_371 : decode cL_law 371 = .ok (.iadd, 1) := by decide +kernel
theorem dL_law_372 : decode cL_law 372 = .ok (.iaload, 1) := by decide +kernel
theorem dL_law_373 : decode cL_law 373 = .ok (.invokevirtual 52, 3) := by decide +kernel
theorem dL_law_376 : decode cL_law 376 = .ok (.aload_n 2, 1) := by decide +kernel
theorem dL_law_377 : decode cL_law 377 = .ok (.aload_n 0, 1) := by decide +kernel
theorem dL_law_378 : decode cL_law 378 = .ok (.iload_n 3, 1) := by decide +kernel
theorem dL_law_379 : decode cL_law 379 = .ok (.iconst 1, 1) := by decide +kernel
theorem dL_law_380 : decode cL_law 380 = .ok (.iadd, 1) := by decide +kernel
theorem dL_law_381 : decode cL_law 381 = .ok (.iaload, 1) := by decide +kernel
theorem dL_law_382 : decode cL_law 382 = .ok (.invokevirtual 55, 3) := by decide +kernel
theorem dL_law_385 : decode cL_law 385 = .ok (.if_icmp .eq 449, 3) := by decide +kernel
theorem dL_law_388 : decode cL_law 388 = .ok (.iconst 0, 1) := by decide +kernel
theorem dL_law_389 : decode cL_law 389 = .ok (.ireturn, 1) := by decide +kernel
theorem dL_law_390 : decode cL_law 390 = .ok (.aload_n 1, 1) := by decide +kernel
theorem dL_law_391 : decode cL_law 391 = .ok (.aload_n 0, 1) := by decide +kernel
theorem dL_law_392 : decode cL_law 392 = .ok (.iload_n 3, 1) := by decide +kernel
theorem dL_law_393 : decode cL_law 393 = .ok (.iconst 1, 1) := by decide +kernel
theorem dL_law_394 : decode cL_law 394 = .ok (.iadd, 1) := by decide +kernel
theorem dL_law_395 : decode cL_law 395 = .ok (.iaload, 1) := by decide +kernel
theorem dL_law_396 : decode cL_law 396 = .ok (.invokevirtual 56, 3) := by decide +kernel
theorem dL_law_399 : decode cL_law 399 = .ok (.aload_n 2, 1) := by decide +kernel
theorem dL_law_400 : decode cL_law 400 = .ok (.aload_n 0, 1) := by decide +kernel
theorem dL_law_401 : decode cL_law 401 = .ok (.iload_n 3, 1) := by decide +kernel
theorem dL_law_402 : decode cL_law 402 = .ok (.iconst 1, 1) := by decide +kernel
theorem dL_law_403 : decode cL_law 403 = .ok (.iadd, 1) := by decide +kernel
theorem dL_law_404 : decode cL_law 404 = .ok (.iaload, 1) := by decide +kernel
theorem dL_law_405 : decode cL_law 405 = .ok (.invokevirtual 59, 3) := by decide +kernel
theorem dL_law_408 : decode cL_law 408 = .ok (.if_icmp .eq 426, 3) := by decide +kernel
theorem dL_law_411 : decode cL_law 411 = .ok (.iconst 0, 1) := by decide +kernel
theorem dL_law_412 : decode cL_law 412 = .ok (.ireturn, 1) := by decide +kernel
theorem dL_law_413 : decode cL_law 413 = .ok (.aload_n 1, 1) := by decide +kernel
theorem dL_law_414 : decode cL_law 414 = .ok (.aload_n 0, 1) := by decide +kernel
theorem dL_law_415 : decode cL_law 415 = .ok (.iload_n 3, 1) := by decide +kernel
theorem dL_law_416 : decode cL_law 416 = .ok (.iconst 1, 1) := by decide +kernel
theorem dL_law_417 : decode cL_law 417 = .ok (.iadd, 1) := by decide +kernel
theorem dL_law_418 : decode cL_law 418 = .ok (.iaload, 1) := by decide +kernel
theorem dL_law_419 : decode cL_law 419 = .ok (.invokevirtual 60, 3) := by decide +kernel
theorem dL_law_422 : decode cL_law 422 = .ok (.aload_n 2, 1) := by decide +kernel
theorem dL_law_423 : decode cL_law 423 = .ok (.aload_n 0, 1) := by decide +kernel
theorem dL_law_424 : decode cL_law 424 = .ok (.iload_n 3, 1) := by decide +kernel
theorem dL_law_425 : decode cL_law 425 = .ok (.iconst 1, 1) := by decide +kernel
theorem dL_law_426 : decode cL_law 426 = .ok (.iadd, 1) := by decide +kernel
theorem dL_law_427 : decode cL_law 427 = .ok (.iaload, 1) := by decide +kernel
theorem dL_law_428 : decode cL_law 428 = .ok (.invokevirtual 63, 3) := by decide +kernel
theorem dL_law_431 : decode cL_law 431 = .ok (.if_icmp .eq 403, 3) := by decide +kernel
theorem dL_law_434 : decode cL_law 434 = .ok (.iconst 0, 1) := by decide +kernel
theorem dL_law_435 : decode cL_law 435 = .ok (.ireturn, 1) := by decide +kernel
theorem dL_law_436 : decode cL_law 436 = .ok (.aload_n 1, 1) := by decide +kernel
theorem dL_law_437 : decode cL_law 437 = .ok (.invokevirtual 64, 3) := by decide +kernel
theorem dL_law_440 : decode cL_law 440 = .ok (.aload_n 2, 1) := by decide +kernel
theorem dL_law_441 : decode cL_law 441 = .ok (.invokevirtual 67, 3) := by decide +kernel
theorem dL_law_444 : decode cL_law 444 = .ok (.if_icmp .eq 390, 3) := by decide +kernel
theorem dL_law_447 : decode cL_law 447 = .ok (.iconst 0, 1) := by decide +kernel
theorem dL_law_448 : decode cL_law 448 = .ok (.ireturn, 1) := by decide +kernel
theorem dL_law_449 : decode cL_law 449 = .ok (.aload_n 1, 1) := by decide +kernel
theorem dL_law_450 : decode cL_law 450 = .ok (.aload_n 0, 1) := by decide +kernel
theorem dL_law_451 : decode cL_law 451 = .ok (.iload_n 3, 1) := by decide +kernel
theorem dL_law_452 : decode cL_law 452 = .ok (.iconst 1, 1) := by decide +kernel
theorem dL_law_453 : decode cL_law 453 = .ok (.iadd, 1) := by decide +kernel
theorem dL_law_454 : decode cL_law 454 = .ok (.iaload, 1) := by decide +kernel
theorem dL_law_455 : decode cL_law 455 = .ok (.invokevirtual 68, 3) := by decide +kernel
theorem dL_law_458 : decode cL_law 458 = .ok (.aload_n 2, 1) := by decide +kernel
theorem dL_law_459 : decode cL_law 459 = .ok (.aload_n 0, 1) := by decide +kernel
theorem dL_law_460 : decode cL_law 460 = .ok (.iload_n 3, 1) := by decide +kernel
theorem dL_law_461 : decode cL_law 461 = .ok (.iconst 1, 1) := by decide +kernel
theorem dL_law_462 : decode cL_law 462 = .ok (.iadd, 1) := by decide +kernel
theorem dL_law_463 : decode cL_law 463 = .ok (.iaload, 1) := by decide +kernel
theorem dL_law_464 : decode cL_law 464 = .ok (.invokevirtual 71, 3) := by decide +kernel
theorem dL_law_467 : decode cL_law 467 = .ok (.if_icmp .eq 367, 3) := by decide +kernel
theorem dL_law_470 : decode cL_law 470 = .ok (.iconst 0, 1) := by decide +kernel
theorem dL_law_471 : decode cL_law 471 = .ok (.ireturn, 1) := by decide +kernel
theorem dL_law_472 : decode cL_law 472 = .ok (.aload_n 1, 1) := by decide +kernel
theorem dL_law_473 : decode cL_law 473 = .ok (.aload_n 0, 1) := by decide +kernel
theorem dL_law_474 : decode cL_law 474 = .ok (.iload_n 3, 1) := by decide +kernel
theorem dL_law_475 : decode cL_law 475 = .ok (.iconst 1, 1) := by decide +kernel
theorem dL_law_476 : decode cL_law 476 = .ok (.iadd, 1) := by decide +kernel
theorem dL_law_477 : decode cL_law 477 = .ok (.iaload, 1) := by decide +kernel
theorem dL_law_478 : decode cL_law 478 = .ok (.invokevirtual 72, 3) := by decide +kernel
theorem dL_law_481 : decode cL_law 481 = .ok (.aload_n 2, 1) := by decide +kernel
theorem dL_law_482 : decode cL_law 482 = .ok (.aload_n 0, 1) := by decide +kernel
theorem dL_law_483 : decode cL_law 483 = .ok (.iload_n 3, 1) := by decide +kernel
theorem dL_law_484 : decode cL_law 484 = .ok (.iconst 1, 1) := by decide +kernel
theorem dL_law_485 : decode cL_law 485 = .ok (.iadd, 1) := by decide +kernel
theorem dL_law_486 : decode cL_law 486 = .ok (.iaload, 1) := by decide +kernel
theorem dL_law_487 : decode cL_law 487 = .ok (.invokevirtual 75, 3) := by decide +kernel
theorem dL_law_490 : decode cL_law 490 = .ok (.if_icmp .eq 344, 3) := by decide +kernel
theorem dL_law_493 : decode cL_law 493 = .ok (.iconst 0, 1) := by decide +kernel
theorem dL_law_494 : decode cL_law 494 = .ok (.ireturn, 1) := by decide +kernel
theorem dL_law_495 : decode cL_law 495 = .ok (.aload_n 1, 1) := by decide +kernel
theorem dL_law_496 : decode cL_law 496 = .ok (.aload_n 0, 1) := by decide +kernel
theorem dL_law_497 : decode cL_law 497 = .ok (.iload_n 3, 1) := by decide +kernel
theorem dL_law_498 : decode cL_law 498 = .ok (.iconst 1, 1) := by decide +kernel
theorem dL_law_499 : decode cL_law 499 = .ok (.iadd, 1) := by decide +kernel
theorem dL_law_500 : decode cL_law 500 = .ok (.iaload, 1) := by decide +kernel
theorem dL_law_501 : decode cL_law 501 = .ok (.invokevirtual 76, 3) := by decide +kernel
theorem dL_law_504 : decode cL_law 504 = .ok (.aload_n 2, 1) := by decide +kernel
theorem dL_law_505 : decode cL_law 505 = .ok (.aload_n 0, 1) := by decide +kernel
theorem dL_law_506 : decode cL_law 506 = .ok (.iload_n 3, 1) := by decide +kernel
theorem dL_law_507 : decode cL_law 507 = .ok (.iconst 1, 1) := by decide +kernel
theorem dL_law_508 : decode cL_law 508 = .ok (.iadd, 1) := by decide +kernel
theorem dL_law_509 : decode cL_law 509 = .ok (.iaload, 1) := by decide +kernel
theorem dL_law_510 : decode cL_law 510 = .ok (.invokevirtual 79, 3) := by decide +kernel
theorem dL_law_513 : decode cL_law 513 = .ok (.if_icmp .eq 321, 3) := by decide +kernel
theorem dL_law_516 : decode cL_law 516 = .ok (.iconst 0, 1) := by decide +kernel
theorem dL_law_517 : decode cL_law 517 = .ok (.ireturn, 1) := by decide +kernel
theorem dL_law_518 : decode cL_law 518 = .ok (.aload_n 1, 1) := by decide +kernel
theorem dL_law_519 : decode cL_law 519 = .ok (.aload_n 0, 1) := by decide +kernel
theorem dL_law_520 : decode cL_law 520 = .ok (.iload_n 3, 1) := by decide +kernel
theorem dL_law_521 : decode cL_law 521 = .ok (.iconst 1, 1) := by decide +kernel
theorem dL_law_522 : decode cL_law 522 = .ok (.iadd, 1) := by decide +kernel
theorem dL_law_523 : decode cL_law 523 = .ok (.iaload, 1) := by decide +kernel
theorem dL_law_524 : decode cL_law 524 = .ok (.invokevirtual 80, 3) := by decide +kernel
theorem dL_law_527 : decode cL_law 527 = .ok (.aload_n 2, 1) := by decide +kernel
theorem dL_law_528 : decode cL_law 528 = .ok (.aload_n 0, 1) := by decide +kernel
theorem dL_law_529 : decode cL_law 529 = .ok (.iload_n 3, 1) := by decide +kernel
theorem dL_law_530 : decode cL_law 530 = .ok (.iconst 1, 1) := by decide +kernel
theorem dL_law_531 : decode cL_law 531 = .ok (.iadd, 1) := by decide +kernel
theorem dL_law_532 : decode cL_law 532 = .ok (.iaload, 1) := by decide +kernel
theorem dL_law_533 : decode cL_law 533 = .ok (.invokevirtual 83, 3) := by decide +kernel
theorem dL_law_536 : decode cL_law 536 = .ok (.if_icmp .eq 298, 3) := by decide +kernel
theorem dL_law_539 : decode cL_law 539 = .ok (.iconst 0, 1) := by decide +kernel
theorem dL_law_540 : decode cL_law 540 = .ok (.ireturn, 1) := by decide +kernel
theorem dL_law_541 : decode cL_law 541 = .ok (.aload_n 1, 1) := by decide +kernel
theorem dL_law_542 : decode cL_law 542 = .ok (.invokevirtual 84, 3) := by decide +kernel
theorem dL_law_545 : decode cL_law 545 = .ok (.aload_n 2, 1) := by decide +kernel
theorem dL_law_546 : decode cL_law 546 = .ok (.invokevirtual 87, 3) := by decide +kernel
theorem dL_law_549 : decode cL_law 549 = .ok (.if_icmp .eq 285, 3) := by decide +kernel
theorem dL_law_552 : decode cL_law 552 = .ok (.iconst 0, 1) := by decide +kernel
theorem dL_law_553 : decode cL_law 553 = .ok (.ireturn, 1) := by decide +kernel
theorem dL_law_554 : decode cL_law 554 = .ok (.aload_n 1, 1) := by decide +kernel
theorem dL_law_555 : decode cL_law 555 = .ok (.aload_n 0, 1) := by decide +kernel
theorem dL_law_556 : decode cL_law 556 = .ok (.iload_n 3, 1) := by decide +kernel
theorem dL_law_557 : decode cL_law 557 = .ok (.iconst 1, 1) := by decide +kernel
theorem dL_law_558 : decode cL_law 558 = .ok (.iadd, 1) := by decide +kernel
theorem dL_law_559 : decode cL_law 559 = .ok (.iaload, 1) := by decide +kernel
theorem dL_law_560 : decode cL_law 560 = .ok (.invokevirtual 88, 3) := by decide +kernel
theorem dL_law_563 : decode cL_law 563 = .ok (.aload_n 2, 1) := by decide +kernel
theorem dL_law_564 : decode cL_law 564 = .ok (.aload_n 0, 1) := by decide +kernel
theorem dL_law_565 : decode cL_law 565 = .ok (.iload_n 3, 1) := by decide +kernel
theorem dL_law_566 : decode cL_law 566 = .ok (.iconst 1, 1) := by decide +kernel
theorem dL_law_567 : decode cL_law 567 = .ok (.iadd, 1) := by decide +kernel
theorem dL_law_568 : decode cL_law 568 = .ok (.iaload, 1) := by decide +kernel
theorem dL_law_569 : decode cL_law 569 = .ok (.invokevirtual 91, 3) := by decide +kernel
theorem dL_law_572 : decode cL_law 572 = .ok (.if_icmp .eq 262, 3) := by decide +kernel
theorem dL_law_575 : decode cL_law 575 = .ok (.iconst 0, 1) := by decide +kernel
theorem dL_law_576 : decode cL_law 576 = .ok (.ireturn, 1) := by decide +kernel
theorem dL_law_577 : decode cL_law 577 = .ok (.aload_n 1, 1) := by decide +kernel
theorem dL_law_578 : decode cL_law 578 = .ok (.aload_n 0, 1) := by decide +kernel
theorem dL_law_579 : decode cL_law 579 = .ok (.iload_n 3, 1) := by decide +kernel
theorem dL_law_580 : decode cL_law 580 = .ok (.iconst 1, 1) := by decide +kernel
theorem dL_law_581 : decode cL_law 581 = .ok (.iadd, 1) := by decide +kernel
theorem dL_law_582 : decode cL_law 582 = .ok (.iaload, 1) := by decide +kernel
theorem dL_law_583 : decode cL_law 583 = .ok (.aload_n 0, 1) := by decide +kernel
theorem dL_law_584 : decode cL_law 584 = .ok (.iload_n 3, 1) := by decide +kernel
theorem dL_law_585 : decode cL_law 585 = .ok (.iconst 2, 1) := by decide +kernel
theorem dL_law_586 : decode cL_law 586 = .ok (.iadd, 1) := by decide +kernel
theorem dL_law_587 : decode cL_law 587 = .ok (.iaload, 1) := by decide +kernel
theorem dL_law_588 : decode cL_law 588 = .ok (.invokevirtual 92, 3) := by decide +kernel
theorem dL_law_591 : decode cL_law 591 = .ok (.aload_n 2, 1) := by decide +kernel
theorem dL_law_592 : decode cL_law 592 = .ok (.aload_n 0, 1) := by decide +kernel
theorem dL_law_593 : decode cL_law 593 = .ok (.iload_n 3, 1) := by decide +kernel
theorem dL_law_594 : decode cL_law 594 = .ok (.iconst 1, 1) := by decide +kernel
theorem dL_law_595 : decode cL_law 595 = .ok (.iadd, 1) := by decide +kernel
theorem dL_law_596 : decode cL_law 596 = .ok (.iaload, 1) := by decide +kernel
theorem dL_law_597 : decode cL_law 597 = .ok (.aload_n 0, 1) := by decide +kernel
theorem dL_law_598 : decode cL_law 598 = .ok (.iload_n 3, 1) := by decide +kernel
theorem dL_law_599 : decode cL_law 599 = .ok (.iconst 2, 1) := by decide +kernel
theorem dL_law_600 : decode cL_law 600 = .ok (.iadd, 1) := by decide +kernel
theorem dL_law_601 : decode cL_law 601 = .ok (.iaload, 1) := by decide +kernel
theorem dL_law_602 : decode cL_law 602 = .ok (.invokevirtual 95, 3) := by decide +kernel
theorem dL_law_605 : decode cL_law 605 = .ok (.if_icmp .eq 229, 3) := by decide +kernel
theorem dL_law_608 : decode cL_law 608 = .ok (.iconst 0, 1) := by decide +kernel
theorem dL_law_609 : decode cL_law 609 = .ok (.ireturn, 1) := by decide +kernel
theorem dL_law_610 : decode cL_law 610 = .ok (.aload_n 1, 1) := by decide +kernel
theorem dL_law_611 : decode cL_law 611 = .ok (.aload_n 0, 1) := by decide +kernel
theorem dL_law_612 : decode cL_law 612 = .ok (.iload_n 3, 1) := by decide +kernel
theorem dL_law_613 : decode cL_law 613 = .ok (.iconst 1, 1) := by decide +kernel
theorem dL_law_614 : decode cL_law 614 = .ok (.iadd, 1) := by decide +kernel
theorem dL_law_615 : decode cL_law 615 = .ok (.iaload, 1) := by decide +kernel
theorem dL_law_616 : decode cL_law 616 = .ok (.invokevirtual 96, 3) := by decide +kernel
theorem dL_law_619 : decode cL_law 619 = .ok (.aload_n 2, 1) := by decide +kernel
theorem dL_law_620 : decode cL_law 620 = .ok (.aload_n 0, 1) := by decide +kernel
theorem dL_law_621 : decode cL_law 621 = .ok (.iload_n 3, 1) := by decide +kernel
theorem dL_law_622 : decode cL_law 622 = .ok (.iconst 1, 1) := by decide +kernel
theorem dL_law_623 : decode cL_law 623 = .ok (.iadd, 1) := by decide +kernel
theorem dL_law_624 : decode cL_law 624 = .ok (.iaload, 1) := by decide +kernel
theorem dL_law_625 : decode cL_law 625 = .ok (.invokevirtual 99, 3) := by decide +kernel
theorem dL_law_628 : decode cL_law 628 = .ok (.if_icmp .eq 206, 3) := by decide +kernel
theorem dL_law_631 : decode cL_law 631 = .ok (.iconst 0, 1) := by decide +kernel
theorem dL_law_632 : decode cL_law 632 = .ok (.ireturn, 1) := by decide +kernel
theorem dL_law_633 : decode cL_law 633 = .ok (.aload_n 1, 1) := by decide +kernel
theorem dL_law_634 : decode cL_law 634 = .ok (.aload_n 0, 1) := by decide +kernel
theorem dL_law_635 : decode cL_law 635 = .ok (.iload_n 3, 1) := by decide +kernel
theorem dL_law_636 : decode cL_law 636 = .ok (.iconst 1, 1) := by decide +kernel
theorem dL_law_637 : decode cL_law 637 = .ok (.iadd, 1) := by decide +kernel
theorem dL_law_638 : decode cL_law 638 = .ok (.iaload, 1) := by decide +kernel
theorem dL_law_639 : decode cL_law 639 = .ok (.aload_n 0, 1) := by decide +kernel
theorem dL_law_640 : decode cL_law 640 = .ok (.iload_n 3, 1) := by decide +kernel
theorem dL_law_641 : decode cL_law 641 = .ok (.iconst 2, 1) := by decide +kernel
theorem dL_law_642 : decode cL_law 642 = .ok (.iadd, 1) := by decide +kernel
theorem dL_law_643 : decode cL_law 643 = .ok (.iaload, 1) := by decide +kernel
theorem dL_law_644 : decode cL_law 644 = .ok (.invokevirtual 100, 3) := by decide +kernel
theorem dL_law_647 : decode cL_law 647 = .ok (.aload_n 2, 1) := by decide +kernel
theorem dL_law_648 : decode cL_law 648 = .ok (.aload_n 0, 1) := by decide +kernel
theorem dL_law_649 : decode cL_law 649 = .ok (.iload_n 3, 1) := by decide +kernel
theorem dL_law_650 : decode cL_law 650 = .ok (.iconst 1, 1) := by decide +kernel
theorem dL_law_651 : decode cL_law 651 = .ok (.iadd, 1) := by decide +kernel
theorem dL_law_652 : decode cL_law 652 = .ok (.iaload, 1) := by decide +kernel
theorem dL_law_653 : decode cL_law 653 = .ok (.aload_n 0, 1) := by decide +kernel
theorem dL_law_654 : decode cL_law 654 = .ok (.iload_n 3, 1) := by decide +kernel
theorem dL_law_655 : decode cL_law 655 = .ok (.iconst 2, 1) := by decide +kernel
theorem dL_law_656 : decode cL_law 656 = .ok (.iadd, 1) := by decide +kernel
theorem dL_law_657 : decode cL_law 657 = .ok (.iaload, 1) := by decide +kernel
theorem dL_law_658 : decode cL_law 658 = .ok (.invokevirtual 103, 3) := by decide +kernel
theorem dL_law_661 : decode cL_law 661 = .ok (.if_icmp .eq 173, 3) := by decide +kernel
theorem dL_law_664 : decode cL_law 664 = .ok (.iconst 0, 1) := by decide +kernel
theorem dL_law_665 : decode cL_law 665 = .ok (.ireturn, 1) := by decide +kernel
theorem dL_law_666 : decode cL_law 666 = .ok (.aload_n 1, 1) := by decide +kernel
theorem dL_law_667 : decode cL_law 667 = .ok (.aload_n 0, 1) := by decide +kernel
theorem dL_law_668 : decode cL_law 668 = .ok (.iload_n 3, 1) := by decide +kernel
theorem dL_law_669 : decode cL_law 669 = .ok (.iconst 1, 1) := by decide +kernel
theorem dL_law_670 : decode cL_law 670 = .ok (.iadd, 1) := by decide +kernel
theorem dL_law_671 : decode cL_law 671 = .ok (.iaload, 1) := by decide +kernel
theorem dL_law_672 : decode cL_law 672 = .ok (.invokevirtual 104, 3) := by decide +kernel
theorem dL_law_675 : decode cL_law 675 = .ok (.aload_n 2, 1) := by decide +kernel
theorem dL_law_676 : decode cL_law 676 = .ok (.aload_n 0, 1) := by decide +kernel
theorem dL_law_677 : decode cL_law 677 = .ok (.iload_n 3, 1) := by decide +kernel
theorem dL_law_678 : decode cL_law 678 = .ok (.iconst 1, 1) := by decide +kernel
theorem dL_law_679 : decode cL_law 679 = .ok (.iadd, 1) := by decide +kernel
theorem dL_law_680 : decode cL_law 680 = .ok (.iaload, 1) := by decide +kernel
theorem dL_law_681 : decode cL_law 681 = .ok (.invokevirtual 107, 3) := by decide +kernel
theorem dL_law_684 : decode cL_law 684 = .ok (.if_icmp .eq 150, 3) := by decide +kernel
theorem dL_law_687 : decode cL_law 687 = .ok (.iconst 0, 1) := by decide +kernel
theorem dL_law_688 : decode cL_law 688 = .ok (.ireturn, 1) := by decide +kernel
theorem dL_law_689 : decode cL_law 689 = .ok (.aload_n 1, 1) := by decide +kernel
theorem dL_law_690 : decode cL_law 690 = .ok (.aload_n 0, 1) := by decide +kernel
theorem dL_law_691 : decode cL_law 691 = .ok (.iload_n 3, 1) := by decide +kernel
theorem dL_law_692 : decode cL_law 692 = .ok (.iconst 1, 1) := by decide +kernel
theorem dL_law_693 : decode cL_law 693 = .ok (.iadd, 1) := by decide +kernel
theorem dL_law_694 : decode cL_law 694 = .ok (.iaload, 1) := by decide +kernel
theorem dL_law_695 : decode cL_law 695 = .ok (.aload_n 0, 1) := by decide +kernel
theorem dL_law_696 : decode cL_law 696 = .ok (.iload_n 3, 1) := by decide +kernel
theorem dL_law_697 : decode cL_law 697 = .ok (.iconst 2, 1) := by decide +kernel
theorem dL_law_698 : decode cL_law 698 = .ok (.iadd, 1) := by decide +kernel
theorem dL_law_699 : decode cL_law 699 = .ok (.iaload, 1) := by decide +kernel
theorem dL_law_700 : decode cL_law 700 = .ok (.invokevirtual 108, 3) := by decide +kernel
theorem dL_law_703 : decode cL_law 703 = .ok (.aload_n 2, 1) := by decide +kernel
theorem dL_law_704 : decode cL_law 704 = .ok (.aload_n 0, 1) := by decide +kernel
theorem dL_law_705 : decode cL_law 705 = .ok (.iload_n 3, 1) := by decide +kernel
theorem dL_law_706 : decode cL_law 706 = .ok (.iconst 1, 1) := by decide +kernel
theorem dL_law_707 : decode cL_law 707 = .ok (.iadd, 1) := by decide +kernel
theorem dL_law_708 : decode cL_law 708 = .ok (.iaload, 1) := by decide +kernel
theorem dL_law_709 : decode cL_law 709 = .ok (.aload_n 0, 1) := by decide +kernel
theorem dL_law_710 : decode cL_law 710 = .ok (.iload_n 3, 1) := by decide +kernel
theorem dL_law_711 : decode cL_law 711 = .ok (.iconst 2, 1) := by decide +kernel
theorem dL_law_712 : decode cL_law 712 = .ok (.iadd, 1) := by decide +kernel
theorem dL_law_713 : decode cL_law 713 = .ok (.iaload, 1) := by decide +kernel
theorem dL_law_714 : decode cL_law 714 = .ok (.invokevirtual 111, 3) := by decide +kernel
theorem dL_law_717 : decode cL_law 717 = .ok (.if_icmp .eq 117, 3) := by decide +kernel
theorem dL_law_720 : decode cL_law 720 = .ok (.iconst 0, 1) := by decide +kernel
theorem dL_law_721 : decode cL_law 721 = .ok (.ireturn, 1) := by decide +kernel
theorem dL_law_722 : decode cL_law 722 = .ok (.aload_n 1, 1) := by decide +kernel
theorem dL_law_723 : decode cL_law 723 = .ok (.invokevirtual 112, 3) := by decide +kernel
theorem dL_law_726 : decode cL_law 726 = .ok (.aload_n 2, 1) := by decide +kernel
theorem dL_law_727 : decode cL_law 727 = .ok (.invokevirtual 115, 3) := by decide +kernel
theorem dL_law_730 : decode cL_law 730 = .ok (.if_icmp .eq 104, 3) := by decide +kernel
theorem dL_law_733 : decode cL_law 733 = .ok (.iconst 0, 1) := by decide +kernel
theorem dL_law_734 : decode cL_law 734 = .ok (.ireturn, 1) := by decide +kernel
theorem dL_law_735 : decode cL_law 735 = .ok (.aload_n 1, 1) := by decide +kernel
theorem dL_law_736 : decode cL_law 736 = .ok (.aload_n 0, 1) := by decide +kernel
theorem dL_law_737 : decode cL_law 737 = .ok (.iload_n 3, 1) := by decide +kernel
theorem dL_law_738 : decode cL_law 738 = .ok (.iconst 1, 1) := by decide +kernel
theorem dL_law_739 : decode cL_law 739 = .ok (.iadd, 1) := by decide +kernel
theorem dL_law_740 : decode cL_law 740 = .ok (.iaload, 1) := by decide +kernel
theorem dL_law_741 : decode cL_law 741 = .ok (.invokevirtual 116, 3) := by decide +kernel
theorem dL_law_744 : decode cL_law 744 = .ok (.aload_n 2, 1) := by decide +kernel
theorem dL_law_745 : decode cL_law 745 = .ok (.aload_n 0, 1) := by decide +kernel
theorem dL_law_746 : decode cL_law 746 = .ok (.iload_n 3, 1) := by decide +kernel
theorem dL_law_747 : decode cL_law 747 = .ok (.iconst 1, 1) := by decide +kernel
theorem dL_law_748 : decode cL_law 748 = .ok (.iadd, 1) := by decide +kernel
theorem dL_law_749 : decode cL_law 749 = .ok (.iaload, 1) := by decide +kernel
theorem dL_law_750 : decode cL_law 750 = .ok (.invokevirtual 119, 3) := by decide +kernel
theorem dL_law_753 : decode cL_law 753 = .ok (.if_icmp .eq 81, 3) := by decide +kernel
theorem dL_law_756 : decode cL_law 756 = .ok (.iconst 0, 1) := by decide +kernel
theorem dL_law_757 : decode cL_law 757 = .ok (.ireturn, 1) := by decide +kernel
theorem dL_law_758 : decode cL_law 758 = .ok (.aload_n 1, 1) := by decide +kernel
theorem dL_law_759 : decode cL_law 759 = .ok (.aload_n 0, 1) := by decide +kernel
theorem dL_law_760 : decode cL_law 760 = .ok (.iload_n 3, 1) := by decide +kernel
theorem dL_law_761 : decode cL_law 761 = .ok (.iconst 1, 1) := by decide +kernel
theorem dL_law_762 : decode cL_law 762 = .ok (.iadd, 1) := by decide +kernel
theorem dL_law_763 : decode cL_law 763 = .ok (.iaload, 1) := by decide +kernel
theorem dL_law_764 : decode cL_law 764 = .ok (.aload_n 0, 1) := by decide +kernel
theorem dL_law_765 : decode cL_law 765 = .ok (.iload_n 3, 1) := by decide +kernel
theorem dL_law_766 : decode cL_law 766 = .ok (.iconst 2, 1) := by decide +kernel
theorem dL_law_767 : decode cL_law 767 = .ok (.iadd, 1) := by decide +kernel
theorem dL_law_768 : decode cL_law 768 = .ok (.iaload, 1) := by decide +kernel
theorem dL_law_769 : decode cL_law 769 = .ok (.aload_n 0, 1) := by decide +kernel
theorem dL_law_770 : decode cL_law 770 = .ok (.iload_n 3, 1) := by decide +kernel
theorem dL_law_771 : decode cL_law 771 = .ok (.iconst 3, 1) := by decide +kernel
theorem dL_law_772 : decode cL_law 772 = .ok (.iadd, 1) := by decide +kernel
theorem dL_law_773 : decode cL_law 773 = .ok (.iaload, 1) := by decide +kernel
theorem dL_law_774 : decode cL_law 774 = .ok (.aload_n 0, 1) := by decide +kernel
theorem dL_law_775 : decode cL_law 775 = .ok (.iload_n 3, 1) := by decide +kernel
theorem dL_law_776 : decode cL_law 776 = .ok (.iconst 4, 1) := by decide +kernel
theorem dL_law_777 : decode cL_law 777 = .ok (.iadd, 1) := by decide +kernel
theorem dL_law_778 : decode cL_law 778 = .ok (.iaload, 1) := by decide +kernel
theorem dL_law_779 : decode cL_law 779 = .ok (.invokevirtual 120, 3) := by decide +kernel
theorem dL_law_782 : decode cL_law 782 = .ok (.aload_n 2, 1) := by decide +kernel
theorem dL_law_783 : decode cL_law 783 = .ok (.aload_n 0, 1) := by decide +kernel
theorem dL_law_784 : decode cL_law 784 = .ok (.iload_n 3, 1) := by decide +kernel
theorem dL_law_785 : decode cL_law 785 = .ok (.iconst 1, 1) := by decide +kernel
theorem dL_law_786 : decode cL_law 786 = .ok (.iadd, 1) := by decide +kernel
theorem dL_law_787 : decode cL_law 787 = .ok (.iaload, 1) := by decide +kernel
theorem dL_law_788 : decode cL_law 788 = .ok (.aload_n 0, 1) := by decide +kernel
theorem dL_law_789 : decode cL_law 789 = .ok (.iload_n 3, 1) := by decide +kernel
theorem dL_law_790 : decode cL_law 790 = .ok (.iconst 2, 1) := by decide +kernel
theorem dL_law_791 : decode cL_law 791 = .ok (.iadd, 1) := by decide +kernel
theorem dL_law_792 : decode cL_law 792 = .ok (.iaload, 1) := by decide +kernel
theorem dL_law_793 : decode cL_law 793 = .ok (.aload_n 0, 1) := by decide +kernel
theorem dL_law_794 : decode cL_law 794 = .ok (.iload_n 3, 1) := by decide +kernel
theorem dL_law_795 : decode cL_law 795 = .ok (.iconst 3, 1) := by decide +kernel
theorem dL_law_796 : decode cL_law 796 = .ok (.iadd, 1) := by decide +kernel
theorem dL_law_797 : decode cL_law 797 = .ok (.iaload, 1) := by decide +kernel
theorem dL_law_798 : decode cL_law 798 = .ok (.aload_n 0, 1) := by decide +kernel
theorem dL_law_799 : decode cL_law 799 = .ok (.iload_n 3, 1) := by decide +kernel
theorem dL_law_800 : decode cL_law 800 = .ok (.iconst 4, 1) := by decide +kernel
theorem dL_law_801 : decode cL_law 801 = .ok (.iadd, 1) := by decide +kernel
theorem dL_law_802 : decode cL_law 802 = .ok (.iaload, 1) := by decide +kernel
theorem dL_law_803 : decode cL_law 803 = .ok (.invokevirtual 124, 3) := by decide +kernel
theorem dL_law_806 : decode cL_law 806 = .ok (.if_icmp .eq 28, 3) := by decide +kernel
theorem dL_law_809 : decode cL_law 809 = .ok (.iconst 0, 1) := by decide +kernel
theorem dL_law_810 : decode cL_law 810 = .ok (.ireturn, 1) := by decide +kernel
theorem dL_law_811 : decode cL_law 811 = .ok (.aload_n 1, 1) := by decide +kernel
theorem dL_law_812 : decode cL_law 812 = .ok (.aload_n 0, 1) := by decide +kernel
theorem dL_law_813 : decode cL_law 813 = .ok (.iload_n 3, 1) := by decide +kernel
theorem dL_law_814 : decode cL_law 814 = .ok (.iconst 1, 1) := by decide +kernel
theorem dL_law_815 : decode cL_law 815 = .ok (.iadd, 1) := by decide +kernel
theorem dL_law_816 : decode cL_law 816 = .ok (.iaload, 1) := by decide +kernel
theorem dL_law_817 : decode cL_law 817 = .ok (.invokevirtual 125, 3) := by decide +kernel
theorem dL_law_820 : decode cL_law 820 = .ok (.aload_n 2, 1) := by decide +kernel
theorem dL_law_821 : decode cL_law 821 = .ok (.aload_n 0, 1) := by decide +kernel
theorem dL_law_822 : decode cL_law 822 = .ok (.iload_n 3, 1) := by decide +kernel
theorem dL_law_823 : decode cL_law 823 = .ok (.iconst 1, 1) := by decide +kernel
theorem dL_law_824 : decode cL_law 824 = .ok (.iadd, 1) := by decide +kernel
theorem dL_law_825 : decode cL_law 825 = .ok (.iaload, 1) := by decide +kernel
theorem dL_law_826 : decode cL_law 826 = .ok (.invokevirtual 128, 3) := by decide +kernel
theorem dL_law_829 : decode cL_law 829 = .ok (.if_icmp .eq 5, 3) := by decide +kernel
theorem dL_law_832 : decode cL_law 832 = .ok (.iconst 0, 1) := by decide +kernel
theorem dL_law_833 : decode cL_law 833 = .ok (.ireturn, 1) := by decide +kernel
theorem dL_law_834 : decode cL_law 834 = .ok (.iinc 3 5, 3) := by decide +kernel
theorem dL_law_837 : decode cL_law 837 = .ok (.goto (-819), 3) := by decide +kernel
theorem dL_law_840 : decode cL_law 840 = .ok (.iconst 1, 1) := by decide +kernel
theorem dL_law_841 : decode cL_law 841 = .ok (.ireturn, 1) := by decide +kernel
end
section
/-! The judgement G: from a frame of a method of ours, with a world of n cells in a row from the address κ 0 on, the machine comes to the method's end with Q. R (part 12) is G over the world that stands once both objects are made. κ: all addresses and class numbers that are known at the law's start, by place. -/
abbrev gMem : Type := Nat → Nat → Int32
abbrev gMI : Type := String × ByteArray × Nat × String × Option FieldType
abbrev gWd : Type := Nat → va_E
abbrev gQ : Type := Option Value → Nat → gWd → Prop
def lw_g : List Cond := lw_tbl.filter goodWord
theorem lw_g_of {w : Cond} (i : Nat) (h : lw_tbl[i]? = some w) (hg : goodWord w = true) : w ∈ lw_g := List.mem_filter.mpr ⟨List.mem_of_getElem? h, hg⟩
theorem lw_g_in : ∀ w ∈ lw_g, w ∈ lw_tbl := fun _ h => (List.mem_filter.mp h).1
theorem lw_g_good {w : Cond} (h : w ∈ lw_g) : (w.onTables && w.keeps) = true ∨ ∃ ty, w = .arrayClass ty := good_of_word (List.mem_filter.mp h).2
def gDeed : List Int32 := [0, 1, 1, 1, 2, 2, 2, 2, 3, 4, 5, 6]
def gKind : List Int32 := [0, 0, 1, 2, 0, 1, 2, 3, 0, 0, 0, 0]
def gLen : List Nat := [4, 5, 6, 4, 4, 5, 7, 4, 3, 4, 5, 4]
def gByt : List (List Int32) := [[119, 101, 108, 108], [112, 108, 97, 105, 110], [114, 117, 110, 110, 101, 114], [108, 97, 122, 121], [111, 112, 101, 110], [108, 105, 110, 101, 100], [100, 111, 117, 98, 108, 101, 100], [116, 111, 114, 110], [116, 117, 98], [104, 111, 108, 101], [102, 114, 111, 115, 116], [116, 104, 97, 119]]
def gAbS : List Int32 := [-1, 0, 1, 1]
def gAbV : List Int32 := [-1, 0, 1, 2, 0]
def gD (κ : Nat → Nat) : va_G := (fun k => κ (10 + k), fun k j => κ (1000 + 32 * k + j))
def gTy (κ : Nat → Nat) : List (ClassId × FieldType) := [(κ 30, .int), (κ 31, .boolean), (κ 32, .object "SieveTub$Scene"), (κ 33, .object "SieveTub$Sister"), (κ 34, .object "SieveTub$Walker"), (κ 35, .array .int), (κ 36, .object "SieveTub$Word")]
def gA (κ : Nat → Nat) : Nat → Prop := fun q => κ 0 ≤ q
def gFm (κ : Nat → Nat) : Value := if κ 63 = 0 then .null else .ref (κ 64)
/-- what stands below κ 0 and is never written -/
def gT (κ : Nat → Nat) (U : State) (H : Heap) : Prop :=
  (va_Z "SieveTub" "ABOVE_SISTER" "[I" (.ref (κ 60)) (gA κ) U H ∧ va_T .int (κ 60) 4 (fun j => .int (gAbS.getD j 0)) (gA κ) U H) ∧
  (va_Z "SieveTub" "ABOVE_SIEVE" "[I" (.ref (κ 61)) (gA κ) U H ∧ va_T .int (κ 61) 5 (fun j => .int (gAbV.getD j 0)) (gA κ) U H) ∧
  (va_Z "SieveTub$Word" "$VALUES" "[LSieveTub$Word;" (.ref (κ 62)) (gA κ) U H ∧ H[κ 62]? = some (vp_cell (κ 36) (12, .inr (.inr (.inr (.inr (fun j => if j < 12 then some (κ (40 + j)) else none)))))) ∧ ¬ gA κ (κ 62)) ∧
  (∀ i : Nat, i < 12 → va_O "SieveTub$Word" (κ (40 + i)) (gA κ) U H ∧ va_OF "SieveTub$Word" "letters" "Ljava/lang/String;" (.ref (κ (70 + i))) (κ (40 + i)) (gA κ) U H ∧ va_OF "SieveTub$Word" "deed" "I" (.int (gDeed.getD i 0)) (κ (40 + i)) (gA κ) U H ∧ va_OF "SieveTub$Word" "kind" "I" (.int (gKind.getD i 0)) (κ (40 + i)) (gA κ) U H) ∧
  vk_S 12 gLen gByt (fun i => κ (70 + i)) (fun i => κ (90 + i)) (gA κ) U H ∧
  va_Z "java/lang/String" "COMPACT_STRINGS" "Z" (.int 1) (gA κ) U H ∧
  va_Z "jdk/internal/util/Preconditions" "SIOOBE_FORMATTER" "Ljava/util/function/BiFunction;" (gFm κ) (gA κ) U H
/-- words of the tables that aren't among the steady ones -/
def gN (U : State) : Prop :=
  (va_Nw (.methodLinkNest "SieveTub$Told" 17 ⟨"SieveTub$Sister", "<init>", "()V"⟩ "SieveTub") U ∧ va_Nw (.methodLinkNest "SieveTub$Scene" 17 ⟨"SieveTub$Walker", "<init>", "()V"⟩ "SieveTub") U ∧ va_Nw (.methodLinkNest "SieveTub$Forecast" 22 ⟨"SieveTub$Walker", "<init>", "()V"⟩ "SieveTub") U ∧ va_Nw (.methodLinkNest "SieveTub$Delays" 29 ⟨"SieveTub$Walker", "<init>", "()V"⟩ "SieveTub") U) ∧
  (va_Nw (.methodLinkNest "SieveTub$Clauses" 86 ⟨"SieveTub", "isOutside", "(III)Z"⟩ "SieveTub") U ∧ va_Nw (.methodLinkNest "SieveTub$Scene" 67 ⟨"SieveTub", "lostByHole", "(II)I"⟩ "SieveTub") U ∧ va_Nw (.methodLinkNest "SieveTub$Forecast" 101 ⟨"SieveTub", "lostByHole", "(II)I"⟩ "SieveTub") U ∧ va_Nw (.methodLinkNest "SieveTub$Delays" 117 ⟨"SieveTub", "lostByHole", "(II)I"⟩ "SieveTub") U) ∧
  va_AO "SieveTub$Sister" U ∧ va_AO "SieveTub$Walker" U ∧ va_AO "SieveTub$Scene" U ∧ va_Nw (.castable "[LSieveTub$Word;" "java/lang/Cloneable") U
theorem gT.moved {κ : Nat → Nat} {u U : State} {H : Heap} (hvm : u.vm.Alike U.vm) (h : gT κ u H) : gT κ U H := by
  obtain ⟨⟨a1, a2⟩, ⟨b1, b2⟩, ⟨c1, c2, c3⟩, d, f, g, g2⟩ := h
  exact ⟨⟨va_Z.moved hvm a1, va_T.moved hvm a2⟩, ⟨va_Z.moved hvm b1, va_T.moved hvm b2⟩, ⟨va_Z.moved hvm c1, c2, c3⟩, fun i hi => ⟨va_O.moved hvm (d i hi).1, va_OF.moved hvm (d i hi).2.1, va_OF.moved hvm (d i hi).2.2.1, va_OF.moved hvm (d i hi).2.2.2⟩, vk_S.moved hvm f, va_Z.moved hvm g, va_Z.moved hvm g2⟩
theorem gT.kept {κ : Nat → Nat} {U : State} {H H1 : Heap} (h : gT κ U H) (hq : ∀ a : Nat, a < H.size → ¬ gA κ a → H1[a]? = H[a]?) : gT κ U H1 := by
  obtain ⟨⟨a1, a2⟩, ⟨b1, b2⟩, ⟨c1, c2, c3⟩, d, f, g, g2⟩ := h
  exact ⟨⟨a1.kept hq, a2.kept hq⟩, ⟨b1.kept hq, b2.kept hq⟩, ⟨c1.kept hq, (hq _ (Array.getElem?_eq_some_iff.mp c2).1 c3).trans c2, c3⟩, fun i hi => ⟨(d i hi).1.kept hq, (d i hi).2.1.kept hq, (d i hi).2.2.1.kept hq, (d i hi).2.2.2.kept hq⟩, f.kept hq, g.kept hq, g2.kept hq⟩
theorem gN.warm {s U : State} (hW : s.WarmedH U.vm) (h : gN s) : gN U := by
  obtain ⟨⟨a1, a2, a3, a4⟩, ⟨b1, b2, b3, b4⟩, c1, c2, c3, c4⟩ := h
  exact ⟨⟨a1.warmM hW, a2.warmM hW, a3.warmM hW, a4.warmM hW⟩, ⟨b1.warmM hW, b2.warmM hW, b3.warmM hW, b4.warmM hW⟩, c1.moved hW.alike, c2.moved hW.alike, c3.moved hW.alike, c4.warmC hW⟩
theorem gN.same {u U : State} (hv : u.vm = U.vm) (h : gN u) : gN U := by
  have hA : u.vm.Alike U.vm := by rw [hv]; exact Vm.Alike.refl _
  obtain ⟨⟨a1, a2, a3, a4⟩, ⟨b1, b2, b3, b4⟩, c1, c2, c3, c4⟩ := h
  exact ⟨⟨a1.same rfl hv, a2.same rfl hv, a3.same rfl hv, a4.same rfl hv⟩, ⟨b1.same rfl hv, b2.same rfl hv, b3.same rfl hv, b4.same rfl hv⟩, c1.moved hA, c2.moved hA, c3.moved hA, c4.same rfl hv⟩
/-- the world: n cells from κ 0 on -/
def gL (κ : Nat → Nat) (n : Nat) (w : gWd) : va_W := (List.range n).map (fun a => (κ 0 + a, w a))
def gW (κ : Nat → Nat) (n : Nat) (w : gWd) (H : Heap) : Prop := va_P (gD κ) vwCl (gL κ n w) H ∧ H.size = κ 0 + n
theorem gL_at {κ : Nat → Nat} {n a : Nat} {w : gWd} (h : a < n) : (gL κ n w)[a]? = some (κ 0 + a, w a) := by
  unfold gL
  rw [List.getElem?_map, List.getElem?_range h]
  rfl
theorem gL_D {κ : Nat → Nat} {n : Nat} {w : gWd} : va_D (gA κ) (gL κ n w) := by
  have key : ∀ (i : Nat) (p : Nat × va_E), (gL κ n w)[i]? = some p → p.1 = κ 0 + i := by
    intro i p h
    unfold gL at h
    rw [List.getElem?_map] at h
    by_cases hi : i < n
    · rw [List.getElem?_range hi] at h
      cases h
      rfl
    · rw [List.getElem?_eq_none (by rw [List.length_range]; omega)] at h
      cases h
  refine ⟨fun i j p q hi hj e => ?_, fun k q h => ?_⟩
  · have := key i p hi
    have := key j q hj
    omega
  · have := key k q h
    show κ 0 ≤ q.1
    omega
theorem gL_set {κ : Nat → Nat} {n a : Nat} {w : gWd} {e : va_E} (h : a < n) : (gL κ n w).set a (κ 0 + a, e) = gL κ n (va_up w a e) := by
  apply List.ext_getElem?
  intro i
  have hlen : (gL κ n w).length = n := by simp [gL]
  by_cases hi : i = a
  · subst hi
    rw [List.getElem?_set_self (by rw [hlen]; exact h), gL_at h]
    simp [va_up]
  · rw [List.getElem?_set_ne (Ne.symm hi)]
    by_cases hn : i < n
    · rw [gL_at hn, gL_at hn]
      simp [va_up, hi]
    · rw [List.getElem?_eq_none (by rw [hlen]; omega), List.getElem?_eq_none (by simp [gL]; omega)]
theorem gL_push {κ : Nat → Nat} {n : Nat} {w : gWd} {e : va_E} : gL κ n w ++ [(κ 0 + n, e)] = gL κ (n + 1) (va_up w n e) := by
  unfold gL
  rw [List.range_succ, List.map_append]
  congr 1
  · apply List.map_congr_left
    intro a ha
    have := List.mem_range.mp ha
    simp [va_up, show a ≠ n by omega]
  · simp [va_up]
/-- what holds of a frame of ours, all the time -/
def gX (κ : Nat → Nat) (d : Nat) (mi : gMI) (p : Program) (R : Room) (s : State) (m : MethodId) (args : Array Value) (meth : Method) (c : Code) : Prop :=
  p.tables.exec = Jvm.exec ∧ c.code = mi.2.1 ∧ c.maxLocals = mi.2.2.1 ∧ s.vm.findClass mi.1 = some m.cls ∧ (∀ w ∈ lw_g, w.before args s = true) ∧ va_K (gD κ) vwCl (gTy κ) s ∧ gT κ s s.heap ∧ gN s ∧ κ 0 ≤ s.heap.size ∧ (d ≤ R.frames ∧ 100 * d ≤ R.locals) ∧ meth.name = mi.2.2.2.1
def gRet (mi : gMI) (pc : Nat) (v : Option Value) : Prop := match v with
  | none => decode mi.2.1 pc = .ok (.return_, 1) ∧ mi.2.2.2.2 = none
  | some (.int x) => decode mi.2.1 pc = .ok (.ireturn, 1) ∧ ∃ ty, mi.2.2.2.2 = some ty ∧ narrow ty (.int x) = .int x
  | some (.long _) => decode mi.2.1 pc = .ok (.lreturn, 1) ∧ mi.2.2.2.2 = some .long
  | some .null => decode mi.2.1 pc = .ok (.areturn, 1) ∧ ∃ rt, mi.2.2.2.2 = some rt ∧ ((∃ n, rt = .object n) ∨ ∃ t, rt = .array t)
  | some (.ref _) => decode mi.2.1 pc = .ok (.areturn, 1) ∧ ∃ rt, mi.2.2.2.2 = some rt ∧ ((∃ n, rt = .object n) ∨ ∃ t, rt = .array t)
  | _ => False
/-- the method's end, as the caller of G has it -/
def gE (κ : Nat → Nat) (mi : gMI) (Q : gQ) (p : Program) (l : Launch) (e : Env) (R : Room) (s : State) (m : MethodId) (args : Array Value) (below : List Frame) (meth : Method) (c : Code) (mc ms : Nat) (Z : State → Prop) : Prop :=
  ∀ (H' : Heap) (locs' : List Loc) (cells' slots' pc' : Nat) (ls' : Array Slot) (v : Option Value) (n' : Nat) (w' : gWd), gW κ n' w' H' → va_S (gA κ) s.heap H' locs' → cells' ≤ mc → slots' ≤ ms → Q v n' w' → gRet mi pc' v → W p l e R s m args below meth c H' locs' cells' slots' Z (F0 m pc' ls' v.toList)
def G (κ : Nat → Nat) (d : Nat) (mi : gMI) (pc : Nat) (lv : List (Nat × Value)) (st : List Value) (n : Nat) (w : gWd) (cr sr : Nat) (Q : gQ) : Prop :=
  ∀ (p : Program) (l : Launch) (e : Env) (R : Room) (s : State) (m : MethodId) (args : Array Value) (below : List Frame) (meth : Method) (c : Code) (H : Heap) (locs : List Loc) (cells slots mc ms : Nat) (Z : State → Prop) (ls : Array Slot),
    gX κ d mi p R s m args meth c → lv_has ls mi.2.2.1 lv → gW κ n w H → va_S (gA κ) s.heap H locs → cells + cr ≤ mc → slots + sr ≤ ms → mc ≤ R.cells → ms ≤ R.slots → gE κ mi Q p l e R s m args below meth c mc ms Z →
    W p l e R s m args below meth c H locs cells slots Z (F0 m pc ls st)
/-- a method's contract -/
def gWs (y : MethodName) (mi : gMI) : List Cond := Cond.code y mi.2.1 mi.2.2.1 mi.2.2.2.2 :: lw_g
def gRm (d mc ms : Nat) : Room := { frames := d, cells := mc, slots := ms, locals := 100 * d }
def gPc (κ : Nat → Nat) (av : List Value) (n : Nat) (w : gWd) : Array Value → State → Prop := va_Pc av (fun U => gW κ n w U.heap ∧ va_K (gD κ) vwCl (gTy κ) U ∧ gT κ U U.heap ∧ gN U)
def gQc (κ : Nat → Nat) (Q : gQ) : Array Value → State → Outcome → State → Prop := fun _ st oc t => (∃ (v : Option Value) (n' : Nat) (w' : gWd), oc = .returned v ∧ Q v n' w' ∧ gW κ n' w' t.heap) ∧ va_F (gA κ) st t
def CT (κ : Nat → Nat) (d : Nat) (y : MethodName) (mi : gMI) (av : List Value) (n : Nat) (w : gWd) (mc ms : Nat) (Q : gQ) : Prop :=
  ∀ l : Launch, Met l y (gWs y mi) (gRm d mc ms) (gPc κ av n w) (gQc κ Q) mc ms (gA κ)
set_option maxHeartbeats 1000000 in
theorem CT.of {κ : Nat → Nat} {d : Nat} {y : MethodName} {mi : gMI} {av : List Value} {n : Nat} {w : gWd} {mc ms : Nat} {Q : gQ} (hy : plainName y.cls = true) (hc : y.cls = mi.1) (hnm : y.name = mi.2.2.2.1) (hl : (lg_sl av).length ≤ mi.2.2.1)
    (h : G κ d mi 0 (lv_args 0 av) [] n w mc ms Q) : CT κ d y mi av n w mc ms Q := by
  intro l
  refine Met.ofW (cc := mi.2.1) (maxL := mi.2.2.1) (ret := mi.2.2.2.2) hy rfl ?_
  intro p e s m args below meth c s₁ B hml hv
  obtain ⟨rfl, hw, hK, hT, hN⟩ := hv
  have hts := atoms_spec (ws := gWs y mi) B.pre
  have hown : s.vm.findClass mi.1 = some m.cls := by rw [← hc]; exact findClass_of_methodNamed B.named
  have hlocks := B.notSynchronized
  have hr := B.returns
  have hnm2 : meth.name = mi.2.2.2.1 := by rw [← hnm]; exact (name_of_methodNamed B.named B.method).1
  have hl1 := lv_entry av (n := mi.2.2.1) hl
  rw [lg_entry_eq]
  refine h p l e (gRm d mc ms) s m _ below meth c s.heap [] 0 0 mc ms _ _ ⟨B.exec, B.bytes, hml, hown, fun w hw => hts w (List.mem_cons_of_mem _ hw), hK, hT, hN, by rw [hw.2]; omega, ⟨Nat.le_refl _, Nat.le_refl _⟩, hnm2⟩ hl1 hw va_S.rf (by omega) (by omega) (Nat.le_refl _) (Nat.le_refl _) ?_
  intro H' locs' cells' slots' pc' ls' v n' w' hw' hS' hc' hs' hq hret
  refine W.widen (k := mc) (n := ms) hc' hs' ?_
  have hqc : ∀ t : State, t.heap = H' → s.WarmedH t.vm → gQc κ Q av.toArray s (.returned v) t := fun t ht _ => ⟨⟨v, n', w', rfl, hq, by rw [ht]; exact hw'⟩, hS'.F ht⟩
  match v, hret with
  | none, hret => exact W.vret B.exec B.bytes (by rw [hr]; exact hret.2) hqc hS'.2.2 hret.1
  | some (.int x), hret =>
    obtain ⟨h1, ty, h2, h3⟩ := hret
    exact W.zret B.exec B.bytes (by rw [hr]; exact h2) h3 hqc hS'.2.2 h1
  | some (.long x), hret => exact W.lret B.exec B.bytes (by rw [hr]; exact hret.2) hqc hS'.2.2 hret.1
  | some .null, hret =>
    obtain ⟨h1, rt, h2, h3⟩ := hret
    exact W.aret B.exec B.bytes (by rw [hr]; exact h2) h3 (Or.inl rfl) hqc hS'.2.2 h1
  | some (.ref a), hret =>
    obtain ⟨h1, rt, h2, h3⟩ := hret
    exact W.aret B.exec B.bytes (by rw [hr]; exact h2) h3 (Or.inr ⟨a, rfl⟩) hqc hS'.2.2 h1
end
section
def gGet : List (Nat × Value) → Nat → Option Value
  | [], _ => none
  | (j, u) :: l, i => if j = i then some u else gGet l i
theorem gGet_mem {i : Nat} {v : Value} : ∀ {lv : List (Nat × Value)}, gGet lv i = some v → (i, v) ∈ lv
  | [], h => by cases h
  | (j, u) :: l, h => by
    unfold gGet at h
    by_cases hj : j = i
    · rw [if_pos hj] at h
      cases h
      subst hj
      exact List.mem_cons_self
    · rw [if_neg hj] at h
      exact List.mem_cons_of_mem _ (gGet_mem h)
def gIns : List (Nat × Value) → Nat → Value → List (Nat × Value)
  | [], i, v => [(i, v)]
  | (j, u) :: l, i, v => if j < i then (j, u) :: gIns l i v else if j = i then (i, v) :: l else (i, v) :: (j, u) :: l
theorem gIns_mem {i : Nat} {v : Value} {q : Nat × Value} : ∀ {l : List (Nat × Value)}, q ∈ gIns l i v → q = (i, v) ∨ q ∈ l
  | [], h => Or.inl (List.mem_singleton.mp h)
  | (j, u) :: l, h => by
    unfold gIns at h
    split at h
    · rcases List.mem_cons.mp h with h | h
      · exact Or.inr (by rw [h]; exact List.mem_cons_self)
      · rcases gIns_mem h with h | h
        · exact Or.inl h
        · exact Or.inr (List.mem_cons_of_mem _ h)
    · split at h
      · rcases List.mem_cons.mp h with h | h
        · exact Or.inl h
        · exact Or.inr (List.mem_cons_of_mem _ h)
      · rcases List.mem_cons.mp h with h | h
        · exact Or.inl h
        · exact Or.inr h
/-- the locals behind a store at i: of one word, of two -/
def gPut (lv : List (Nat × Value)) (i : Nat) (v : Value) : List (Nat × Value) := gIns (lv.filter (fun q => !(q.1 == i) && !(q.1 + 1 == i && q.2.category == 2))) i v
def gPut2 (lv : List (Nat × Value)) (i : Nat) (v : Value) : List (Nat × Value) := gIns (lv.filter (fun q => !(q.1 == i) && (!(q.1 == i + 1) && !(q.1 + 1 == i && q.2.category == 2)))) i v
theorem lv_has.le {ls : Array Slot} {nL : Nat} {l l' : List (Nat × Value)} (h : lv_has ls nL l) (hs : ∀ q ∈ l', q ∈ l) : lv_has ls nL l' := ⟨h.1, h.2.1, fun q hq => h.2.2 q (hs q hq)⟩
theorem gPut_le {lv : List (Nat × Value)} {i : Nat} {v : Value} : ∀ q ∈ gPut lv i v, q ∈ (i, v) :: lv.filter (fun q => !(q.1 == i) && !(q.1 + 1 == i && q.2.category == 2)) := fun _ h => (gIns_mem h).elim (fun z => by rw [z]; exact List.mem_cons_self) (fun z => List.mem_cons_of_mem _ z)
theorem gPut2_le {lv : List (Nat × Value)} {i : Nat} {v : Value} : ∀ q ∈ gPut2 lv i v, q ∈ (i, v) :: lv.filter (fun q => !(q.1 == i) && (!(q.1 == i + 1) && !(q.1 + 1 == i && q.2.category == 2))) := fun _ h => (gIns_mem h).elim (fun z => by rw [z]; exact List.mem_cons_self) (fun z => List.mem_cons_of_mem _ z)
section GR
variable {κ : Nat → Nat} {d : Nat} {mi : gMI} {pc : Nat} {lv : List (Nat × Value)} {st : List Value} {n : Nat} {w : gWd} {cr sr : Nat} {Q : gQ}
/-- the same locals, in another order, or fewer -/
theorem g_lv {lv' : List (Nat × Value)} (h : lv'.map (fun q => gGet lv q.1) = lv'.map (fun q => some q.2)) (k : G κ d mi pc lv' st n w cr sr Q) : G κ d mi pc lv st n w cr sr Q := by
  intro p l e R s m args below meth c H locs cells slots mc ms Z ls hX hl hw hS h1 h2 h3 h4 hE
  refine k p l e R s m args below meth c H locs cells slots mc ms Z ls hX (hl.le fun q hq => ?_) hw hS h1 h2 h3 h4 hE
  obtain ⟨i, hi⟩ := List.getElem?_of_mem hq
  have := congrArg (fun l : List (Option Value) => l[i]?) h
  simp only [List.getElem?_map, hi, Option.map_some] at this
  exact gGet_mem (Option.some.inj this)
theorem g_to {Q' : gQ} (h : ∀ v n' w', Q' v n' w' → Q v n' w') (k : G κ d mi pc lv st n w cr sr Q') : G κ d mi pc lv st n w cr sr Q := by
  intro p l e R s m args below meth c H locs cells slots mc ms Z ls hX hl hw hS h1 h2 h3 h4 hE
  exact k p l e R s m args below meth c H locs cells slots mc ms Z ls hX hl hw hS h1 h2 h3 h4 (fun H' locs' cells' slots' pc' ls' v n' w' a1 a2 a3 a4 a5 a6 => hE H' locs' cells' slots' pc' ls' v n' w' a1 a2 a3 a4 (h v n' w' a5) a6)
theorem g_iconst {n0 : Int} {v : Int32} (hd : decode mi.2.1 pc = .ok (.iconst n0, 1)) (hv : Int32.ofInt n0 = v) (k : G κ d mi (pc + 1) lv (.int v :: st) n w cr sr Q) : G κ d mi pc lv (st) n w cr sr Q := by
  intro p l e R s m args below meth c H locs cells slots mc ms Z ls hX hl hw hS h1 h2 h3 h4 hE
  exact lv_iconst hX.1 hX.2.1 hd hv (k p l e R s m args below meth c H locs cells slots mc ms Z ls hX hl hw hS h1 h2 h3 h4 hE)
theorem g_bipush {n0 : Int} {v : Int32} (hd : decode mi.2.1 pc = .ok (.bipush n0, 2)) (hv : (Int8.ofInt n0).toInt32 = v) (k : G κ d mi (pc + 2) lv (.int v :: st) n w cr sr Q) : G κ d mi pc lv (st) n w cr sr Q := by
  intro p l e R s m args below meth c H locs cells slots mc ms Z ls hX hl hw hS h1 h2 h3 h4 hE
  exact lv_bipush hX.1 hX.2.1 hd hv (k p l e R s m args below meth c H locs cells slots mc ms Z ls hX hl hw hS h1 h2 h3 h4 hE)
theorem g_sipush {n0 : Int} {v : Int32} (hd : decode mi.2.1 pc = .ok (.sipush n0, 3)) (hv : (Int16.ofInt n0).toInt32 = v) (k : G κ d mi (pc + 3) lv (.int v :: st) n w cr sr Q) : G κ d mi pc lv (st) n w cr sr Q := by
  intro p l e R s m args below meth c H locs cells slots mc ms Z ls hX hl hw hS h1 h2 h3 h4 hE
  exact lv_sipush hX.1 hX.2.1 hd hv (k p l e R s m args below meth c H locs cells slots mc ms Z ls hX hl hw hS h1 h2 h3 h4 hE)
theorem g_lconst {n0 : Fin 2} {v : Int64} (hd : decode mi.2.1 pc = .ok (.lconst n0, 1)) (hv : Int64.ofNat (n0 : Nat) = v) (k : G κ d mi (pc + 1) lv (.long v :: st) n w cr sr Q) : G κ d mi pc lv (st) n w cr sr Q := by
  intro p l e R s m args below meth c H locs cells slots mc ms Z ls hX hl hw hS h1 h2 h3 h4 hE
  exact lv_lconst hX.1 hX.2.1 hd hv (k p l e R s m args below meth c H locs cells slots mc ms Z ls hX hl hw hS h1 h2 h3 h4 hE)
theorem g_null (hd : decode mi.2.1 pc = .ok (.aconst_null, 1)) (k : G κ d mi (pc + 1) lv (.null :: st) n w cr sr Q) : G κ d mi pc lv (st) n w cr sr Q := by
  intro p l e R s m args below meth c H locs cells slots mc ms Z ls hX hl hw hS h1 h2 h3 h4 hE
  exact lv_null hX.1 hX.2.1 hd (k p l e R s m args below meth c H locs cells slots mc ms Z ls hX hl hw hS h1 h2 h3 h4 hE)
theorem g_iload_n {j : Fin 4} {i : Nat} {x : Int32} (hd : decode mi.2.1 pc = .ok (.iload_n j, 1)) (hj : (j : Nat) = i) (hg : gGet lv i = some (.int x)) (k : G κ d mi (pc + 1) lv (.int x :: st) n w cr sr Q) : G κ d mi pc lv (st) n w cr sr Q := by
  intro p l e R s m args below meth c H locs cells slots mc ms Z ls hX hl hw hS h1 h2 h3 h4 hE
  exact lv_iload_n hX.1 hX.2.1 hd hj (hl.2.2 _ (gGet_mem hg)) (k p l e R s m args below meth c H locs cells slots mc ms Z ls hX hl hw hS h1 h2 h3 h4 hE)
theorem g_iload {i : Nat} {x : Int32} (hd : decode mi.2.1 pc = .ok (.iload i, 2)) (hg : gGet lv i = some (.int x)) (k : G κ d mi (pc + 2) lv (.int x :: st) n w cr sr Q) : G κ d mi pc lv (st) n w cr sr Q := by
  intro p l e R s m args below meth c H locs cells slots mc ms Z ls hX hl hw hS h1 h2 h3 h4 hE
  exact lv_iload hX.1 hX.2.1 hd (hl.2.2 _ (gGet_mem hg)) (k p l e R s m args below meth c H locs cells slots mc ms Z ls hX hl hw hS h1 h2 h3 h4 hE)
theorem g_istore_n {j : Fin 4} {i : Nat} {x : Int32} (lv' : Int32 → List (Nat × Value)) (hd : decode mi.2.1 pc = .ok (.istore_n j, 1)) (hj : (j : Nat) = i) (hn : i < mi.2.2.1) (hl' : ∀ y, gPut lv i (.int y) = lv' y) (k : ∀ y : Int32, y = x → G κ d mi (pc + 1) (lv' y) st n w cr sr Q) : G κ d mi pc lv (.int x :: st) n w cr sr Q := by
  intro p l e R s m args below meth c H locs cells slots mc ms Z ls hX hl hw hS h1 h2 h3 h4 hE
  refine lv_istore_n hX.1 hX.2.1 hd hj hl hn rfl (fun ls2 hl2 => k x rfl p l e R s m args below meth c H locs cells slots mc ms Z ls2 hX (hl2.le ?_) hw hS h1 h2 h3 h4 hE)
  rw [← hl' x]
  exact gPut_le
theorem g_istore {i : Nat} {x : Int32} (lv' : Int32 → List (Nat × Value)) (hd : decode mi.2.1 pc = .ok (.istore i, 2)) (hn : i < mi.2.2.1) (hl' : ∀ y, gPut lv i (.int y) = lv' y) (k : ∀ y : Int32, y = x → G κ d mi (pc + 2) (lv' y) st n w cr sr Q) : G κ d mi pc lv (.int x :: st) n w cr sr Q := by
  intro p l e R s m args below meth c H locs cells slots mc ms Z ls hX hl hw hS h1 h2 h3 h4 hE
  refine lv_istore hX.1 hX.2.1 hd hl hn rfl (fun ls2 hl2 => k x rfl p l e R s m args below meth c H locs cells slots mc ms Z ls2 hX (hl2.le ?_) hw hS h1 h2 h3 h4 hE)
  rw [← hl' x]
  exact gPut_le
theorem g_lload_n {j : Fin 4} {i : Nat} {x : Int64} (hd : decode mi.2.1 pc = .ok (.lload_n j, 1)) (hj : (j : Nat) = i) (hg : gGet lv i = some (.long x)) (k : G κ d mi (pc + 1) lv (.long x :: st) n w cr sr Q) : G κ d mi pc lv (st) n w cr sr Q := by
  intro p l e R s m args below meth c H locs cells slots mc ms Z ls hX hl hw hS h1 h2 h3 h4 hE
  exact lv_lload_n hX.1 hX.2.1 hd hj (hl.2.2 _ (gGet_mem hg)) (k p l e R s m args below meth c H locs cells slots mc ms Z ls hX hl hw hS h1 h2 h3 h4 hE)
theorem g_lload {i : Nat} {x : Int64} (hd : decode mi.2.1 pc = .ok (.lload i, 2)) (hg : gGet lv i = some (.long x)) (k : G κ d mi (pc + 2) lv (.long x :: st) n w cr sr Q) : G κ d mi pc lv (st) n w cr sr Q := by
  intro p l e R s m args below meth c H locs cells slots mc ms Z ls hX hl hw hS h1 h2 h3 h4 hE
  exact lv_lload hX.1 hX.2.1 hd (hl.2.2 _ (gGet_mem hg)) (k p l e R s m args below meth c H locs cells slots mc ms Z ls hX hl hw hS h1 h2 h3 h4 hE)
theorem g_lstore_n {j : Fin 4} {i : Nat} {x : Int64} (lv' : Int64 → List (Nat × Value)) (hd : decode mi.2.1 pc = .ok (.lstore_n j, 1)) (hj : (j : Nat) = i) (hn : i + 1 < mi.2.2.1) (hl' : ∀ y, gPut2 lv i (.long y) = lv' y) (k : ∀ y : Int64, y = x → G κ d mi (pc + 1) (lv' y) st n w cr sr Q) : G κ d mi pc lv (.long x :: st) n w cr sr Q := by
  intro p l e R s m args below meth c H locs cells slots mc ms Z ls hX hl hw hS h1 h2 h3 h4 hE
  refine lv_lstore_n hX.1 hX.2.1 hd hj hl hn rfl (fun ls2 hl2 => k x rfl p l e R s m args below meth c H locs cells slots mc ms Z ls2 hX (hl2.le ?_) hw hS h1 h2 h3 h4 hE)
  rw [← hl' x]
  exact gPut2_le
theorem g_lstore {i : Nat} {x : Int64} (lv' : Int64 → List (Nat × Value)) (hd : decode mi.2.1 pc = .ok (.lstore i, 2)) (hn : i + 1 < mi.2.2.1) (hl' : ∀ y, gPut2 lv i (.long y) = lv' y) (k : ∀ y : Int64, y = x → G κ d mi (pc + 2) (lv' y) st n w cr sr Q) : G κ d mi pc lv (.long x :: st) n w cr sr Q := by
  intro p l e R s m args below meth c H locs cells slots mc ms Z ls hX hl hw hS h1 h2 h3 h4 hE
  refine lv_lstore hX.1 hX.2.1 hd hl hn rfl (fun ls2 hl2 => k x rfl p l e R s m args below meth c H locs cells slots mc ms Z ls2 hX (hl2.le ?_) hw hS h1 h2 h3 h4 hE)
  rw [← hl' x]
  exact gPut2_le
theorem g_aload_n {j : Fin 4} {i : Nat} {x : Nat} (hd : decode mi.2.1 pc = .ok (.aload_n j, 1)) (hj : (j : Nat) = i) (hg : gGet lv i = some (.ref x)) (k : G κ d mi (pc + 1) lv (.ref x :: st) n w cr sr Q) : G κ d mi pc lv (st) n w cr sr Q := by
  intro p l e R s m args below meth c H locs cells slots mc ms Z ls hX hl hw hS h1 h2 h3 h4 hE
  exact lv_aload_n hX.1 hX.2.1 hd hj (hl.2.2 _ (gGet_mem hg)) (k p l e R s m args below meth c H locs cells slots mc ms Z ls hX hl hw hS h1 h2 h3 h4 hE)
theorem g_aload {i : Nat} {x : Nat} (hd : decode mi.2.1 pc = .ok (.aload i, 2)) (hg : gGet lv i = some (.ref x)) (k : G κ d mi (pc + 2) lv (.ref x :: st) n w cr sr Q) : G κ d mi pc lv (st) n w cr sr Q := by
  intro p l e R s m args below meth c H locs cells slots mc ms Z ls hX hl hw hS h1 h2 h3 h4 hE
  exact lv_aload hX.1 hX.2.1 hd (hl.2.2 _ (gGet_mem hg)) (k p l e R s m args below meth c H locs cells slots mc ms Z ls hX hl hw hS h1 h2 h3 h4 hE)
theorem g_astore_n {j : Fin 4} {i : Nat} {x : Nat} (lv' : Nat → List (Nat × Value)) (hd : decode mi.2.1 pc = .ok (.astore_n j, 1)) (hj : (j : Nat) = i) (hn : i < mi.2.2.1) (hl' : ∀ y, gPut lv i (.ref y) = lv' y) (k : ∀ y : Nat, y = x → G κ d mi (pc + 1) (lv' y) st n w cr sr Q) : G κ d mi pc lv (.ref x :: st) n w cr sr Q := by
  intro p l e R s m args below meth c H locs cells slots mc ms Z ls hX hl hw hS h1 h2 h3 h4 hE
  refine lv_astore_n hX.1 hX.2.1 hd hj hl hn rfl (fun ls2 hl2 => k x rfl p l e R s m args below meth c H locs cells slots mc ms Z ls2 hX (hl2.le ?_) hw hS h1 h2 h3 h4 hE)
  rw [← hl' x]
  exact gPut_le
theorem g_astore {i : Nat} {x : Nat} (lv' : Nat → List (Nat × Value)) (hd : decode mi.2.1 pc = .ok (.astore i, 2)) (hn : i < mi.2.2.1) (hl' : ∀ y, gPut lv i (.ref y) = lv' y) (k : ∀ y : Nat, y = x → G κ d mi (pc + 2) (lv' y) st n w cr sr Q) : G κ d mi pc lv (.ref x :: st) n w cr sr Q := by
  intro p l e R s m args below meth c H locs cells slots mc ms Z ls hX hl hw hS h1 h2 h3 h4 hE
  refine lv_astore hX.1 hX.2.1 hd hl hn rfl (fun ls2 hl2 => k x rfl p l e R s m args below meth c H locs cells slots mc ms Z ls2 hX (hl2.le ?_) hw hS h1 h2 h3 h4 hE)
  rw [← hl' x]
  exact gPut_le
theorem g_iinc {i : Nat} {n0 : Int} {x : Int32} (lv' : Int32 → List (Nat × Value)) (hd : decode mi.2.1 pc = .ok (.iinc i n0, 3)) (hg : gGet lv i = some (.int x)) (hn : i < mi.2.2.1) (hl' : ∀ y, gPut lv i (.int y) = lv' y) (k : ∀ y : Int32, y = x + Int32.ofInt n0 → G κ d mi (pc + 3) (lv' y) st n w cr sr Q) : G κ d mi pc lv st n w cr sr Q := by
  intro p l e R s m args below meth c H locs cells slots mc ms Z ls hX hl hw hS h1 h2 h3 h4 hE
  obtain ⟨q, hq⟩ := List.getElem?_of_mem (gGet_mem hg)
  refine lv_iinc (v := x + Int32.ofInt n0) hX.1 hX.2.1 hd hl hq rfl hn rfl (fun ls2 hl2 => k _ rfl p l e R s m args below meth c H locs cells slots mc ms Z ls2 hX (hl2.le ?_) hw hS h1 h2 h3 h4 hE)
  rw [← hl' _]
  exact gPut_le
theorem g_iadd {x y : Int32} (hd : decode mi.2.1 pc = .ok (.iadd, 1)) (k : G κ d mi (pc + 1) lv (.int (x + y) :: st) n w cr sr Q) : G κ d mi pc lv (.int y :: .int x :: st) n w cr sr Q := by
  intro p l e R s m args below meth c H locs cells slots mc ms Z ls hX hl hw hS h1 h2 h3 h4 hE
  exact lv_iadd hX.1 hX.2.1 hd (k p l e R s m args below meth c H locs cells slots mc ms Z ls hX hl hw hS h1 h2 h3 h4 hE)
theorem g_isub {x y : Int32} (hd : decode mi.2.1 pc = .ok (.isub, 1)) (k : G κ d mi (pc + 1) lv (.int (x - y) :: st) n w cr sr Q) : G κ d mi pc lv (.int y :: .int x :: st) n w cr sr Q := by
  intro p l e R s m args below meth c H locs cells slots mc ms Z ls hX hl hw hS h1 h2 h3 h4 hE
  exact lv_isub hX.1 hX.2.1 hd (k p l e R s m args below meth c H locs cells slots mc ms Z ls hX hl hw hS h1 h2 h3 h4 hE)
theorem g_imul {x y : Int32} (hd : decode mi.2.1 pc = .ok (.imul, 1)) (k : G κ d mi (pc + 1) lv (.int (x * y) :: st) n w cr sr Q) : G κ d mi pc lv (.int y :: .int x :: st) n w cr sr Q := by
  intro p l e R s m args below meth c H locs cells slots mc ms Z ls hX hl hw hS h1 h2 h3 h4 hE
  exact lv_imul hX.1 hX.2.1 hd (k p l e R s m args below meth c H locs cells slots mc ms Z ls hX hl hw hS h1 h2 h3 h4 hE)
theorem g_iand {x y : Int32} (hd : decode mi.2.1 pc = .ok (.iand, 1)) (k : G κ d mi (pc + 1) lv (.int (x &&& y) :: st) n w cr sr Q) : G κ d mi pc lv (.int y :: .int x :: st) n w cr sr Q := by
  intro p l e R s m args below meth c H locs cells slots mc ms Z ls hX hl hw hS h1 h2 h3 h4 hE
  exact lv_iand hX.1 hX.2.1 hd (k p l e R s m args below meth c H locs cells slots mc ms Z ls hX hl hw hS h1 h2 h3 h4 hE)
theorem g_ior {x y : Int32} (hd : decode mi.2.1 pc = .ok (.ior, 1)) (k : G κ d mi (pc + 1) lv (.int (x ||| y) :: st) n w cr sr Q) : G κ d mi pc lv (.int y :: .int x :: st) n w cr sr Q := by
  intro p l e R s m args below meth c H locs cells slots mc ms Z ls hX hl hw hS h1 h2 h3 h4 hE
  exact lv_ior hX.1 hX.2.1 hd (k p l e R s m args below meth c H locs cells slots mc ms Z ls hX hl hw hS h1 h2 h3 h4 hE)
theorem g_ixor {x y : Int32} (hd : decode mi.2.1 pc = .ok (.ixor, 1)) (k : G κ d mi (pc + 1) lv (.int (x ^^^ y) :: st) n w cr sr Q) : G κ d mi pc lv (.int y :: .int x :: st) n w cr sr Q := by
  intro p l e R s m args below meth c H locs cells slots mc ms Z ls hX hl hw hS h1 h2 h3 h4 hE
  exact lv_ixor hX.1 hX.2.1 hd (k p l e R s m args below meth c H locs cells slots mc ms Z ls hX hl hw hS h1 h2 h3 h4 hE)
theorem g_ishl {x y : Int32} (hd : decode mi.2.1 pc = .ok (.ishl, 1)) (k : G κ d mi (pc + 1) lv (.int (x <<< (y &&& 31)) :: st) n w cr sr Q) : G κ d mi pc lv (.int y :: .int x :: st) n w cr sr Q := by
  intro p l e R s m args below meth c H locs cells slots mc ms Z ls hX hl hw hS h1 h2 h3 h4 hE
  exact lv_ishl hX.1 hX.2.1 hd (k p l e R s m args below meth c H locs cells slots mc ms Z ls hX hl hw hS h1 h2 h3 h4 hE)
theorem g_ishr {x y : Int32} (hd : decode mi.2.1 pc = .ok (.ishr, 1)) (k : G κ d mi (pc + 1) lv (.int (x >>> (y &&& 31)) :: st) n w cr sr Q) : G κ d mi pc lv (.int y :: .int x :: st) n w cr sr Q := by
  intro p l e R s m args below meth c H locs cells slots mc ms Z ls hX hl hw hS h1 h2 h3 h4 hE
  exact lv_ishr hX.1 hX.2.1 hd (k p l e R s m args below meth c H locs cells slots mc ms Z ls hX hl hw hS h1 h2 h3 h4 hE)
theorem g_idiv {x y : Int32} (hd : decode mi.2.1 pc = .ok (.idiv, 1)) (hne : ¬ y = 0) (k : G κ d mi (pc + 1) lv (.int (x / y) :: st) n w cr sr Q) : G κ d mi pc lv (.int y :: .int x :: st) n w cr sr Q := by
  intro p l e R s m args below meth c H locs cells slots mc ms Z ls hX hl hw hS h1 h2 h3 h4 hE
  exact lv_idiv hX.1 hX.2.1 hd hne (k p l e R s m args below meth c H locs cells slots mc ms Z ls hX hl hw hS h1 h2 h3 h4 hE)
theorem g_irem {x y : Int32} (hd : decode mi.2.1 pc = .ok (.irem, 1)) (hne : ¬ y = 0) (k : G κ d mi (pc + 1) lv (.int (x - x / y * y) :: st) n w cr sr Q) : G κ d mi pc lv (.int y :: .int x :: st) n w cr sr Q := by
  intro p l e R s m args below meth c H locs cells slots mc ms Z ls hX hl hw hS h1 h2 h3 h4 hE
  exact lv_irem hX.1 hX.2.1 hd hne (k p l e R s m args below meth c H locs cells slots mc ms Z ls hX hl hw hS h1 h2 h3 h4 hE)
theorem g_ladd {x y : Int64} (hd : decode mi.2.1 pc = .ok (.ladd, 1)) (k : G κ d mi (pc + 1) lv (.long (x + y) :: st) n w cr sr Q) : G κ d mi pc lv (.long y :: .long x :: st) n w cr sr Q := by
  intro p l e R s m args below meth c H locs cells slots mc ms Z ls hX hl hw hS h1 h2 h3 h4 hE
  exact lv_ladd hX.1 hX.2.1 hd (k p l e R s m args below meth c H locs cells slots mc ms Z ls hX hl hw hS h1 h2 h3 h4 hE)
theorem g_lsub {x y : Int64} (hd : decode mi.2.1 pc = .ok (.lsub, 1)) (k : G κ d mi (pc + 1) lv (.long (x - y) :: st) n w cr sr Q) : G κ d mi pc lv (.long y :: .long x :: st) n w cr sr Q := by
  intro p l e R s m args below meth c H locs cells slots mc ms Z ls hX hl hw hS h1 h2 h3 h4 hE
  exact lv_lsub hX.1 hX.2.1 hd (k p l e R s m args below meth c H locs cells slots mc ms Z ls hX hl hw hS h1 h2 h3 h4 hE)
theorem g_lmul {x y : Int64} (hd : decode mi.2.1 pc = .ok (.lmul, 1)) (k : G κ d mi (pc + 1) lv (.long (x * y) :: st) n w cr sr Q) : G κ d mi pc lv (.long y :: .long x :: st) n w cr sr Q := by
  intro p l e R s m args below meth c H locs cells slots mc ms Z ls hX hl hw hS h1 h2 h3 h4 hE
  exact lv_lmul hX.1 hX.2.1 hd (k p l e R s m args below meth c H locs cells slots mc ms Z ls hX hl hw hS h1 h2 h3 h4 hE)
theorem g_lcmp {x y : Int64} (hd : decode mi.2.1 pc = .ok (.lcmp, 1)) (k : G κ d mi (pc + 1) lv (.int (lg_cmp x y) :: st) n w cr sr Q) : G κ d mi pc lv (.long y :: .long x :: st) n w cr sr Q := by
  intro p l e R s m args below meth c H locs cells slots mc ms Z ls hX hl hw hS h1 h2 h3 h4 hE
  exact W.lcmp hX.1 hX.2.1 hd (k p l e R s m args below meth c H locs cells slots mc ms Z ls hX hl hw hS h1 h2 h3 h4 hE)
theorem g_i2l {x : Int32} (hd : decode mi.2.1 pc = .ok (.i2l, 1)) (k : G κ d mi (pc + 1) lv (.long x.toInt64 :: st) n w cr sr Q) : G κ d mi pc lv (.int x :: st) n w cr sr Q := by
  intro p l e R s m args below meth c H locs cells slots mc ms Z ls hX hl hw hS h1 h2 h3 h4 hE
  exact lv_i2l hX.1 hX.2.1 hd rfl (k p l e R s m args below meth c H locs cells slots mc ms Z ls hX hl hw hS h1 h2 h3 h4 hE)
theorem g_i2c {x : Int32} (hd : decode mi.2.1 pc = .ok (.i2c, 1)) (k : G κ d mi (pc + 1) lv (.int (x.toUInt32 % 65536).toInt32 :: st) n w cr sr Q) : G κ d mi pc lv (.int x :: st) n w cr sr Q := by
  intro p l e R s m args below meth c H locs cells slots mc ms Z ls hX hl hw hS h1 h2 h3 h4 hE
  exact lv_i2c hX.1 hX.2.1 hd rfl (k p l e R s m args below meth c H locs cells slots mc ms Z ls hX hl hw hS h1 h2 h3 h4 hE)
theorem g_iushr {x y : Int32} (hd : decode mi.2.1 pc = .ok (.iushr, 1)) (k : G κ d mi (pc + 1) lv (.int (x.toUInt32 >>> (y.toUInt32 &&& Int32.toUInt32 31)).toInt32 :: st) n w cr sr Q) : G κ d mi pc lv (.int y :: .int x :: st) n w cr sr Q := by
  intro p l e R s m args below meth c H locs cells slots mc ms Z ls hX hl hw hS h1 h2 h3 h4 hE
  exact lv_iushr hX.1 hX.2.1 hd rfl (k p l e R s m args below meth c H locs cells slots mc ms Z ls hX hl hw hS h1 h2 h3 h4 hE)
theorem g_dup {u : Value} (hd : decode mi.2.1 pc = .ok (.dup, 1)) (hu : u.category = 1) (k : G κ d mi (pc + 1) lv (u :: u :: st) n w cr sr Q) : G κ d mi pc lv (u :: st) n w cr sr Q := by
  intro p l e R s m args below meth c H locs cells slots mc ms Z ls hX hl hw hS h1 h2 h3 h4 hE
  exact lv_dup hX.1 hX.2.1 hd hu (k p l e R s m args below meth c H locs cells slots mc ms Z ls hX hl hw hS h1 h2 h3 h4 hE)
theorem g_pop {u : Value} (hd : decode mi.2.1 pc = .ok (.pop, 1)) (hu : u.category = 1) (k : G κ d mi (pc + 1) lv (st) n w cr sr Q) : G κ d mi pc lv (u :: st) n w cr sr Q := by
  intro p l e R s m args below meth c H locs cells slots mc ms Z ls hX hl hw hS h1 h2 h3 h4 hE
  exact lv_pop hX.1 hX.2.1 hd hu (k p l e R s m args below meth c H locs cells slots mc ms Z ls hX hl hw hS h1 h2 h3 h4 hE)
theorem g_dup2 {u v : Value} (hd : decode mi.2.1 pc = .ok (.dup2, 1)) (hu : u.category = 1) (hv : v.category = 1) (k : G κ d mi (pc + 1) lv (u :: v :: u :: v :: st) n w cr sr Q) : G κ d mi pc lv (u :: v :: st) n w cr sr Q := by
  intro p l e R s m args below meth c H locs cells slots mc ms Z ls hX hl hw hS h1 h2 h3 h4 hE
  exact lv_dup2_11 hX.1 hX.2.1 hd hu hv (k p l e R s m args below meth c H locs cells slots mc ms Z ls hX hl hw hS h1 h2 h3 h4 hE)
theorem g_ni {x : Int32} (k : ∀ y : Int32, y = x → G κ d mi pc lv (.int y :: st) n w cr sr Q) : G κ d mi pc lv (.int x :: st) n w cr sr Q := k x rfl
theorem g_nl {x : Int64} (k : ∀ y : Int64, y = x → G κ d mi pc lv (.long y :: st) n w cr sr Q) : G κ d mi pc lv (.long x :: st) n w cr sr Q := k x rfl
theorem g_if_eq {x : Int32} {off : Int} (tgt : Nat) (hd : decode mi.2.1 pc = .ok (.ifCond .eq off, 3)) (ht : (pc : Int) + off = (tgt : Int)) (kt : x = 0 → G κ d mi tgt lv st n w cr sr Q) (kf : ¬ x = 0 → G κ d mi (pc + 3) lv st n w cr sr Q) : G κ d mi pc lv (.int x :: st) n w cr sr Q := by
  intro p l e R s m args below meth c H locs cells slots mc ms Z ls hX hl hw hS h1 h2 h3 h4 hE
  exact lv_if_eq hX.1 hX.2.1 hd ht (fun z => kt z p l e R s m args below meth c H locs cells slots mc ms Z ls hX hl hw hS h1 h2 h3 h4 hE) (fun z => kf z p l e R s m args below meth c H locs cells slots mc ms Z ls hX hl hw hS h1 h2 h3 h4 hE)
theorem g_icmp_eq {x y : Int32} {off : Int} (tgt : Nat) (hd : decode mi.2.1 pc = .ok (.if_icmp .eq off, 3)) (ht : (pc : Int) + off = (tgt : Int)) (kt : x = y → G κ d mi tgt lv st n w cr sr Q) (kf : ¬ x = y → G κ d mi (pc + 3) lv st n w cr sr Q) : G κ d mi pc lv (.int y :: .int x :: st) n w cr sr Q := by
  intro p l e R s m args below meth c H locs cells slots mc ms Z ls hX hl hw hS h1 h2 h3 h4 hE
  exact lv_icmp_eq hX.1 hX.2.1 hd ht (fun z => kt z p l e R s m args below meth c H locs cells slots mc ms Z ls hX hl hw hS h1 h2 h3 h4 hE) (fun z => kf z p l e R s m args below meth c H locs cells slots mc ms Z ls hX hl hw hS h1 h2 h3 h4 hE)
theorem g_if_lt {x : Int32} {off : Int} (tgt : Nat) (hd : decode mi.2.1 pc = .ok (.ifCond .lt off, 3)) (ht : (pc : Int) + off = (tgt : Int)) (kt : x < 0 → G κ d mi tgt lv st n w cr sr Q) (kf : ¬ x < 0 → G κ d mi (pc + 3) lv st n w cr sr Q) : G κ d mi pc lv (.int x :: st) n w cr sr Q := by
  intro p l e R s m args below meth c H locs cells slots mc ms Z ls hX hl hw hS h1 h2 h3 h4 hE
  exact lv_if_lt hX.1 hX.2.1 hd ht (fun z => kt z p l e R s m args below meth c H locs cells slots mc ms Z ls hX hl hw hS h1 h2 h3 h4 hE) (fun z => kf z p l e R s m args below meth c H locs cells slots mc ms Z ls hX hl hw hS h1 h2 h3 h4 hE)
theorem g_icmp_lt {x y : Int32} {off : Int} (tgt : Nat) (hd : decode mi.2.1 pc = .ok (.if_icmp .lt off, 3)) (ht : (pc : Int) + off = (tgt : Int)) (kt : x < y → G κ d mi tgt lv st n w cr sr Q) (kf : ¬ x < y → G κ d mi (pc + 3) lv st n w cr sr Q) : G κ d mi pc lv (.int y :: .int x :: st) n w cr sr Q := by
  intro p l e R s m args below meth c H locs cells slots mc ms Z ls hX hl hw hS h1 h2 h3 h4 hE
  exact lv_icmp_lt hX.1 hX.2.1 hd ht (fun z => kt z p l e R s m args below meth c H locs cells slots mc ms Z ls hX hl hw hS h1 h2 h3 h4 hE) (fun z => kf z p l e R s m args below meth c H locs cells slots mc ms Z ls hX hl hw hS h1 h2 h3 h4 hE)
theorem g_if_ge {x : Int32} {off : Int} (tgt : Nat) (hd : decode mi.2.1 pc = .ok (.ifCond .ge off, 3)) (ht : (pc : Int) + off = (tgt : Int)) (kt : 0 ≤ x → G κ d mi tgt lv st n w cr sr Q) (kf : ¬ 0 ≤ x → G κ d mi (pc + 3) lv st n w cr sr Q) : G κ d mi pc lv (.int x :: st) n w cr sr Q := by
  intro p l e R s m args below meth c H locs cells slots mc ms Z ls hX hl hw hS h1 h2 h3 h4 hE
  exact lv_if_ge hX.1 hX.2.1 hd ht (fun z => kt z p l e R s m args below meth c H locs cells slots mc ms Z ls hX hl hw hS h1 h2 h3 h4 hE) (fun z => kf z p l e R s m args below meth c H locs cells slots mc ms Z ls hX hl hw hS h1 h2 h3 h4 hE)
theorem g_icmp_ge {x y : Int32} {off : Int} (tgt : Nat) (hd : decode mi.2.1 pc = .ok (.if_icmp .ge off, 3)) (ht : (pc : Int) + off = (tgt : Int)) (kt : y ≤ x → G κ d mi tgt lv st n w cr sr Q) (kf : ¬ y ≤ x → G κ d mi (pc + 3) lv st n w cr sr Q) : G κ d mi pc lv (.int y :: .int x :: st) n w cr sr Q := by
  intro p l e R s m args below meth c H locs cells slots mc ms Z ls hX hl hw hS h1 h2 h3 h4 hE
  exact lv_icmp_ge hX.1 hX.2.1 hd ht (fun z => kt z p l e R s m args below meth c H locs cells slots mc ms Z ls hX hl hw hS h1 h2 h3 h4 hE) (fun z => kf z p l e R s m args below meth c H locs cells slots mc ms Z ls hX hl hw hS h1 h2 h3 h4 hE)
theorem g_if_gt {x : Int32} {off : Int} (tgt : Nat) (hd : decode mi.2.1 pc = .ok (.ifCond .gt off, 3)) (ht : (pc : Int) + off = (tgt : Int)) (kt : 0 < x → G κ d mi tgt lv st n w cr sr Q) (kf : ¬ 0 < x → G κ d mi (pc + 3) lv st n w cr sr Q) : G κ d mi pc lv (.int x :: st) n w cr sr Q := by
  intro p l e R s m args below meth c H locs cells slots mc ms Z ls hX hl hw hS h1 h2 h3 h4 hE
  exact lv_if_gt hX.1 hX.2.1 hd ht (fun z => kt z p l e R s m args below meth c H locs cells slots mc ms Z ls hX hl hw hS h1 h2 h3 h4 hE) (fun z => kf z p l e R s m args below meth c H locs cells slots mc ms Z ls hX hl hw hS h1 h2 h3 h4 hE)
theorem g_icmp_gt {x y : Int32} {off : Int} (tgt : Nat) (hd : decode mi.2.1 pc = .ok (.if_icmp .gt off, 3)) (ht : (pc : Int) + off = (tgt : Int)) (kt : y < x → G κ d mi tgt lv st n w cr sr Q) (kf : ¬ y < x → G κ d mi (pc + 3) lv st n w cr sr Q) : G κ d mi pc lv (.int y :: .int x :: st) n w cr sr Q := by
  intro p l e R s m args below meth c H locs cells slots mc ms Z ls hX hl hw hS h1 h2 h3 h4 hE
  exact lv_icmp_gt hX.1 hX.2.1 hd ht (fun z => kt z p l e R s m args below meth c H locs cells slots mc ms Z ls hX hl hw hS h1 h2 h3 h4 hE) (fun z => kf z p l e R s m args below meth c H locs cells slots mc ms Z ls hX hl hw hS h1 h2 h3 h4 hE)
theorem g_if_le {x : Int32} {off : Int} (tgt : Nat) (hd : decode mi.2.1 pc = .ok (.ifCond .le off, 3)) (ht : (pc : Int) + off = (tgt : Int)) (kt : x ≤ 0 → G κ d mi tgt lv st n w cr sr Q) (kf : ¬ x ≤ 0 → G κ d mi (pc + 3) lv st n w cr sr Q) : G κ d mi pc lv (.int x :: st) n w cr sr Q := by
  intro p l e R s m args below meth c H locs cells slots mc ms Z ls hX hl hw hS h1 h2 h3 h4 hE
  exact lv_if_le hX.1 hX.2.1 hd ht (fun z => kt z p l e R s m args below meth c H locs cells slots mc ms Z ls hX hl hw hS h1 h2 h3 h4 hE) (fun z => kf z p l e R s m args below meth c H locs cells slots mc ms Z ls hX hl hw hS h1 h2 h3 h4 hE)
theorem g_icmp_le {x y : Int32} {off : Int} (tgt : Nat) (hd : decode mi.2.1 pc = .ok (.if_icmp .le off, 3)) (ht : (pc : Int) + off = (tgt : Int)) (kt : x ≤ y → G κ d mi tgt lv st n w cr sr Q) (kf : ¬ x ≤ y → G κ d mi (pc + 3) lv st n w cr sr Q) : G κ d mi pc lv (.int y :: .int x :: st) n w cr sr Q := by
  intro p l e R s m args below meth c H locs cells slots mc ms Z ls hX hl hw hS h1 h2 h3 h4 hE
  exact lv_icmp_le hX.1 hX.2.1 hd ht (fun z => kt z p l e R s m args below meth c H locs cells slots mc ms Z ls hX hl hw hS h1 h2 h3 h4 hE) (fun z => kf z p l e R s m args below meth c H locs cells slots mc ms Z ls hX hl hw hS h1 h2 h3 h4 hE)
theorem g_if_ne {x : Int32} {off : Int} (tgt : Nat) (hd : decode mi.2.1 pc = .ok (.ifCond .ne off, 3)) (ht : (pc : Int) + off = (tgt : Int)) (kt : ¬ x = 0 → G κ d mi tgt lv st n w cr sr Q) (kf : x = 0 → G κ d mi (pc + 3) lv st n w cr sr Q) : G κ d mi pc lv (.int x :: st) n w cr sr Q := by
  intro p l e R s m args below meth c H locs cells slots mc ms Z ls hX hl hw hS h1 h2 h3 h4 hE
  exact lv_if_ne hX.1 hX.2.1 hd ht (fun z => kt z p l e R s m args below meth c H locs cells slots mc ms Z ls hX hl hw hS h1 h2 h3 h4 hE) (fun z => kf z p l e R s m args below meth c H locs cells slots mc ms Z ls hX hl hw hS h1 h2 h3 h4 hE)
theorem g_icmp_ne {x y : Int32} {off : Int} (tgt : Nat) (hd : decode mi.2.1 pc = .ok (.if_icmp .ne off, 3)) (ht : (pc : Int) + off = (tgt : Int)) (kt : ¬ x = y → G κ d mi tgt lv st n w cr sr Q) (kf : x = y → G κ d mi (pc + 3) lv st n w cr sr Q) : G κ d mi pc lv (.int y :: .int x :: st) n w cr sr Q := by
  intro p l e R s m args below meth c H locs cells slots mc ms Z ls hX hl hw hS h1 h2 h3 h4 hE
  exact lv_icmp_ne hX.1 hX.2.1 hd ht (fun z => kt z p l e R s m args below meth c H locs cells slots mc ms Z ls hX hl hw hS h1 h2 h3 h4 hE) (fun z => kf z p l e R s m args below meth c H locs cells slots mc ms Z ls hX hl hw hS h1 h2 h3 h4 hE)
theorem g_goto {off : Int} (tgt : Nat) (hd : decode mi.2.1 pc = .ok (.goto off, 3)) (ht : (pc : Int) + off = (tgt : Int)) (k : G κ d mi tgt lv st n w cr sr Q) : G κ d mi pc lv st n w cr sr Q := by
  intro p l e R s m args below meth c H locs cells slots mc ms Z ls hX hl hw hS h1 h2 h3 h4 hE
  exact lv_goto hX.1 hX.2.1 hd ht (k p l e R s m args below meth c H locs cells slots mc ms Z ls hX hl hw hS h1 h2 h3 h4 hE)
theorem g_ifnull {x : Nat} {off : Int} (hd : decode mi.2.1 pc = .ok (.ifnull off, 3)) (k : G κ d mi (pc + 3) lv st n w cr sr Q) : G κ d mi pc lv (.ref x :: st) n w cr sr Q := by
  intro p l e R s m args below meth c H locs cells slots mc ms Z ls hX hl hw hS h1 h2 h3 h4 hE
  exact lv_ifnull hX.1 hX.2.1 hd (k p l e R s m args below meth c H locs cells slots mc ms Z ls hX hl hw hS h1 h2 h3 h4 hE)
theorem g_ifnullN {off : Int} (tgt : Nat) (hd : decode mi.2.1 pc = .ok (.ifnull off, 3)) (ht : (pc : Int) + off = (tgt : Int)) (k : G κ d mi tgt lv st n w cr sr Q) : G κ d mi pc lv (.null :: st) n w cr sr Q := by
  intro p l e R s m args below meth c H locs cells slots mc ms Z ls hX hl hw hS h1 h2 h3 h4 hE
  exact lv_ifnullN hX.1 hX.2.1 hd ht (k p l e R s m args below meth c H locs cells slots mc ms Z ls hX hl hw hS h1 h2 h3 h4 hE)
theorem g_tableOut {dflt lo hi : Int} {offs : Array Int} {len : Nat} {x : Int32} (tgt : Nat) (hd : decode mi.2.1 pc = .ok (.tableswitch dflt lo hi offs, len)) (h : x.toInt < lo ∨ hi < x.toInt) (ht : (pc : Int) + dflt = (tgt : Int)) (k : G κ d mi tgt lv st n w cr sr Q) : G κ d mi pc lv (.int x :: st) n w cr sr Q := by
  intro p l e R s m args below meth c H locs cells slots mc ms Z ls hX hl hw hS h1 h2 h3 h4 hE
  exact lv_tableOut hX.1 hX.2.1 hd h ht (k p l e R s m args below meth c H locs cells slots mc ms Z ls hX hl hw hS h1 h2 h3 h4 hE)
theorem g_tableIn {dflt lo hi : Int} {offs : Array Int} {len : Nat} {x : Int32} {off : Int} (tgt : Nat) (hd : decode mi.2.1 pc = .ok (.tableswitch dflt lo hi offs, len)) (h5 : ¬ x.toInt < lo) (h6 : ¬ hi < x.toInt) (ho : offs[(x.toInt - lo).toNat]? = some off) (ht : (pc : Int) + off = (tgt : Int)) (k : G κ d mi tgt lv st n w cr sr Q) : G κ d mi pc lv (.int x :: st) n w cr sr Q := by
  intro p l e R s m args below meth c H locs cells slots mc ms Z ls hX hl hw hS h1 h2 h3 h4 hE
  exact lv_tableIn hX.1 hX.2.1 hd h5 h6 ho ht (k p l e R s m args below meth c H locs cells slots mc ms Z ls hX hl hw hS h1 h2 h3 h4 hE)
theorem g_lookup {dflt : Int} {ps : Array (Int × Int)} {len : Nat} {x : Int32} {off : Int} (tgt : Nat) (hd : decode mi.2.1 pc = .ok (.lookupswitch dflt ps, len)) (hp : (ps.toList.zip (ps.toList.drop 1)).all (fun (a, next) => a.1 < next.1) = true) (ho : Op.lookupswitch.offset ps.toList dflt x.toInt = off) (ht : (pc : Int) + off = (tgt : Int)) (k : G κ d mi tgt lv st n w cr sr Q) : G κ d mi pc lv (.int x :: st) n w cr sr Q := by
  intro p l e R s m args below meth c H locs cells slots mc ms Z ls hX hl hw hS h1 h2 h3 h4 hE
  exact lv_lookup hX.1 hX.2.1 hd hp ho ht (k p l e R s m args below meth c H locs cells slots mc ms Z ls hX hl hw hS h1 h2 h3 h4 hE)
theorem g_ldc2 {idx : Nat} {v : Int64} (hw0 : Cond.constantLong mi.1 idx v ∈ lw_g) (hd : decode mi.2.1 pc = .ok (.ldc2_w idx, 3)) (k : G κ d mi (pc + 3) lv (.long v :: st) n w cr sr Q) : G κ d mi pc lv st n w cr sr Q := by
  intro p l e R s m args below meth c H locs cells slots mc ms Z ls hX hl hw hS h1 h2 h3 h4 hE
  exact lv_ldc2 hX.1 hX.2.1 hX.2.2.2.1 (hX.2.2.2.2.1 _ hw0) hd (k p l e R s m args below meth c H locs cells slots mc ms Z ls hX hl hw hS h1 h2 h3 h4 hE)
theorem g_ldcw {idx : Nat} {v : Int32} (hw0 : Cond.constant mi.1 idx v ∈ lw_g) (hd : decode mi.2.1 pc = .ok (.ldc_w idx, 3)) (k : G κ d mi (pc + 3) lv (.int v :: st) n w cr sr Q) : G κ d mi pc lv st n w cr sr Q := by
  intro p l e R s m args below meth c H locs cells slots mc ms Z ls hX hl hw hS h1 h2 h3 h4 hE
  exact lv_ldcw hX.1 hX.2.1 hX.2.2.2.1 (hX.2.2.2.2.1 _ hw0) hd (k p l e R s m args below meth c H locs cells slots mc ms Z ls hX hl hw hS h1 h2 h3 h4 hE)
theorem g_vret (hd : decode mi.2.1 pc = .ok (.return_, 1)) (hr : mi.2.2.2.2 = none) (k : Q none n w) : G κ d mi pc lv [] n w cr sr Q := by
  intro p l e R s m args below meth c H locs cells slots mc ms Z ls hX hl hw hS h1 h2 h3 h4 hE
  exact hE H locs cells slots pc ls none n w hw hS (by omega) (by omega) k ⟨hd, hr⟩
theorem g_iret {x : Int32} (hd : decode mi.2.1 pc = .ok (.ireturn, 1)) (hr : mi.2.2.2.2 = some .int) (k : Q (some (.int x)) n w) : G κ d mi pc lv [.int x] n w cr sr Q := by
  intro p l e R s m args below meth c H locs cells slots mc ms Z ls hX hl hw hS h1 h2 h3 h4 hE
  exact hE H locs cells slots pc ls (some (.int x)) n w hw hS (by omega) (by omega) k ⟨hd, _, hr, rfl⟩
theorem g_zret {x : Int32} (hd : decode mi.2.1 pc = .ok (.ireturn, 1)) (hr : mi.2.2.2.2 = some .boolean) (hx : narrow .boolean (.int x) = .int x) (k : Q (some (.int x)) n w) : G κ d mi pc lv [.int x] n w cr sr Q := by
  intro p l e R s m args below meth c H locs cells slots mc ms Z ls hX hl hw hS h1 h2 h3 h4 hE
  exact hE H locs cells slots pc ls (some (.int x)) n w hw hS (by omega) (by omega) k ⟨hd, _, hr, hx⟩
theorem g_xret {x : Int32} {ty : FieldType} (hd : decode mi.2.1 pc = .ok (.ireturn, 1)) (hr : mi.2.2.2.2 = some ty) (hx : narrow ty (.int x) = .int x) (k : Q (some (.int x)) n w) : G κ d mi pc lv [.int x] n w cr sr Q := by
  intro p l e R s m args below meth c H locs cells slots mc ms Z ls hX hl hw hS h1 h2 h3 h4 hE
  exact hE H locs cells slots pc ls (some (.int x)) n w hw hS (by omega) (by omega) k ⟨hd, _, hr, hx⟩
theorem g_lret {x : Int64} (hd : decode mi.2.1 pc = .ok (.lreturn, 1)) (hr : mi.2.2.2.2 = some .long) (k : Q (some (.long x)) n w) : G κ d mi pc lv [.long x] n w cr sr Q := by
  intro p l e R s m args below meth c H locs cells slots mc ms Z ls hX hl hw hS h1 h2 h3 h4 hE
  exact hE H locs cells slots pc ls (some (.long x)) n w hw hS (by omega) (by omega) k ⟨hd, hr⟩
theorem g_aret {x : Nat} {rt : FieldType} (hd : decode mi.2.1 pc = .ok (.areturn, 1)) (hr : mi.2.2.2.2 = some rt) (ho : (∃ n, rt = .object n) ∨ ∃ t, rt = .array t) (k : Q (some (.ref x)) n w) : G κ d mi pc lv [.ref x] n w cr sr Q := by
  intro p l e R s m args below meth c H locs cells slots mc ms Z ls hX hl hw hS h1 h2 h3 h4 hE
  exact hE H locs cells slots pc ls (some (.ref x)) n w hw hS (by omega) (by omega) k ⟨hd, _, hr, ho⟩
theorem g_aretN {rt : FieldType} (hd : decode mi.2.1 pc = .ok (.areturn, 1)) (hr : mi.2.2.2.2 = some rt) (ho : (∃ n, rt = .object n) ∨ ∃ t, rt = .array t) (k : Q (some .null) n w) : G κ d mi pc lv [.null] n w cr sr Q := by
  intro p l e R s m args below meth c H locs cells slots mc ms Z ls hX hl hw hS h1 h2 h3 h4 hE
  exact hE H locs cells slots pc ls (some .null) n w hw hS (by omega) (by omega) k ⟨hd, _, hr, ho⟩
end GR
end
section
theorem gPc_blind {κ : Nat → Nat} {av : List Value} {n : Nat} {w : gWd} : FrameBlind (gPc κ av n w) := by
  intro a U g mk h
  obtain ⟨h1, h2, h3, h4, h5⟩ := h
  exact ⟨h1, h2, va_K.moved (u := U) (U := U.calling g mk a) (Vm.Alike.refl U.vm) h3, gT.moved (u := U) (U := U.calling g mk a) (Vm.Alike.refl U.vm) h4, gN.same (u := U) (U := U.calling g mk a) rfl h5⟩
/-- what the tables say of a method of ours -/
def gYV (y : MethodName) (mi : gMI) : Prop := (Cond.instanceMethod y ∈ lw_g ∧ Cond.selects y.cls y y ∈ lw_g ∧ Cond.initialized y.cls ∈ lw_g ∧ Cond.code y mi.2.1 mi.2.2.1 mi.2.2.2.2 ∈ lw_g) ∧ (y.cls ≠ "java/lang/invoke/MethodHandle" ∧ y.cls ≠ "java/lang/invoke/VarHandle") ∧ mi.2.2.1 ≤ 80
def gYS (y : MethodName) (mi : gMI) : Prop := (Cond.static y ∈ lw_g ∧ Cond.initialized y.cls ∈ lw_g ∧ Cond.code y mi.2.1 mi.2.2.1 mi.2.2.2.2 ∈ lw_g) ∧ (y.cls ≠ "java/lang/invoke/MethodHandle" ∧ y.cls ≠ "java/lang/invoke/VarHandle") ∧ mi.2.2.1 ≤ 80
def gYI (y : MethodName) (mi : gMI) : Prop := (Cond.instanceMethod y ∈ lw_g ∧ Cond.initialized y.cls ∈ lw_g ∧ Cond.code y mi.2.1 mi.2.2.1 mi.2.2.2.2 ∈ lw_g) ∧ (y.cls ≠ "java/lang/invoke/MethodHandle" ∧ y.cls ≠ "java/lang/invoke/VarHandle") ∧ mi.2.2.1 ≤ 80 ∧ y.name = "<init>" ∧ mi.2.2.2.2 = none
theorem gGood (ws : List Cond) (h : ∀ w ∈ ws, w ∈ lw_g) : GoodIn lw_g ws := fun w hw => ⟨h w hw, lw_g_good (h w hw)⟩
section GC
variable {κ : Nat → Nat} {d : Nat} {mi : gMI} {pc : Nat} {lv : List (Nat × Value)} {st : List Value} {n : Nat} {w : gWd} {cr sr : Nat} {Q Q' : gQ} {y : MethodName} {mi' : gMI} {d' mc' ms' : Nat} {As : List Value} {idx : Nat}
theorem gPre {s : State} {H : Heap} {av : List Value} (hK : va_K (gD κ) vwCl (gTy κ) s) (hT : gT κ s s.heap) (hN : gN s) (hw : gW κ n w H) {locs : List Loc} (hS : va_S (gA κ) s.heap H locs) : ∀ U : State, U.heap = H → s.WarmedH U.vm → gPc κ av n w av.toArray U := fun U hU hW =>
  ⟨rfl, by rw [hU]; exact hw, va_K.moved hW.alike hK, by rw [hU]; exact (gT.moved hW.alike (hT.kept hS.2.1)), gN.warm hW hN⟩
theorem gRun {p : Program} {l : Launch} {e : Env} {R : Room} {s : State} {m : MethodId} {args : Array Value} {below : List Frame} {meth : Method} {c : Code} {H : Heap} {locs : List Loc} {cells slots mc ms : Nat} {Z : State → Prop} {ls : Array Slot} {st0 : List Value} {a : Array Value}
    (hX : gX κ d mi p R s m args meth c) (hl : lv_has ls mi.2.2.1 lv) (hS : va_S (gA κ) s.heap H locs) (h1 : cells + cr ≤ mc) (h2 : slots + sr ≤ ms) (h3 : mc ≤ R.cells) (h4 : ms ≤ R.slots) (hE : gE κ mi Q p l e R s m args below meth c mc ms Z)
    (hcr : mc' ≤ cr) (hsr : ms' ≤ sr)
    (hr : va_Run p l e R s m args below meth c H locs cells slots mc' ms' (F0 m pc ls st0) st (gQc κ Q' a) (gA κ))
    (k : ∀ v n' w', Q' v n' w' → G κ d mi (pc + 3) lv (v.toList ++ st) n' w' (cr - mc') (sr - ms') Q) : W p l e R s m args below meth c H locs cells slots Z (F0 m pc ls st0) := by
  intro T hT X
  obtain ⟨v, st₀, t, T', L, h0, X', hL, e1, e2, ⟨⟨v', n', w', hv, hq, hw'⟩, hz, hk⟩, stp⟩ := hr T hT X
  cases hv
  rw [h0] at hz hk
  have hS' : va_S (gA κ) s.heap T'.heap (locs ++ L) := ⟨Nat.le_trans hS.1 (by rw [e1]; exact hz), fun q g1 g2 => by rw [e1, hk q (Nat.lt_of_lt_of_le g1 hS.1) g2]; exact hS.2.1 q g1 g2, fun q hq => (List.mem_append.mp hq).elim (hS.2.2 q) (hL q)⟩
  obtain ⟨t2, a1, b1⟩ := k v n' w' hq p l e R s m args below meth c T'.heap (locs ++ L) (cells + mc') (slots + ms') mc ms Z ls hX hl (by rw [e1]; exact hw') hS' (by omega) (by omega) h3 h4 hE T' rfl X'
  exact ⟨t2, stp t2 a1, b1⟩
set_option maxHeartbeats 1000000 in
theorem g_callV {b ci N : Nat} {T : u_T} {fs : List Value} (hM : CT κ d' y mi' (.ref (κ 0 + b) :: As) n w mc' ms' Q') (hd : decode mi.2.1 pc = .ok (.invokevirtual idx, 3)) (hY : gYV y mi') (hlk : Cond.methodLink mi.1 idx y ∈ lw_g) (hb : b < n) (hwb : w b = .inr (ci, fs)) (hc : vwCl[ci]? = some (y.cls, T, N)) (hdd : d' + 1 ≤ d)
    (hlen : (parseMethodDescriptor y.desc).map (fun d => d.parameters.length) = some As.length) (hst : (st.map fun v => v.category).sum ≤ 8) (hcr : mc' ≤ cr) (hsr : ms' ≤ sr)
    (k : ∀ v n' w', Q' v n' w' → G κ d mi (pc + 3) lv (v.toList ++ st) n' w' (cr - mc') (sr - ms') Q) : G κ d mi pc lv (As.reverse ++ .ref (κ 0 + b) :: st) n w cr sr Q := by
  intro p l e R s m args below meth c H locs cells slots mc ms Z ls hX hl hw hS h1 h2 h3 h4 hE
  obtain ⟨hx, hbc, hml, hown, hts, hK, hT, hN, h0, ⟨hf, hlo⟩, -⟩ := id hX
  obtain ⟨⟨y1, y2, y3, y4⟩, hy, hm80⟩ := hY
  have hE1 : va_Run p l e R s m args below meth c H locs cells slots mc' ms' (F0 m pc ls (As.reverse ++ .ref (κ 0 + b) :: st)) st (gQc κ Q' (Value.ref (κ 0 + b) :: As).toArray) (gA κ) := by
    refine va_runV (C := y.cls) (bytes := mi'.2.1) (maxL := mi'.2.2.1) (ret := mi'.2.2.2.2) (n := As.length) (As := As) (rest := st) ⟨hx, hbc, hml, hown, hts⟩ (hM l) (cwV As.length hts (gGood _ ?_) rfl rfl rfl ⟨rfl, hy.1, hy.2, hlen⟩ ⟨by show d' + 1 ≤ R.frames; omega, by show 8 + (mi'.2.2.1 + 11) + 100 * d' ≤ R.locals; omega⟩) ⟨gPc_blind, va_recv hK hw.1 hc (by rw [gL_at hb, hwb]), gPre hK hT hN hw hS⟩ rfl rfl hl.1 rfl (lv_room hst) hd ⟨by omega, by omega⟩
    intro w hw
    simp only [wsV, List.mem_append, List.mem_cons, List.not_mem_nil, or_false, gWs] at hw
    rcases hw with (rfl | rfl | rfl | rfl) | rfl | hw
    · exact hlk
    · exact y1
    · exact y2
    · exact y3
    · exact y4
    · exact hw
  exact gRun hX hl hS h1 h2 h3 h4 hE hcr hsr hE1 k
set_option maxHeartbeats 1000000 in
theorem g_callS (hM : CT κ d' y mi' As n w mc' ms' Q') (hd : decode mi.2.1 pc = .ok (.invokestatic idx, 3)) (hY : gYS y mi') (hlk : Cond.methodLink mi.1 idx y ∈ lw_g) (hdd : d' + 1 ≤ d)
    (hlen : (parseMethodDescriptor y.desc).map (fun d => d.parameters.length) = some As.length) (hst : (st.map fun v => v.category).sum ≤ 8) (hcr : mc' ≤ cr) (hsr : ms' ≤ sr)
    (k : ∀ v n' w', Q' v n' w' → G κ d mi (pc + 3) lv (v.toList ++ st) n' w' (cr - mc') (sr - ms') Q) : G κ d mi pc lv (As.reverse ++ st) n w cr sr Q := by
  intro p l e R s m args below meth c H locs cells slots mc ms Z ls hX hl hw hS h1 h2 h3 h4 hE
  obtain ⟨hx, hbc, hml, hown, hts, hK, hT, hN, h0, ⟨hf, hlo⟩, -⟩ := id hX
  obtain ⟨⟨y1, y3, y4⟩, hy, hm80⟩ := hY
  have hE1 : va_Run p l e R s m args below meth c H locs cells slots mc' ms' (F0 m pc ls (As.reverse ++ st)) st (gQc κ Q' As.toArray) (gA κ) := by
    refine va_runS (bytes := mi'.2.1) (maxL := mi'.2.2.1) (ret := mi'.2.2.2.2) (n := As.length) (As := As) (rest := st) ⟨hx, hbc, hml, hown, hts⟩ (hM l) (va_cwS As.length hts (gGood _ ?_) rfl rfl rfl ⟨hy.1, hy.2, hlen⟩ ⟨by show d' + 1 ≤ R.frames; omega, by show 8 + (mi'.2.2.1 + 11) + 100 * d' ≤ R.locals; omega⟩) ⟨gPc_blind, gPre hK hT hN hw hS⟩ rfl rfl hl.1 rfl (lv_room hst) hd ⟨by omega, by omega⟩
    intro w hw
    simp only [va_wsS, List.mem_append, List.mem_cons, List.not_mem_nil, or_false, gWs] at hw
    rcases hw with (rfl | rfl | rfl) | rfl | hw
    · exact hlk
    · exact y1
    · exact y3
    · exact y4
    · exact hw
  exact gRun hX hl hS h1 h2 h3 h4 hE hcr hsr hE1 k
set_option maxHeartbeats 1000000 in
theorem g_callSN {host : String} (hM : CT κ d' y mi' As n w mc' ms' Q') (hd : decode mi.2.1 pc = .ok (.invokestatic idx, 3)) (hY : gYS y mi') (hlk : ∀ U, gN U → va_Nw (.methodLinkNest mi.1 idx y host) U) (hdd : d' + 1 ≤ d)
    (hlen : (parseMethodDescriptor y.desc).map (fun d => d.parameters.length) = some As.length) (hst : (st.map fun v => v.category).sum ≤ 8) (hcr : mc' ≤ cr) (hsr : ms' ≤ sr)
    (k : ∀ v n' w', Q' v n' w' → G κ d mi (pc + 3) lv (v.toList ++ st) n' w' (cr - mc') (sr - ms') Q) : G κ d mi pc lv (As.reverse ++ st) n w cr sr Q := by
  intro p l e R s m args below meth c H locs cells slots mc ms Z ls hX hl hw hS h1 h2 h3 h4 hE
  obtain ⟨hx, hbc, hml, hown, hts, hK, hT, hN, h0, ⟨hf, hlo⟩, -⟩ := id hX
  obtain ⟨⟨y1, y3, y4⟩, hy, hm80⟩ := hY
  have hE1 : va_Run p l e R s m args below meth c H locs cells slots mc' ms' (F0 m pc ls (As.reverse ++ st)) st (gQc κ Q' As.toArray) (gA κ) := by
    refine va_runSN (bytes := mi'.2.1) (maxL := mi'.2.2.1) (ret := mi'.2.2.2.2) (n := As.length) (As := As) (rest := st) ⟨hx, hbc, hml, hown, hts⟩ (hM l) ⟨va_cnB As.length hts (gGood _ ?_) rfl rfl rfl (hlk s hN) (hts _ y3) ⟨hy.1, hy.2, hlen⟩ ⟨by show d' + 1 ≤ R.frames; omega, by show 8 + (mi'.2.2.1 + 11) + 100 * d' ≤ R.locals; omega⟩, hts _ y1, trivial⟩ ⟨gPc_blind, gPre hK hT hN hw hS⟩ rfl rfl hl.1 rfl (lv_room hst) hd ⟨by omega, by omega⟩
    intro w hw
    simp only [List.mem_cons, gWs] at hw
    rcases hw with rfl | hw
    · exact y4
    · exact hw
  exact gRun hX hl hS h1 h2 h3 h4 hE hcr hsr hE1 k
set_option maxHeartbeats 1000000 in
theorem g_callI {b : Nat} (hM : CT κ d' y mi' (.ref b :: As) n w mc' ms' Q') (hd : decode mi.2.1 pc = .ok (.invokespecial idx, 3)) (hY : gYI y mi') (hlk : Cond.methodLink mi.1 idx y ∈ lw_g) (hdd : d' + 1 ≤ d)
    (hlen : (parseMethodDescriptor y.desc).map (fun d => d.parameters.length) = some As.length) (hst : (st.map fun v => v.category).sum ≤ 8) (hcr : mc' ≤ cr) (hsr : ms' ≤ sr)
    (k : ∀ v n' w', Q' v n' w' → G κ d mi (pc + 3) lv (v.toList ++ st) n' w' (cr - mc') (sr - ms') Q) : G κ d mi pc lv (As.reverse ++ .ref b :: st) n w cr sr Q := by
  intro p l e R s m args below meth c H locs cells slots mc ms Z ls hX hl hw hS h1 h2 h3 h4 hE
  obtain ⟨hx, hbc, hml, hown, hts, hK, hT, hN, h0, ⟨hf, hlo⟩, -⟩ := id hX
  obtain ⟨⟨y1, y3, y4⟩, hy, hm80, hy1, hrn⟩ := hY
  rw [hrn] at y4
  have hE1 : va_Run p l e R s m args below meth c H locs cells slots mc' ms' (F0 m pc ls (As.reverse ++ .ref b :: st)) st (gQc κ Q' (Value.ref b :: As).toArray) (gA κ) := by
    refine va_runI (bytes := mi'.2.1) (maxL := mi'.2.2.1) (n := As.length) (As := As) (rest := st) ⟨hx, hbc, hml, hown, hts⟩ (hM l) (cwI As.length hts (gGood _ ?_) (by unfold gWs; rw [hrn]) rfl rfl (hts _ y3) (hts _ hlk) (hts _ y1) hy1 ⟨hy.1, hy.2, hlen⟩ ⟨by show d' + 1 ≤ R.frames; omega, by show 8 + (mi'.2.2.1 + 11) + 100 * d' ≤ R.locals; omega⟩) ⟨gPc_blind, gPre hK hT hN hw hS⟩ rfl rfl hl.1 rfl (lv_room hst) hd ⟨by omega, by omega⟩
    intro w hw
    simp only [List.mem_cons, gWs, hrn] at hw
    rcases hw with rfl | hw
    · exact y4
    · exact hw
  exact gRun hX hl hS h1 h2 h3 h4 hE hcr hsr hE1 k
set_option maxHeartbeats 1000000 in
theorem g_callIN {b : Nat} {host : String} (hM : CT κ d' y mi' (.ref b :: As) n w mc' ms' Q') (hd : decode mi.2.1 pc = .ok (.invokespecial idx, 3)) (hY : gYI y mi') (hlk : ∀ U, gN U → va_Nw (.methodLinkNest mi.1 idx y host) U) (hdd : d' + 1 ≤ d)
    (hlen : (parseMethodDescriptor y.desc).map (fun d => d.parameters.length) = some As.length) (hst : (st.map fun v => v.category).sum ≤ 8) (hcr : mc' ≤ cr) (hsr : ms' ≤ sr)
    (k : ∀ v n' w', Q' v n' w' → G κ d mi (pc + 3) lv (v.toList ++ st) n' w' (cr - mc') (sr - ms') Q) : G κ d mi pc lv (As.reverse ++ .ref b :: st) n w cr sr Q := by
  intro p l e R s m args below meth c H locs cells slots mc ms Z ls hX hl hw hS h1 h2 h3 h4 hE
  obtain ⟨hx, hbc, hml, hown, hts, hK, hT, hN, h0, ⟨hf, hlo⟩, -⟩ := id hX
  obtain ⟨⟨y1, y3, y4⟩, hy, hm80, hy1, hrn⟩ := hY
  rw [hrn] at y4
  have hE1 : va_Run p l e R s m args below meth c H locs cells slots mc' ms' (F0 m pc ls (As.reverse ++ .ref b :: st)) st (gQc κ Q' (Value.ref b :: As).toArray) (gA κ) := by
    refine va_runIN (bytes := mi'.2.1) (maxL := mi'.2.2.1) (n := As.length) (As := As) (rest := st) ⟨hx, hbc, hml, hown, hts⟩ (hM l) ⟨va_cnB As.length hts (gGood _ ?_) (by unfold gWs; rw [hrn]) rfl rfl (hlk s hN) (hts _ y3) ⟨hy.1, hy.2, hlen⟩ ⟨by show d' + 1 ≤ R.frames; omega, by show 8 + (mi'.2.2.1 + 11) + 100 * d' ≤ R.locals; omega⟩, hy1, hts _ y1⟩ ⟨gPc_blind, gPre hK hT hN hw hS⟩ rfl rfl hl.1 rfl (lv_room hst) hd ⟨by omega, by omega⟩
    intro w hw
    simp only [List.mem_cons, gWs, hrn] at hw
    rcases hw with rfl | hw
    · exact y4
    · exact hw
  exact gRun hX hl hS h1 h2 h3 h4 hE hcr hsr hE1 k
end GC
end
section
/-- a class of ours: its place in vwCl, name, fields, how many, their types -/
def gCl (ci : Nat) (C : String) (T : u_T) (N : Nat) (ty : Nat → FieldType) : Prop := vwCl[ci]? = some (C, T, N) ∧ (∀ w ∈ u_ws C T N, w ∈ lw_g) ∧ (∀ k, k < N → parseFieldDescriptor (T k).2.2.1 = some (ty k)) ∧ (∀ a, a < N → ∀ b, b < N → a ≠ b → (T a).2.1 ≠ (T b).2.1)
theorem gW_set {κ : Nat → Nat} {n : Nat} {w : gWd} {H H1 : Heap} {a : Nat} {e : va_E} (ha : a < n) (hw : gW κ n w H) (hz : H1.size = H.size) (h : va_P (gD κ) vwCl ((gL κ n w).set a (κ 0 + a, e)) H1) : gW κ n (va_up w a e) H1 := ⟨by rw [← gL_set ha]; exact h, by rw [hz]; exact hw.2⟩
theorem gW_push {κ : Nat → Nat} {n : Nat} {w : gWd} {H H1 : Heap} {e : va_E} (hw : gW κ n w H) (hz : H1.size = H.size + 1) (ho : ∀ q, q < H.size → H1[q]? = H[q]?) (he : va_at (gD κ) vwCl (κ 0 + n, e) H1) : gW κ (n + 1) (va_up w n e) H1 := by
  refine ⟨?_, by rw [hz, hw.2]; omega⟩
  rw [← gL_push]
  refine (hw.1.kept (fun k q hk => ho q.1 ((hw.1 k q hk).lt))).app (fun k x hx => ?_)
  have hz : k < 1 := (List.getElem?_eq_some_iff.mp hx).1
  rw [show k = 0 by omega] at hx
  cases hx
  exact he
theorem va_S.push {κ : Nat → Nat} {H0 H H1 : Heap} {locs : List Loc} (hS : va_S (gA κ) H0 H locs) (hz : H.size ≤ H1.size) (ho : ∀ q, q < H.size → H1[q]? = H[q]?) : va_S (gA κ) H0 H1 locs := ⟨Nat.le_trans hS.1 hz, fun q h1 h2 => (ho q (Nat.lt_of_lt_of_le h1 hS.1)).trans (hS.2.1 q h1 h2), hS.2.2⟩
section GH
variable {κ : Nat → Nat} {d : Nat} {mi : gMI} {pc : Nat} {lv : List (Nat × Value)} {st : List Value} {n : Nat} {w : gWd} {cr sr : Nat} {Q : gQ} {a idx : Nat}
theorem g_get {ci N : Nat} {C : String} {T : u_T} {ty : Nat → FieldType} {fs : List Value} {v : Value} (j : Nat) (hd : decode mi.2.1 pc = .ok (.getfield idx, 3)) (hc : gCl ci C T N ty) (hlk : Cond.fieldLink mi.1 idx (T j).1 (T j).2.1 (T j).2.2.1 ∈ lw_g) (ha : a < n) (hwa : w a = .inr (ci, fs)) (hj : j < N) (hv : fs[j]? = some v)
    (k : G κ d mi (pc + 3) lv (v :: st) n w cr sr Q) : G κ d mi pc lv (.ref (κ 0 + a) :: st) n w cr sr Q := by
  intro p l e R s m args below meth c H locs cells slots mc ms Z ls hX hl hw hS h1 h2 h3 h4 hE
  obtain ⟨hx, hbc, hml, hown, hts, hK, hT, hN, h0, hf, -⟩ := id hX
  exact va_get (C := C) (T := T) (N := N) hx hbc hts hc.2.1 hown hK hw.1 a (by rw [gL_at ha, hwa]) hc.1 j hj (hts _ hlk) (fun _ h => h) hv hd (k p l e R s m args below meth c H locs cells slots mc ms Z ls hX hl hw hS h1 h2 h3 h4 hE)
theorem gW_size {κ : Nat → Nat} {n : Nat} {w : gWd} {H : Heap} (hw : gW κ n w H) : H.size = κ 0 + n := hw.2
set_option maxHeartbeats 1000000 in
theorem g_put {ci N : Nat} {C : String} {T : u_T} {ty : Nat → FieldType} {fs : List Value} {v : Value} (j : Nat) (hd : decode mi.2.1 pc = .ok (.putfield idx, 3)) (hc : gCl ci C T N ty) (hlk : Cond.fieldLink mi.1 idx (T j).1 (T j).2.1 (T j).2.2.1 ∈ lw_g) (ha : a < n) (hwa : w a = .inr (ci, fs)) (hj : j < N) (hfin : (T j).2.2.2 = false) (hn : narrow (ty j) v = v) (hfit : fits (ty j) v = true) (hlen : j < fs.length)
    (k : G κ d mi (pc + 3) lv st n (va_up w a (.inr (ci, fs.set j v))) cr sr Q) : G κ d mi pc lv (v :: .ref (κ 0 + a) :: st) n w cr sr Q := by
  intro p l e R s m args below meth c H locs cells slots mc ms Z ls hX hl hw hS h1 h2 h3 h4 hE
  obtain ⟨hx, hbc, hml, hown, hts, hK, hT, hN, h0, hf, -⟩ := id hX
  have hap := va_apart (own := mi.1) hts hc.2.1 ty hc.2.2.1 hc.2.2.2 hK hc.1
  obtain ⟨r, g1, cell, q1, q2, q3, q4⟩ := hw.1 a _ (by rw [gL_at ha, hwa])
  have hr : r = (C, T, N) := Option.some.inj (g1.symm.trans hc.1)
  subst hr
  obtain ⟨hSl, hfc, kC, hkC, hkind⟩ := hK.1 ci _ hc.1
  obtain ⟨cf, kf, fi, f, hi, hsl⟩ := hSl j hj
  have hlay := hts _ (hc.2.1 _ (u_in_lay hj))
  unfold u_lay at hlay
  rw [if_neg (by rw [hfin]; decide)] at hlay
  have hst := (u_facts hfc hkC (u_lays hts hc.2.1 hj) hi).1
  have h6 := u_store hfc hkC hkind hlay hi (hc.2.2.1 j hj) hn hfit
  refine W.putK hx hbc (f := f) ⟨hown, hts _ hlk, ⟨_, _, _, hi⟩, hst⟩ (by rw [q2]; exact h6) q1 q3 (by rw [hsl]; exact k2_hasslot (q4 j hj)) rfl rfl hd fun H' e1 e2 e3 => ?_
  rw [hsl] at e1 ⊢
  have hD : va_D (gA κ) (gL κ n w) := gL_D
  have he : (gL κ n w)[a]? = some (κ 0 + a, .inr (ci, fs)) := by rw [gL_at ha, hwa]
  exact k p l e R s m args below meth c H' _ cells slots mc ms Z ls hX hl (gW_set ha hw e2 (hw.1.set hD he ⟨_, hc.1, t_OB.to (V := updV (vp_V fs) j v) ⟨_, e1, q2, q3, t_set q4 hap hj v⟩ (fun i _ => vp_updV_set hlen v i)⟩ e3)) (hS.put e2 e3 (hD.2 a _ he)) h1 h2 h3 h4 hE
set_option maxHeartbeats 1000000 in
theorem g_putF {ci N : Nat} {C : String} {T : u_T} {ty : Nat → FieldType} {fs : List Value} {v : Value} (j : Nat) (hd : decode mi.2.1 pc = .ok (.putfield idx, 3)) (hc : gCl ci C T N ty) (hlk : Cond.fieldLink mi.1 idx (T j).1 (T j).2.1 (T j).2.2.1 ∈ lw_g) (ha : a < n) (hwa : w a = .inr (ci, fs)) (hj : j < N) (hfin : (T j).2.2.2 = true) (hnm : mi.2.2.2.1 = "<init>") (hdecl : (T j).1 = mi.1) (hn : narrow (ty j) v = v) (hfit : fits (ty j) v = true) (hlen : j < fs.length)
    (k : G κ d mi (pc + 3) lv st n (va_up w a (.inr (ci, fs.set j v))) cr sr Q) : G κ d mi pc lv (v :: .ref (κ 0 + a) :: st) n w cr sr Q := by
  intro p l e R s m args below meth c H locs cells slots mc ms Z ls hX hl hw hS h1 h2 h3 h4 hE
  obtain ⟨hx, hbc, hml, hown, hts, hK, hT, hN, h0, hf, hmn⟩ := id hX
  have hap := va_apart (own := mi.1) hts hc.2.1 ty hc.2.2.1 hc.2.2.2 hK hc.1
  obtain ⟨r, g1, cell, q1, q2, q3, q4⟩ := hw.1 a _ (by rw [gL_at ha, hwa])
  have hr : r = (C, T, N) := Option.some.inj (g1.symm.trans hc.1)
  subst hr
  obtain ⟨hSl, hfc, kC, hkC, hkind⟩ := hK.1 ci _ hc.1
  obtain ⟨cf, kf, fi, f, hi, hsl⟩ := hSl j hj
  have hlay := hts _ (hc.2.1 _ (u_in_lay hj))
  unfold u_lay at hlay
  rw [if_pos hfin] at hlay
  have hst := (u_facts hfc hkC (u_lays hts hc.2.1 hj) hi).1
  have hcf : m.cls = cf := by
    obtain ⟨_, _, c', _, _, _, -, -, hf', -, -, -, hown2, -⟩ := Cond.laysFinal_spec hlay
    have e1 : c' = cf := by have := hi.symm.trans hf'; simp at this; exact this.1.symm
    rw [hdecl] at hown2
    rw [← e1]; exact Option.some.inj (hown.symm.trans hown2)
  have h6 := u_fits hfc hkC hkind (Or.inr hlay) hi (hc.2.2.1 j hj) hn hfit
  refine W.putFinK hx hbc hown (hts _ hlk) hi hst hcf (hmn.trans hnm) (by rw [q2]; exact h6) q1 q3 (by rw [hsl]; exact k2_hasslot (q4 j hj)) rfl rfl hd fun H' e1 e2 e3 => ?_
  rw [hsl] at e1 ⊢
  have hD : va_D (gA κ) (gL κ n w) := gL_D
  have he : (gL κ n w)[a]? = some (κ 0 + a, .inr (ci, fs)) := by rw [gL_at ha, hwa]
  exact k p l e R s m args below meth c H' _ cells slots mc ms Z ls hX hl (gW_set ha hw e2 (hw.1.set hD he ⟨_, hc.1, t_OB.to (V := updV (vp_V fs) j v) ⟨_, e1, q2, q3, t_set q4 hap hj v⟩ (fun i _ => vp_updV_set hlen v i)⟩ e3)) (hS.put e2 e3 (hD.2 a _ he)) h1 h2 h3 h4 hE
theorem g_iald {N : Nat} {f : Nat → Int32} {i : Int32} (hd : decode mi.2.1 pc = .ok (.iaload, 1)) (ha : a < n) (hwa : w a = .inl (κ 30, N, .inl f)) (hin : vp_in i N) (k : G κ d mi (pc + 1) lv (.int (f i.toNatClampNeg) :: st) n w cr sr Q) : G κ d mi pc lv (.int i :: .ref (κ 0 + a) :: st) n w cr sr Q := by
  intro p l e R s m args below meth c H locs cells slots mc ms Z ls hX hl hw hS h1 h2 h3 h4 hE
  exact va_iald hX.1 hX.2.1 hX.2.2.2.2.2.1 hw.1 a 0 (by rw [gL_at ha, hwa]) rfl hin hd (k p l e R s m args below meth c H locs cells slots mc ms Z ls hX hl hw hS h1 h2 h3 h4 hE)
theorem g_zald {N : Nat} {f : Nat → Int32} {i : Int32} (hd : decode mi.2.1 pc = .ok (.baload, 1)) (ha : a < n) (hwa : w a = .inl (κ 31, N, .inl f)) (hin : vp_in i N) (k : G κ d mi (pc + 1) lv (.int (f i.toNatClampNeg) :: st) n w cr sr Q) : G κ d mi pc lv (.int i :: .ref (κ 0 + a) :: st) n w cr sr Q := by
  intro p l e R s m args below meth c H locs cells slots mc ms Z ls hX hl hw hS h1 h2 h3 h4 hE
  exact va_zald hX.1 hX.2.1 hX.2.2.2.2.2.1 hw.1 a 1 (by rw [gL_at ha, hwa]) rfl hin hd (k p l e R s m args below meth c H locs cells slots mc ms Z ls hX hl hw hS h1 h2 h3 h4 hE)
theorem g_aald {N t0 : Nat} {cA : ClassId} {ty : FieldType} {f : Nat → Option Nat} {i : Int32} {v : Value} (hd : decode mi.2.1 pc = .ok (.aaload, 1)) (ha : a < n) (hwa : w a = .inl (cA, N, .inr (.inr (.inr (.inr f))))) (ht : (gTy κ)[t0]? = some (cA, ty)) (hty : ty.isReference = true) (hin : vp_in i N) (hv : va_rf (f i.toNatClampNeg) = v) (k : G κ d mi (pc + 1) lv (v :: st) n w cr sr Q) : G κ d mi pc lv (.int i :: .ref (κ 0 + a) :: st) n w cr sr Q := by
  intro p l e R s m args below meth c H locs cells slots mc ms Z ls hX hl hw hS h1 h2 h3 h4 hE
  have hlt : i.toNatClampNeg < N := Nat.not_le.mp fun q => hin (Or.inr q)
  have hwa' : (gL κ n w)[a]? = some (κ 0 + a, .inl (cA, N, .inr (.inr (.inr (.inr f))))) := by rw [gL_at ha, hwa]
  have hcell : H[κ 0 + a]? = some (vp_cell cA (N, .inr (.inr (.inr (.inr f))))) := hw.1 a _ hwa'
  exact W.aald (v := v) (ty := ty) hX.1 hX.2.1 hcell ((hX.2.2.2.2.2.1.2 t0 _ ht).1 N (fun j => va_rf (f j))) hty (fun q => by cases q) (by show ¬ (i < 0 ∨ (arrV _ _ _).slots.size ≤ _); rw [arrV_size]; exact hin) (by show (arrV _ _ _).slots[_]? = _; rw [arrV_read _ _ hlt, hv]) rfl rfl hd (k p l e R s m args below meth c H locs cells slots mc ms Z ls hX hl hw hS h1 h2 h3 h4 hE)
theorem g_iast {N : Nat} {f : Nat → Int32} {i x : Int32} (hd : decode mi.2.1 pc = .ok (.iastore, 1)) (ha : a < n) (hwa : w a = .inl (κ 30, N, .inl f)) (hin : vp_in i N) (k : G κ d mi (pc + 1) lv st n (va_up w a (.inl (κ 30, N, .inl (upd f i.toNatClampNeg x)))) cr sr Q) : G κ d mi pc lv (.int x :: .int i :: .ref (κ 0 + a) :: st) n w cr sr Q := by
  intro p l e R s m args below meth c H locs cells slots mc ms Z ls hX hl hw hS h1 h2 h3 h4 hE
  have hwa' : (gL κ n w)[a]? = some (κ 0 + a, .inl (κ 30, N, .inl f)) := by rw [gL_at ha, hwa]
  refine W.iast hX.1 hX.2.1 (hw.1 a _ hwa') ((hX.2.2.2.2.2.1.2 0 _ rfl).1 N (fun j => .int (f j))) (fun q => by cases q) (by show ¬ (i < 0 ∨ (arrV _ _ _).slots.size ≤ _); rw [arrV_size]; exact hin) rfl rfl hd fun H1 ee z oq => ?_
  refine k p l e R s m args below meth c H1 _ cells slots mc ms Z ls hX hl (gW_set ha hw z (hw.1.set gL_D hwa' ?_ oq)) (hS.put z oq (gL_D.2 a _ hwa')) h1 h2 h3 h4 hE
  show H1[κ 0 + a]? = some (vp_cell _ _)
  rw [ee]
  rw [vp_cell_i, vp_cell_i, arrV_store]
  congr 2
  funext q
  by_cases hq : q = i.toNatClampNeg
  · subst hq
    simp [updV, upd]
  · simp [updV, upd, hq]
theorem g_zast {N : Nat} {f : Nat → Int32} {i x : Int32} (hd : decode mi.2.1 pc = .ok (.bastore, 1)) (ha : a < n) (hwa : w a = .inl (κ 31, N, .inl f)) (hin : vp_in i N) (hx : vp_nar .boolean x = x) (k : G κ d mi (pc + 1) lv st n (va_up w a (.inl (κ 31, N, .inl (upd f i.toNatClampNeg x)))) cr sr Q) : G κ d mi pc lv (.int x :: .int i :: .ref (κ 0 + a) :: st) n w cr sr Q := by
  intro p l e R s m args below meth c H locs cells slots mc ms Z ls hX hl hw hS h1 h2 h3 h4 hE
  have hwa' : (gL κ n w)[a]? = some (κ 0 + a, .inl (κ 31, N, .inl f)) := by rw [gL_at ha, hwa]
  refine W.zast hX.1 hX.2.1 (hw.1 a _ hwa') ((hX.2.2.2.2.2.1.2 1 _ rfl).1 N (fun j => .int (f j))) (fun q => by cases q) (by show ¬ (i < 0 ∨ (arrV _ _ _).slots.size ≤ _); rw [arrV_size]; exact hin) rfl rfl hd fun H1 ee z oq => ?_
  refine k p l e R s m args below meth c H1 _ cells slots mc ms Z ls hX hl (gW_set ha hw z (hw.1.set gL_D hwa' ?_ oq)) (hS.put z oq (gL_D.2 a _ hwa')) h1 h2 h3 h4 hE
  show H1[κ 0 + a]? = some (vp_cell _ _)
  rw [ee]
  rw [vp_cell_i, vp_cell_i, arrV_store]
  congr 2
  funext q
  by_cases hq : q = i.toNatClampNeg
  · subst hq
    conv => rhs; rw [← hx]
    simp [updV, upd, vp_nar]
    try rfl
  · simp [updV, upd, hq]
theorem g_alen {t0 : Nat} {cA : ClassId} {x : vp_A} {ty : FieldType} {v : Int32} (hd : decode mi.2.1 pc = .ok (.arraylength, 1)) (ha : a < n) (hwa : w a = .inl (cA, x)) (ht : (gTy κ)[t0]? = some (cA, ty)) (hv : Int32.ofNat x.1 = v) (k : G κ d mi (pc + 1) lv (.int v :: st) n w cr sr Q) : G κ d mi pc lv (.ref (κ 0 + a) :: st) n w cr sr Q := by
  intro p l e R s m args below meth c H locs cells slots mc ms Z ls hX hl hw hS h1 h2 h3 h4 hE
  exact va_alen hX.1 hX.2.1 hX.2.2.2.2.2.1 hw.1 a t0 (by rw [gL_at ha, hwa]) ht hv hd (k p l e R s m args below meth c H locs cells slots mc ms Z ls hX hl hw hS h1 h2 h3 h4 hE)
/-- a static of the tables -/
theorem g_gets {C f0 d0 : String} {v : Value} (hd : decode mi.2.1 pc = .ok (.getstatic idx, 3)) (hZ : ∀ U H, gT κ U H → va_Z C f0 d0 v (gA κ) U H) (hlk : Cond.fieldLink mi.1 idx C f0 d0 ∈ lw_g) (k : G κ d mi (pc + 3) lv (v :: st) n w cr sr Q) : G κ d mi pc lv st n w cr sr Q := by
  intro p l e R s m args below meth c H locs cells slots mc ms Z ls hX hl hw hS h1 h2 h3 h4 hE
  exact va_gets hX.1 hX.2.1 (hZ _ _ hX.2.2.2.2.2.2.1) hS hX.2.2.2.1 (hX.2.2.2.2.1 _ hlk) (fun _ h => h) hd (k p l e R s m args below meth c H locs cells slots mc ms Z ls hX hl hw hS h1 h2 h3 h4 hE)
theorem g_tald {t N : Nat} {f : Nat → Value} {i : Int32} {v : Value} (hd : decode mi.2.1 pc = .ok (.iaload, 1)) (hT : ∀ U H, gT κ U H → va_T .int t N f (gA κ) U H) (hin : vp_in i N) (hv : f i.toNatClampNeg = v) (k : G κ d mi (pc + 1) lv (v :: st) n w cr sr Q) : G κ d mi pc lv (.int i :: .ref t :: st) n w cr sr Q := by
  intro p l e R s m args below meth c H locs cells slots mc ms Z ls hX hl hw hS h1 h2 h3 h4 hE
  exact va_ti hX.1 hX.2.1 (hT _ _ hX.2.2.2.2.2.2.1) hS hin hv hd (k p l e R s m args below meth c H locs cells slots mc ms Z ls hX hl hw hS h1 h2 h3 h4 hE)
theorem g_bald {t N : Nat} {f : Nat → Value} {i : Int32} {v : Value} (hd : decode mi.2.1 pc = .ok (.baload, 1)) (hT : ∀ U H, gT κ U H → va_T .byte t N f (gA κ) U H) (hin : vp_in i N) (hv : f i.toNatClampNeg = v) (k : G κ d mi (pc + 1) lv (v :: st) n w cr sr Q) : G κ d mi pc lv (.int i :: .ref t :: st) n w cr sr Q := by
  intro p l e R s m args below meth c H locs cells slots mc ms Z ls hX hl hw hS h1 h2 h3 h4 hE
  exact va_tb hX.1 hX.2.1 (hT _ _ hX.2.2.2.2.2.2.1) hS hin hv hd (k p l e R s m args below meth c H locs cells slots mc ms Z ls hX hl hw hS h1 h2 h3 h4 hE)
theorem g_tlen {t N : Nat} {ty : FieldType} {f : Nat → Value} (hd : decode mi.2.1 pc = .ok (.arraylength, 1)) (hT : ∀ U H, gT κ U H → va_T ty t N f (gA κ) U H) (k : G κ d mi (pc + 1) lv (.int (Int32.ofNat N) :: st) n w cr sr Q) : G κ d mi pc lv (.ref t :: st) n w cr sr Q := by
  intro p l e R s m args below meth c H locs cells slots mc ms Z ls hX hl hw hS h1 h2 h3 h4 hE
  obtain ⟨cell, g1, g2, g3, g4, g5, g6, g7⟩ := hT _ _ hX.2.2.2.2.2.2.1
  exact W.alen (n := Int32.ofNat N) hX.1 hX.2.1 (by rw [hS.2.1 t (Array.getElem?_eq_some_iff.mp g1).1 g7]; exact g1) g2 g5 rfl rfl hd (k p l e R s m args below meth c H locs cells slots mc ms Z ls hX hl hw hS h1 h2 h3 h4 hE)
/-- a field of a constant object -/
theorem g_getO {o f0 d0 : String} {t : Nat} {v : Value} (hd : decode mi.2.1 pc = .ok (.getfield idx, 3)) (hT : ∀ U H, gT κ U H → va_OF o f0 d0 v t (gA κ) U H) (hlk : Cond.fieldLink mi.1 idx o f0 d0 ∈ lw_g) (k : G κ d mi (pc + 3) lv (v :: st) n w cr sr Q) : G κ d mi pc lv (.ref t :: st) n w cr sr Q := by
  intro p l e R s m args below meth c H locs cells slots mc ms Z ls hX hl hw hS h1 h2 h3 h4 hE
  exact vk_getf hX.1 hX.2.1 (hT _ _ hX.2.2.2.2.2.2.1) hS hX.2.2.2.1 (hX.2.2.2.2.1 _ hlk) (fun _ h => h) hd (k p l e R s m args below meth c H locs cells slots mc ms Z ls hX hl hw hS h1 h2 h3 h4 hE)
theorem g_mmax {x y : Int32} (hd : decode mi.2.1 pc = .ok (.invokestatic idx, 3)) (hlk : Cond.methodLink mi.1 idx Lib.Math.max.name ∈ lw_g) (hm : Cond.static Lib.Math.max.name ∈ lw_g ∧ Cond.initialized "java/lang/Math" ∈ lw_g ∧ Cond.code Lib.Math.max.name Lib.Math.max.code 2 (some .int) ∈ lw_g) (hst : (st.map fun v => v.category).sum ≤ 8) (hdd : 1 ≤ d) (k : G κ d mi (pc + 3) lv (.int (if x < y then y else x) :: st) n w cr sr Q) : G κ d mi pc lv (.int y :: .int x :: st) n w cr sr Q := by
  intro p l e R s m args below meth c H locs cells slots mc ms Z ls hX hl hw hS h1 h2 h3 h4 hE
  obtain ⟨hx, hbc, hml, hown, hts, hK, hT, hN, h0, ⟨hf, hlo⟩, -⟩ := id hX
  exact va_mmax hx hbc (hml.trans hl.1.symm) hown (hts _ hlk) (hts _ hm.1) (hts _ hm.2.1) (hts _ hm.2.2) (by omega) (by omega) (by omega) (by omega) hd (k p l e R s m args below meth c H locs cells slots mc ms Z ls hX hl hw hS h1 h2 h3 h4 hE)
theorem g_mmin {x y : Int32} (hd : decode mi.2.1 pc = .ok (.invokestatic idx, 3)) (hlk : Cond.methodLink mi.1 idx Lib.Math.min.name ∈ lw_g) (hm : Cond.static Lib.Math.min.name ∈ lw_g ∧ Cond.initialized "java/lang/Math" ∈ lw_g ∧ Cond.code Lib.Math.min.name Lib.Math.min.code 2 (some .int) ∈ lw_g) (hst : (st.map fun v => v.category).sum ≤ 8) (hdd : 1 ≤ d) (k : G κ d mi (pc + 3) lv (.int (if y < x then y else x) :: st) n w cr sr Q) : G κ d mi pc lv (.int y :: .int x :: st) n w cr sr Q := by
  intro p l e R s m args below meth c H locs cells slots mc ms Z ls hX hl hw hS h1 h2 h3 h4 hE
  obtain ⟨hx, hbc, hml, hown, hts, hK, hT, hN, h0, ⟨hf, hlo⟩, -⟩ := id hX
  exact va_mmin hx hbc (hml.trans hl.1.symm) hown (hts _ hlk) (hts _ hm.1) (hts _ hm.2.1) (hts _ hm.2.2) (by omega) (by omega) (by omega) (by omega) hd (k p l e R s m args below meth c H locs cells slots mc ms Z ls hX hl hw hS h1 h2 h3 h4 hE)
end GH
end
section
theorem gTy_at {κ : Nat → Nat} {s : State} (hK : va_K (gD κ) vwCl (gTy κ) s) {t0 : Nat} {cA : ClassId} {ty : FieldType} (ht : (gTy κ)[t0]? = some (cA, ty)) {cB : ClassId} (hn : s.vm.findClass ("[" ++ ty.toString) = some cB) : cB = cA := by
  have h := (hK.2 t0 _ ht).2
  cases ty with
  | object C =>
    obtain ⟨kA, comp, -, -, -, h4⟩ := h
    exact Option.some.inj (hn.symm.trans h4)
  | _ => exact Option.some.inj (hn.symm.trans h)
section GA
variable {κ : Nat → Nat} {d : Nat} {mi : gMI} {pc : Nat} {lv : List (Nat × Value)} {st : List Value} {n : Nat} {w : gWd} {cr sr : Nat} {Q : gQ} {a idx : Nat}
set_option maxHeartbeats 1000000 in
theorem g_new {ci N : Nat} {C : String} {T : u_T} {ty : Nat → FieldType} {fs : List Value} (hd : decode mi.2.1 pc = .ok (.new idx, 3)) (hc : gCl ci C T N ty) (hlk : Cond.classLink mi.1 idx C ∈ lw_g) (hi : Cond.instantiable C N ∈ lw_g ∧ Cond.initialized C ∈ lw_g) (hfs : ∀ j, j < N → defaultValue (ty j) = vp_V fs j)
    (k : G κ d mi (pc + 3) lv (.ref (κ 0 + n) :: st) (n + 1) (va_up w n (.inr (ci, fs))) cr sr Q) : G κ d mi pc lv st n w (cr + 1) (sr + N) Q := by
  intro p l e R s m args below meth c H locs cells slots mc ms Z ls hX hl hw hS h1 h2 h3 h4 hE
  obtain ⟨hx, hbc, hml, hown, hts, hK, hT, hN, h0, hf, hmn⟩ := id hX
  have hKn := hK.1 ci _ hc.1
  refine W.newcK hx hbc hown (hts _ hlk) (hts _ hi.1) (hts _ hi.2) rfl hd (by omega) (by omega) hKn.2.1 hw.2 fun H1 kC hkC e1 z1 o1 => ?_
  refine k p l e R s m args below meth c H1 locs (cells + 1) (slots + N) mc ms Z ls hX hl (gW_push hw (by rw [z1, hw.2]) (fun q hq => o1 q (by rw [← hw.2]; exact hq)) ?_) (hS.push (by rw [z1, hw.2]; omega) (fun q hq => o1 q (by rw [← hw.2]; exact hq))) (by omega) (by omega) h3 h4 hE
  exact ⟨_, hc.1, (u_born ty hts hc.2.1 hKn hkC e1 hc.2.2.1).to hfs⟩
set_option maxHeartbeats 1000000 in
/-- new int[N], new boolean[N] -/
theorem g_newa {t0 : Nat} {cA : ClassId} {x : Int32} (N : Nat) (atype : ArrayType) (ty : FieldType) (hd : decode mi.2.1 pc = .ok (.newarray atype, 2)) (hty : newarray.typeOf atype = ty) (ht : (gTy κ)[t0]? = some (cA, ty)) (hlk : Cond.arrayClass ty ∈ lw_g) (hdf : defaultValue ty = .int 0) (hx0 : ¬ x < 0) (hN : x.toNatClampNeg = N) (hb : N * componentBytes ty ≤ 536870912)
    (k : G κ d mi (pc + 2) lv (.ref (κ 0 + n) :: st) (n + 1) (va_up w n (.inl (cA, N, .inl (fun _ => 0)))) cr sr Q) : G κ d mi pc lv (.int x :: st) n w (cr + 1) (sr + N) Q := by
  intro p l e R s m args below meth c H locs cells slots mc ms Z ls hX hl hw hS h1 h2 h3 h4 hE
  obtain ⟨hx, hbc, hml, hown, hts, hK, hT, hNn, h0, hf, hmn⟩ := id hX
  subst hty
  refine va_newaK hx hbc (hts _ hlk) rfl hd rfl hx0 hN hb (by omega) (by omega) hw.2 fun H1 cB e1 z1 o1 hAr hNm => ?_
  have hcB : cB = cA := gTy_at hK ht hNm
  subst hcB
  refine k p l e R s m args below meth c H1 locs (cells + 1) (slots + N) mc ms Z ls hX hl (gW_push hw (by rw [z1, hw.2]) (fun q hq => o1 q (by rw [← hw.2]; exact hq)) ?_) (hS.push (by rw [z1, hw.2]; omega) (fun q hq => o1 q (by rw [← hw.2]; exact hq))) (by omega) (by omega) h3 h4 hE
  show H1[κ 0 + n]? = some (vp_cell _ _)
  rw [vp_cell_i, e1, hdf]
set_option maxHeartbeats 1000000 in
theorem g_anew {t0 : Nat} {cA : ClassId} {x : Int32} (N : Nat) (C : String) (hd : decode mi.2.1 pc = .ok (.anewarray idx, 3)) (ht : (gTy κ)[t0]? = some (cA, .object C)) (hlk : Cond.classLink mi.1 idx C ∈ lw_g) (hao : ∀ U, gN U → va_AO C U) (hx0 : ¬ x < 0) (hN : x.toNatClampNeg = N) (hb : N * 4 ≤ 536870912)
    (k : G κ d mi (pc + 3) lv (.ref (κ 0 + n) :: st) (n + 1) (va_up w n (.inl (cA, N, .inr (.inr (.inr (.inr (fun _ => none))))))) cr sr Q) : G κ d mi pc lv (.int x :: st) n w (cr + 1) (sr + N) Q := by
  intro p l e R s m args below meth c H locs cells slots mc ms Z ls hX hl hw hS h1 h2 h3 h4 hE
  obtain ⟨hx, hbc, hml, hown, hts, hK, hT, hNn, h0, hf, hmn⟩ := id hX
  subst hN
  refine W.anew hx hbc hown (hts _ hlk) (va_AO.use (hao s hNn)) rfl hd rfl hx0 hb (by omega) (by omega) fun cB kA comp f1 f2 f3 f4 => ?_
  have hcB : cB = cA := gTy_at hK ht f1
  subst hcB
  generalize hH1 : H.push ({ cls := cB, slots := Array.replicate x.toNatClampNeg .null, vm := .none } : Cell) = H1
  have z1 : H1.size = H.size + 1 := by rw [← hH1, Array.size_push]
  have e1 : H1[H.size]? = some (arrV cB x.toNatClampNeg (fun _ => .null)) := by rw [← hH1, Array.getElem?_push_size, ← arrV_new]
  have o1 : ∀ q : Nat, q < H.size → H1[q]? = H[q]? := fun q hq => by rw [← hH1, Array.getElem?_push, if_neg (Nat.ne_of_lt hq)]
  have hk := k p l e R s m args below meth c H1 locs (cells + 1) (slots + x.toNatClampNeg) mc ms Z ls hX hl (gW_push hw z1 o1 (by
    show H1[κ 0 + n]? = some (vp_cell _ _)
    rw [vp_cell_q, ← hw.2]
    exact e1)) (hS.push (by omega) o1) (by omega) (by omega) h3 h4 hE
  rw [← hw.2] at hk
  exact hk
set_option maxHeartbeats 1000000 in
/-- a reference into an array of objects -/
theorem g_aast {t0 ci N b : Nat} {cA : ClassId} {r : vw_C} {f : Nat → Option Nat} {i : Int32} {vs : List Value} (hd : decode mi.2.1 pc = .ok (.aastore, 1)) (ha : a < n) (hwa : w a = .inl (cA, N, .inr (.inr (.inr (.inr f))))) (ht : (gTy κ)[t0]? = some (cA, .object r.1)) (hb : b < n) (hwb : w b = .inr (ci, vs)) (hc : vwCl[ci]? = some r) (hin : vp_in i N)
    (k : G κ d mi (pc + 1) lv st n (va_up w a (.inl (cA, N, .inr (.inr (.inr (.inr (va_up f i.toNatClampNeg (some (κ 0 + b)))))))))  cr sr Q) : G κ d mi pc lv (.ref (κ 0 + b) :: .int i :: .ref (κ 0 + a) :: st) n w cr sr Q := by
  intro p l e R s m args below meth c H locs cells slots mc ms Z ls hX hl hw hS h1 h2 h3 h4 hE
  obtain ⟨hx, hbc, hml, hown, hts, hK, hT, hNn, h0, hf, hmn⟩ := id hX
  have hlt : i.toNatClampNeg < N := Nat.not_le.mp fun q => hin (Or.inr q)
  have hi0 : ¬ i < 0 := fun q => hin (Or.inl q)
  have hwa' : (gL κ n w)[a]? = some (κ 0 + a, .inl (cA, N, .inr (.inr (.inr (.inr f))))) := by rw [gL_at ha, hwa]
  have hcell : H[κ 0 + a]? = some (vp_cell cA (N, .inr (.inr (.inr (.inr f))))) := hw.1 a _ hwa'
  obtain ⟨r', hr', cellV, g1, g2, g3, -⟩ := hw.1 b (κ 0 + b, .inr (ci, vs)) (by rw [gL_at hb, hwb])
  have hcls := (hK.1 ci r hc).2
  obtain ⟨kA, comp, k1, k2, k3, -⟩ := (hK.2 t0 _ ht).2
  have hcomp : comp = (gD κ).1 ci := Option.some.inj (k3.symm.trans hcls.1)
  subst hcomp
  obtain ⟨kC, hkC, -⟩ := hcls.2
  refine W.aast hx hbc hcell (fun q h => by cases h) (fun h => by cases h) k1 k2 rfl hkC ⟨hi0, by show _ < (arrV _ _ _).slots.size; rw [arrV_size]; exact hlt⟩ g1 (fun q h => by rw [g3] at h; cases h) (by rw [g2]; exact hkC) (by rw [g2]; exact va_assign hcls) rfl rfl hd fun H1 ee z oq => ?_
  refine k p l e R s m args below meth c H1 _ cells slots mc ms Z ls hX hl (gW_set ha hw z (hw.1.set gL_D hwa' ?_ oq)) (hS.put z oq (gL_D.2 a _ hwa')) h1 h2 h3 h4 hE
  show H1[κ 0 + a]? = some (vp_cell _ _)
  rw [ee]
  rw [vp_cell_q, vp_cell_q, arrV_store]
  congr 2
  funext q
  by_cases hq : q = i.toNatClampNeg
  · subst hq
    simp [updV, va_up, va_rf]
  · simp [updV, va_up, hq]
theorem g_objInit {b : Nat} (hd : decode mi.2.1 pc = .ok (.invokespecial idx, 3)) (hlk : Cond.methodLink mi.1 idx Lib.objectInit ∈ lw_g) (ho : Cond.instanceMethod Lib.objectInit ∈ lw_g ∧ Cond.code Lib.objectInit ⟨#[0xb1]⟩ 1 none ∈ lw_g) (hdd : 1 ≤ d) (hst : (st.map fun v => v.category).sum ≤ 8) (k : G κ d mi (pc + 3) lv st n w cr sr Q) : G κ d mi pc lv (.ref b :: st) n w cr sr Q := by
  intro p l e R s m args below meth c H locs cells slots mc ms Z ls hX hl hw hS h1 h2 h3 h4 hE
  obtain ⟨hx, hbc, hml, hown, hts, hK, hT, hNn, h0, ⟨hf, hlo⟩, hmn⟩ := id hX
  have hroom := lv_room (m := m) (pc := pc) (ls := ls) (rest := .ref b :: st) hst
  exact W.objInit hx hbc hown (hts _ hlk) (hts _ ho.1) (hts _ ho.2) rfl (hl.1.trans hml.symm) rfl hd (by omega) (by omega) (k p l e R s m args below meth c H locs cells slots mc ms Z ls hX hl hw hS h1 h2 h3 h4 hE)
end GA
end
section
section GM
variable {κ : Nat → Nat} {d : Nat} {mi : gMI} {pc : Nat} {lv : List (Nat × Value)} {st : List Value} {n : Nat} {w : gWd} {cr sr : Nat} {Q Q' : gQ} {a idx : Nat} {y : MethodName} {mi' : gMI} {d' mc' ms' : Nat} {As : List Value}
set_option maxHeartbeats 1000000 in
/-- a call on a constant object -/
theorem g_callVT {b : Nat} (hM : CT κ d' y mi' (.ref b :: As) n w mc' ms' Q') (hd : decode mi.2.1 pc = .ok (.invokevirtual idx, 3)) (hY : gYV y mi') (hlk : Cond.methodLink mi.1 idx y ∈ lw_g) (hrc : ∀ U H, gT κ U H → ∃ cell : Cell, H[b]? = some cell ∧ cell.vm.isStatics = false ∧ U.vm.findClass y.cls = some cell.cls) (hdd : d' + 1 ≤ d)
    (hlen : (parseMethodDescriptor y.desc).map (fun d => d.parameters.length) = some As.length) (hst : (st.map fun v => v.category).sum ≤ 8) (hcr : mc' ≤ cr) (hsr : ms' ≤ sr)
    (k : ∀ v n' w', Q' v n' w' → G κ d mi (pc + 3) lv (v.toList ++ st) n' w' (cr - mc') (sr - ms') Q) : G κ d mi pc lv (As.reverse ++ .ref b :: st) n w cr sr Q := by
  intro p l e R s m args below meth c H locs cells slots mc ms Z ls hX hl hw hS h1 h2 h3 h4 hE
  obtain ⟨hx, hbc, hml, hown, hts, hK, hT, hN, h0, ⟨hf, hlo⟩, -⟩ := id hX
  obtain ⟨⟨y1, y2, y3, y4⟩, hy, hm80⟩ := hY
  have hE1 : va_Run p l e R s m args below meth c H locs cells slots mc' ms' (F0 m pc ls (As.reverse ++ .ref b :: st)) st (gQc κ Q' (Value.ref b :: As).toArray) (gA κ) := by
    refine va_runV (C := y.cls) (bytes := mi'.2.1) (maxL := mi'.2.2.1) (ret := mi'.2.2.2.2) (n := As.length) (As := As) (rest := st) ⟨hx, hbc, hml, hown, hts⟩ (hM l) (cwV As.length hts (gGood _ ?_) rfl rfl rfl ⟨rfl, hy.1, hy.2, hlen⟩ ⟨by show d' + 1 ≤ R.frames; omega, by show 8 + (mi'.2.2.1 + 11) + 100 * d' ≤ R.locals; omega⟩) ⟨gPc_blind, hrc s H (hT.kept hS.2.1), gPre hK hT hN hw hS⟩ rfl rfl hl.1 rfl (lv_room hst) hd ⟨by omega, by omega⟩
    intro w hw
    simp only [wsV, List.mem_append, List.mem_cons, List.not_mem_nil, or_false, gWs] at hw
    rcases hw with (rfl | rfl | rfl | rfl) | rfl | hw
    · exact hlk
    · exact y1
    · exact y2
    · exact y3
    · exact y4
    · exact hw
  exact gRun hX hl hS h1 h2 h3 h4 hE hcr hsr hE1 k
set_option maxHeartbeats 1000000 in
/-- arraycopy of int rows, one to another -/
theorem g_copyi {a0 N0 N1 : Nat} {f g : Nat → Int32} {sp dp x : Int32} (hd : decode mi.2.1 pc = .ok (.invokestatic idx, 3)) (hlk : Cond.methodLink mi.1 idx arraycopyName ∈ lw_g) (hs : Cond.native arraycopyName ∈ lw_g ∧ Cond.static arraycopyName ∈ lw_g ∧ Cond.initialized "java/lang/System" ∈ lw_g) (ha0 : a0 < n) (ha : a < n) (hne : a0 ≠ a) (hw0 : w a0 = .inl (κ 30, N0, .inl f)) (hwa : w a = .inl (κ 30, N1, .inl g))
    (g1 : ¬ sp < 0) (g2 : ¬ dp < 0) (g3 : ¬ x < 0) (g4 : sp.toNatClampNeg + x.toNatClampNeg ≤ N0) (g5 : dp.toNatClampNeg + x.toNatClampNeg ≤ N1) (hdd : 1 ≤ d) (hst : (st.map fun v => v.category).sum ≤ 8)
    (k : G κ d mi (pc + 3) lv st n (va_up w a (.inl (κ 30, N1, .inl (va_cpy f g sp.toNatClampNeg dp.toNatClampNeg x.toNatClampNeg)))) cr sr Q) : G κ d mi pc lv (.int x :: .int dp :: .ref (κ 0 + a) :: .int sp :: .ref (κ 0 + a0) :: st) n w cr sr Q := by
  intro p l e R s m args below meth c H locs cells slots mc ms Z ls hX hl hw hS h1 h2 h3 h4 hE
  obtain ⟨hx, hbc, hml, hown, hts, hK, hT, hN, h0, ⟨hf, hlo⟩, -⟩ := id hX
  have hnat : nativeFrameWords "java/lang/System" "arraycopy" 5 + 11 ≤ 90 := by decide
  intro T hTT X
  have hwa' : (gL κ n w)[a]? = some (κ 0 + a, .inl (κ 30, N1, .inl g)) := by rw [gL_at ha, hwa]
  have hw0' : (gL κ n w)[a0]? = some (κ 0 + a0, .inl (κ 30, N0, .inl f)) := by rw [gL_at ha0, hw0]
  have hc0 : H[κ 0 + a0]? = some (vp_cell (κ 30) (N0, .inl f)) := hw.1 a0 _ hw0'
  have hc1 : H[κ 0 + a]? = some (vp_cell (κ 30) (N1, .inl g)) := hw.1 a _ hwa'
  have nn : ∀ z : Int32, ¬ z < 0 → z.toInt = (z.toNatClampNeg : Int) := by
    intro z hz
    have hz0 : (0 : Int) ≤ z.toInt := by
      have := Int32.not_lt.mp hz
      simpa using Int32.le_iff_toInt_le.mp this
    show z.toInt = ((z.toInt.toNat : Nat) : Int)
    omega
  obtain ⟨-, k0, hk0, cm0, hkk0⟩ := (hK.2 0 _ rfl).1 N0 (fun j => .int (f j))
  obtain ⟨-, k1, hk1, cm1, hkk1⟩ := (hK.2 0 _ rfl).1 N1 (fun j => .int (g j))
  obtain ⟨vm', X', step⟩ := X.arraycopy hx hown (hts _ hlk) (hts _ hs.1) (hts _ hs.2.1) (hts _ hs.2.2) (src := κ 0 + a0) (dst := κ 0 + a) (cs := vp_cell (κ 30) (N0, .inl f)) (cd := vp_cell (κ 30) (N1, .inl g)) (srcPos := sp) (destPos := dp) (n := x) (by rw [hTT]; exact hc0) (by rw [hTT]; exact hc1)
    (fun _ h => by cases h) (fun _ h => by cases h) (fun h => by cases h) (fun h => by cases h) hk0 hk1 hkk0 hkk1 (by simp [refKind]) g1 g2 g3
    (by rw [nn sp g1, nn x g3]; show ¬ _ > ((arrV (κ 30) N0 (fun j => .int (f j))).slots.size : Int); rw [arrV_size]; omega)
    (by rw [nn dp g2, nn x g3]; show ¬ _ > ((arrV (κ 30) N1 (fun j => .int (g j))).slots.size : Int); rw [arrV_size]; omega)
    (fun vm₁ _ i hi => by
      have ee : (vp_cell (κ 30) (N0, .inl f)).slots.getD (sp.toNatClampNeg + i) .null = .int (f (sp.toNatClampNeg + i)) := by
        show (arrV (κ 30) N0 (fun j => .int (f j))).slots.getD _ _ = _
        rw [Array.getD_eq_getD_getElem?, arrV_read _ _ (by omega)]
        rfl
      refine ⟨?_, ?_⟩
      · rw [ee]
        rfl
      · rw [ee]
        exact trivial)
    (g := F0 m pc ls (.int x :: .int dp :: .ref (κ 0 + a) :: .int sp :: .ref (κ 0 + a0) :: st)) rfl (by rw [hml]; exact hl.1) (rest := st) rfl (by rw [hbc]; exact hd) (by omega) (by show 2 * 0 + _ + _ ≤ _; omega)
  have e1 : copied (vp_cell (κ 30) (N0, .inl f)) (vp_cell (κ 30) (N1, .inl g)) sp dp x = vp_cell (κ 30) (N1, .inl (va_cpy f g sp.toNatClampNeg dp.toNatClampNeg x.toNatClampNeg)) := va_copied (fun z => .int z) (κ 30) (κ 30) f g g4
  rw [e1] at X' step
  have hlt : κ 0 + a < H.size := (Array.getElem?_eq_some_iff.mp hc1).1
  have hheap : ((T.setVm vm').setCell (κ 0 + a) (vp_cell (κ 30) (N1, .inl (va_cpy f g sp.toNatClampNeg dp.toNatClampNeg x.toNatClampNeg)))).heap = H.setIfInBounds (κ 0 + a) (vp_cell (κ 30) (N1, .inl (va_cpy f g sp.toNatClampNeg dp.toNatClampNeg x.toNatClampNeg))) := by rw [← hTT]; rfl
  have oq : ∀ q : Nat, q ≠ κ 0 + a → (H.setIfInBounds (κ 0 + a) (vp_cell (κ 30) (N1, .inl (va_cpy f g sp.toNatClampNeg dp.toNatClampNeg x.toNatClampNeg))))[q]? = H[q]? := fun q hq => by simp [Array.getElem?_setIfInBounds, Ne.symm hq]
  have hS' : ∀ L : List Loc, (∀ q ∈ L, q.base = κ 0 + a) → va_S (gA κ) s.heap (H.setIfInBounds (κ 0 + a) (vp_cell (κ 30) (N1, .inl (va_cpy f g sp.toNatClampNeg dp.toNatClampNeg x.toNatClampNeg)))) (locs ++ L) := fun L hL => ⟨by simp; exact hS.1, fun q g1 g2 => by
      rw [oq q (fun e => g2 (by show κ 0 ≤ q; omega))]
      exact hS.2.1 q g1 g2, fun q hq => by
      rcases List.mem_append.mp hq with h | h
      · exact hS.2.2 q h
      · rw [hL q h]
        show κ 0 ≤ κ 0 + a
        omega⟩
  obtain ⟨t, a1, b1⟩ := k p l e R s m args below meth c _ _ cells slots mc ms Z ls hX hl (gW_set ha hw (by simp) (hw.1.set gL_D hwa' (show (H.setIfInBounds (κ 0 + a) _)[κ 0 + a]? = some _ by simp [Array.getElem?_setIfInBounds, hlt]) oq)) (hS' _ (fun q hq => by
      obtain ⟨z, -, hz⟩ := List.mem_map.mp hq
      rw [← hz])) h1 h2 h3 h4 hE _ hheap X'
  exact ⟨t, step t a1, b1⟩
end GM
end
section
/-! The layout: which cell is what, in the order in which the two constructors make them (wip/whole/layout.py). -/
def kdL : List Nat := [9, 7, 23, 6, 6, 6, 6, 6, 3, 20, 0, 26, 20, 20, 20, 20, 5, 24, 8, 8, 8, 8, 8, 4, 22, 5, 24, 8, 8, 8, 8, 8, 5, 24, 8, 8, 8, 8, 8, 5, 24, 8, 8, 8, 8, 8, 5, 24, 8, 8, 8, 8, 8, 5, 24, 8, 8, 8, 8, 8, 5, 24, 8, 8, 8, 8, 8, 5, 24, 8, 8, 8, 8, 8, 5, 24, 8, 8, 8, 8, 8, 22, 5, 24, 8, 8, 8, 8, 8, 5, 24, 8, 8, 8, 8, 8, 21, 2, 25, 20, 20, 20, 20, 20, 8, 20, 1, 25, 20, 20, 20, 20, 20, 20, 20, 20, 20, 20, 20, 20, 20, 20, 20, 20, 20, 20, 20, 20, 25, 20, 20, 20, 20, 20, 20, 20, 8, 20, 20, 20, 10, 20, 20, 20, 20, 20, 21, 20, 20, 20, 20]
def lnL : List Nat := [0, 0, 5, 0, 0, 0, 0, 0, 0, 160, 0, 12, 14, 14, 14, 14, 0, 5, 0, 0, 0, 0, 0, 0, 8, 0, 5, 0, 0, 0, 0, 0, 0, 5, 0, 0, 0, 0, 0, 0, 5, 0, 0, 0, 0, 0, 0, 5, 0, 0, 0, 0, 0, 0, 5, 0, 0, 0, 0, 0, 0, 5, 0, 0, 0, 0, 0, 0, 5, 0, 0, 0, 0, 0, 0, 5, 0, 0, 0, 0, 0, 2, 0, 5, 0, 0, 0, 0, 0, 0, 5, 0, 0, 0, 0, 0, 2, 0, 5, 99, 99, 99, 99, 99, 0, 100, 0, 20, 40, 40, 40, 40, 40, 40, 40, 40, 40, 40, 40, 40, 40, 40, 40, 40, 40, 40, 40, 40, 6, 40, 40, 40, 40, 40, 40, 5, 0, 5, 6, 6, 0, 31, 35, 160, 31, 280, 2, 70, 35, 5, 12]
def kd (a : Nat) : Nat := kdL.getD a 99
def ln (a : Nat) : Nat := lnL.getD a 0
/-- how many fields a class has -/
def nfL : List Nat := [7, 10, 7, 5, 3, 6, 5, 8, 5, 12, 20]
/-- the cell that a field of a class at a refers to; none: it is an int -/
def rfO (a c k : Nat) : Option Nat := match c, k with
  | 0, 0 => some 11
  | 0, 1 => some 12
  | 0, 2 => some 13
  | 0, 3 => some 14
  | 0, 4 => some 15
  | 1, 0 => some 1
  | 1, 1 => some 107
  | 1, 2 => some 128
  | 1, 3 => some 135
  | 1, 4 => some 136
  | 1, 5 => some 137
  | 2, 0 => some 1
  | 2, 1 => some 98
  | 2, 2 => some 104
  | 2, 3 => some 105
  | 3, 0 => some 9
  | 4, 0 => some 24
  | 5, 5 => some (a + 1)
  | 7, 0 => some 2
  | 9, 0 => some 1
  | 9, 1 => some 8
  | 9, 2 => some 10
  | 9, 3 => some 16
  | 9, 4 => some 23
  | 9, 5 => some 81
  | 9, 6 => some 96
  | 9, 7 => some 97
  | 9, 8 => some 106
  | 9, 9 => some 138
  | 9, 10 => some 139
  | 10, 0 => some 141
  | 10, 2 => some 142
  | 10, 3 => some 143
  | 10, 9 => some 144
  | 10, 12 => some 145
  | 10, 14 => some 146
  | 10, 15 => some 147
  | 10, 16 => some 148
  | 10, 17 => some 149
  | 10, 18 => some 150
  | _, _ => none
/-- the cell that an array of references has at j -/
def rfA (a j : Nat) : Nat := if kd a = 22 then a + 1 + 7 * j else a + 1 + j
def gFld (κ : Nat → Nat) (μ : gMem) (a c k : Nat) : Value := match rfO a c k with
  | some r => .ref (κ 0 + r)
  | none => .int (μ a k)
def gFs (κ : Nat → Nat) (μ : gMem) (a c : Nat) : List Value := (List.range (nfL.getD c 0)).map (gFld κ μ a c)
def gRow (κ : Nat → Nat) (a : Nat) : (Nat → Int32) ⊕ (Nat → Int64) ⊕ (Nat → UInt32) ⊕ (Nat → UInt64) ⊕ (Nat → Option Nat) := .inr (.inr (.inr (.inr (fun j => if j < ln a then some (κ 0 + rfA a j) else none))))
def wOf (κ : Nat → Nat) (μ : gMem) (a : Nat) : va_E := match kd a with
  | 20 => .inl (κ 30, ln a, .inl (μ a))
  | 21 => .inl (κ 31, ln a, .inl (μ a))
  | 22 => .inl (κ 32, ln a, gRow κ a)
  | 23 => .inl (κ 33, ln a, gRow κ a)
  | 24 => .inl (κ 34, ln a, gRow κ a)
  | 25 => .inl (κ 35, ln a, gRow κ a)
  | 26 => .inl (κ 36, 12, .inr (.inr (.inr (.inr (fun j => if j < 12 then some (κ (40 + j)) else none)))))
  | c => .inr (c, gFs κ μ a c)
def st (μ : gMem) (a k : Nat) (v : Int32) : gMem := fun a' => if a' = a then upd (μ a) k v else μ a'
theorem wOf_int {κ : Nat → Nat} {μ : gMem} {a : Nat} (h : kd a = 20) : wOf κ μ a = .inl (κ 30, ln a, .inl (μ a)) := by unfold wOf; rw [h]; rfl
theorem wOf_bool {κ : Nat → Nat} {μ : gMem} {a : Nat} (h : kd a = 21) : wOf κ μ a = .inl (κ 31, ln a, .inl (μ a)) := by unfold wOf; rw [h]; rfl
theorem wOf_word {κ : Nat → Nat} {μ : gMem} {a : Nat} (h : kd a = 26) : wOf κ μ a = .inl (κ 36, 12, .inr (.inr (.inr (.inr (fun j => if j < 12 then some (κ (40 + j)) else none))))) := by unfold wOf; rw [h]; rfl
theorem wOf_obj {κ : Nat → Nat} {μ : gMem} {a c : Nat} (h : kd a = c) (hc : c < 11) : wOf κ μ a = .inr (c, gFs κ μ a c) := by
  unfold wOf
  rw [h]
  match c, hc with
  | 0, _ | 1, _ | 2, _ | 3, _ | 4, _ | 5, _ | 6, _ | 7, _ | 8, _ | 9, _ | 10, _ => rfl
theorem wOf_refs {κ : Nat → Nat} {μ : gMem} {a c : Nat} (h : kd a = c) (h1 : 22 ≤ c) (h2 : c ≤ 25) : wOf κ μ a = .inl (κ (c + 10), ln a, gRow κ a) := by
  unfold wOf
  rw [h]
  have : c = 22 ∨ c = 23 ∨ c = 24 ∨ c = 25 := by omega
  rcases this with rfl | rfl | rfl | rfl <;> rfl
theorem gFs_at {κ : Nat → Nat} {μ : gMem} {a c k : Nat} (h : k < nfL.getD c 0) : (gFs κ μ a c)[k]? = some (gFld κ μ a c k) := by
  unfold gFs
  rw [List.getElem?_map, List.getElem?_range h]
  rfl
theorem st_ne {μ : gMem} {a b k : Nat} {v : Int32} (h : b ≠ a) : st μ a k v b = μ b := by unfold st; rw [if_neg h]
theorem st_eq {μ : gMem} {a k : Nat} {v : Int32} : st μ a k v a = upd (μ a) k v := by unfold st; rw [if_pos rfl]
theorem wOf_ne {κ : Nat → Nat} {μ : gMem} {a b k : Nat} {v : Int32} (h : b ≠ a) : wOf κ (st μ a k v) b = wOf κ μ b := by
  have hf : ∀ c, gFs κ (st μ a k v) b c = gFs κ μ b c := fun c => by
    unfold gFs
    apply List.map_congr_left
    intro j _
    unfold gFld
    rw [st_ne h]
  unfold wOf
  simp only [st_ne h, hf]
theorem wOf_stI {κ : Nat → Nat} {μ : gMem} {a k : Nat} {v : Int32} (h : kd a = 20) : va_up (wOf κ μ) a (.inl (κ 30, ln a, .inl (upd (μ a) k v))) = wOf κ (st μ a k v) := by
  funext b
  by_cases hb : b = a
  · subst hb
    rw [wOf_int h, st_eq]
    simp [va_up]
  · rw [wOf_ne hb]
    simp [va_up, hb]
theorem wOf_stZ {κ : Nat → Nat} {μ : gMem} {a k : Nat} {v : Int32} (h : kd a = 21) : va_up (wOf κ μ) a (.inl (κ 31, ln a, .inl (upd (μ a) k v))) = wOf κ (st μ a k v) := by
  funext b
  by_cases hb : b = a
  · subst hb
    rw [wOf_bool h, st_eq]
    simp [va_up]
  · rw [wOf_ne hb]
    simp [va_up, hb]
theorem wOf_stO {κ : Nat → Nat} {μ : gMem} {a c k : Nat} {v : Int32} (h : kd a = c) (hc : c < 11) (hr : rfO a c k = none) : va_up (wOf κ μ) a (.inr (c, (gFs κ μ a c).set k (.int v))) = wOf κ (st μ a k v) := by
  funext b
  by_cases hb : b = a
  · subst hb
    rw [wOf_obj h hc]
    simp only [va_up, if_true]
    congr 2
    apply List.ext_getElem?
    intro i
    by_cases hi : i < nfL.getD c 0
    · by_cases hk : i = k
      · subst hk
        rw [List.getElem?_set_self (by simp [gFs]; simpa using hi), gFs_at hi]
        simp [gFld, hr, st_eq, upd]
      · rw [List.getElem?_set_ne (Ne.symm hk), gFs_at hi, gFs_at hi]
        unfold gFld
        rw [st_eq]
        simp [upd, hk]
    · rw [List.getElem?_eq_none (by simp [gFs]; simpa using hi), List.getElem?_eq_none (by simp [gFs]; simpa using hi)]
  · rw [wOf_ne hb]
    simp [va_up, hb]
theorem gC0 : gCl 0 RX0 TX0 7 tyX0 := ⟨rfl, by decide +kernel, tyX0_ok, nmX0⟩
theorem gC1 : gCl 1 RX1 TX1 10 tyX1 := ⟨rfl, by decide +kernel, tyX1_ok, nmX1⟩
theorem gC2 : gCl 2 RX2 TX2 7 tyX2 := ⟨rfl, by decide +kernel, tyX2_ok, nmX2⟩
theorem gC3 : gCl 3 RX3 TX3 5 tyX3 := ⟨rfl, by decide +kernel, tyX3_ok, nmX3⟩
theorem gC4 : gCl 4 RX4 TX4 3 tyX4 := ⟨rfl, by decide +kernel, tyX4_ok, nmX4⟩
theorem gC5 : gCl 5 RX5 TX5 6 tyX5 := ⟨rfl, by decide +kernel, tyX5_ok, nmX5⟩
theorem gC6 : gCl 6 RX6 TX6 5 tyX6 := ⟨rfl, by decide +kernel, tyX6_ok, nmX6⟩
theorem gC7 : gCl 7 RX7 TX7 8 tyX7 := ⟨rfl, by decide +kernel, tyX7_ok, nmX7⟩
theorem gC8 : gCl 8 RX8 TX8 5 tyX8 := ⟨rfl, by decide +kernel, tyX8_ok, nmX8⟩
theorem gC9 : gCl 9 RX10 TX10 12 tyX10 := ⟨rfl, by decide +kernel, tyX10_ok, nmX10⟩
theorem gC10 : gCl 10 RX11 TX11 20 tyX11 := ⟨rfl, by decide +kernel, tyX11_ok, nmX11⟩
end
section
/-! RR: G over the world of the layout, with the memory μ. N cells stand (140: SieveTub alone; 151: both). -/
abbrev rQ : Type := Option Value → gMem → Prop
def RQ (κ : Nat → Nat) (N : Nat) (Q : rQ) : gQ := fun v n w => ∃ μ' : gMem, n = N ∧ w = wOf κ μ' ∧ Q v μ'
abbrev RR (κ : Nat → Nat) (N d : Nat) (mi : gMI) (pc : Nat) (lv : List (Nat × Value)) (sk : List Value) (μ : gMem) (Q : rQ) : Prop := G κ d mi pc lv sk N (wOf κ μ) 0 0 (RQ κ N Q)
abbrev CT2 (κ : Nat → Nat) (N d : Nat) (y : MethodName) (mi : gMI) (av : List Value) (μ : gMem) (Q : rQ) : Prop := CT κ d y mi av N (wOf κ μ) 0 0 (RQ κ N Q)
/-- ends: an int, a boolean, a long, nothing; the memory behind it -/
def qI (r : Int32) (μ' : gMem) : rQ := fun v m => v = some (.int r) ∧ m = μ'
def qZ (r : Int32) (μ' : gMem) : rQ := fun v m => v = some (.int r) ∧ m = μ' ∧ narrow .boolean (.int r) = .int r
def qL (r : Int64) (μ' : gMem) : rQ := fun v m => v = some (.long r) ∧ m = μ'
def qV (μ' : gMem) : rQ := fun v m => v = none ∧ m = μ'
def inb (i : Int32) (n : Nat) : Bool := !(decide (i < 0) || decide (n ≤ i.toNatClampNeg))
theorem inb_in {i : Int32} {n : Nat} (h : inb i n = true) : vp_in i n := by
  unfold inb at h
  unfold vp_in
  simpa using h
def lt {α β : Type} (x : α) (f : α → β) : β := f x
theorem lt_of {α β : Type} {x y : α} {f : α → β} (e : y = x) : lt x f = f y := by rw [e]; rfl
theorem gd_some {α : Type} {c : Prop} [Decidable c] {t : Option α} {z : α} (h : (if c then t else none) = some z) : c ∧ t = some z := by
  by_cases hc : c
  · rw [if_pos hc] at h
    exact ⟨hc, h⟩
  · rw [if_neg hc] at h
    cases h
theorem gd_some' {α : Type} {c : Prop} [Decidable c] {t : Option α} {z : α} (h : (if c then none else t) = some z) : ¬ c ∧ t = some z := by
  by_cases hc : c
  · rw [if_pos hc] at h
    cases h
  · rw [if_neg hc] at h
    exact ⟨hc, h⟩
section RRR
variable {κ : Nat → Nat} {N d : Nat} {mi : gMI} {pc : Nat} {lv : List (Nat × Value)} {sk : List Value} {μ : gMem} {Q : rQ} {a idx : Nat}
theorem r_getI {c nf : Nat} {C : String} {T : u_T} {ty : Nat → FieldType} (j : Nat) (hc : gCl c C T nf ty) (hs : c < 11 ∧ j < nf ∧ j < nfL.getD c 0) (hr : ∀ a, rfO a c j = none) (hlk : Cond.fieldLink mi.1 idx (T j).1 (T j).2.1 (T j).2.2.1 ∈ lw_g) (hd : decode mi.2.1 pc = .ok (.getfield idx, 3)) (ha : a < N) (hk : kd a = c)
    (k : RR κ N d mi (pc + 3) lv (.int (μ a j) :: sk) μ Q) : RR κ N d mi pc lv (.ref (κ 0 + a) :: sk) μ Q :=
  g_get j hd hc hlk ha (wOf_obj hk hs.1) hs.2.1 (by rw [gFs_at hs.2.2]; unfold gFld; rw [hr a]) k
theorem r_getR {c nf : Nat} {C : String} {T : u_T} {ty : Nat → FieldType} (j r : Nat) (hc : gCl c C T nf ty) (hs : c < 11 ∧ j < nf ∧ j < nfL.getD c 0) (hr : rfO a c j = some r) (hlk : Cond.fieldLink mi.1 idx (T j).1 (T j).2.1 (T j).2.2.1 ∈ lw_g) (hd : decode mi.2.1 pc = .ok (.getfield idx, 3)) (ha : a < N) (hk : kd a = c)
    (k : RR κ N d mi (pc + 3) lv (.ref (κ 0 + r) :: sk) μ Q) : RR κ N d mi pc lv (.ref (κ 0 + a) :: sk) μ Q :=
  g_get j hd hc hlk ha (wOf_obj hk hs.1) hs.2.1 (by rw [gFs_at hs.2.2]; unfold gFld; rw [hr]) k
theorem r_putI {c nf : Nat} {C : String} {T : u_T} {ty : Nat → FieldType} {v : Int32} (j : Nat) (hc : gCl c C T nf ty) (hs : c < 11 ∧ j < nf ∧ j < nfL.getD c 0) (hr : ∀ a, rfO a c j = none) (ht : ty j = .int ∧ (T j).2.2.2 = false) (hlk : Cond.fieldLink mi.1 idx (T j).1 (T j).2.1 (T j).2.2.1 ∈ lw_g) (hd : decode mi.2.1 pc = .ok (.putfield idx, 3)) (ha : a < N) (hk : kd a = c)
    (k : ∀ m : gMem, m = st μ a j v → RR κ N d mi (pc + 3) lv sk m Q) : RR κ N d mi pc lv (.int v :: .ref (κ 0 + a) :: sk) μ Q := by
  refine g_put j hd hc hlk ha (wOf_obj hk hs.1) hs.2.1 ht.2 (by rw [ht.1]; rfl) (by rw [ht.1]; rfl) (by simp [gFs]; simpa using hs.2.2) ?_
  rw [wOf_stO hk hs.1 (hr a)]
  exact k _ rfl
theorem r_iald {i : Int32} (n : Nat) (hd : decode mi.2.1 pc = .ok (.iaload, 1)) (ha : a < N) (hk : kd a = 20) (hn : ln a = n) (hin : inb i n = true) (k : RR κ N d mi (pc + 1) lv (.int (μ a i.toNatClampNeg) :: sk) μ Q) : RR κ N d mi pc lv (.int i :: .ref (κ 0 + a) :: sk) μ Q := by
  subst hn
  exact g_iald hd ha (wOf_int hk) (inb_in hin) k
theorem r_zald {i : Int32} (n : Nat) (hd : decode mi.2.1 pc = .ok (.baload, 1)) (ha : a < N) (hk : kd a = 21) (hn : ln a = n) (hin : inb i n = true) (k : RR κ N d mi (pc + 1) lv (.int (μ a i.toNatClampNeg) :: sk) μ Q) : RR κ N d mi pc lv (.int i :: .ref (κ 0 + a) :: sk) μ Q := by
  subst hn
  exact g_zald hd ha (wOf_bool hk) (inb_in hin) k
theorem r_iast {i x : Int32} (n : Nat) (hd : decode mi.2.1 pc = .ok (.iastore, 1)) (ha : a < N) (hk : kd a = 20) (hn : ln a = n) (hin : inb i n = true) (k : ∀ m : gMem, m = st μ a i.toNatClampNeg x → RR κ N d mi (pc + 1) lv sk m Q) : RR κ N d mi pc lv (.int x :: .int i :: .ref (κ 0 + a) :: sk) μ Q := by
  subst hn
  refine g_iast hd ha (wOf_int hk) (inb_in hin) ?_
  rw [wOf_stI hk]
  exact k _ rfl
theorem r_zast {i x : Int32} (n : Nat) (hd : decode mi.2.1 pc = .ok (.bastore, 1)) (ha : a < N) (hk : kd a = 21) (hn : ln a = n) (hin : inb i n = true) (hx : vp_nar .boolean x = x) (k : ∀ m : gMem, m = st μ a i.toNatClampNeg x → RR κ N d mi (pc + 1) lv sk m Q) : RR κ N d mi pc lv (.int x :: .int i :: .ref (κ 0 + a) :: sk) μ Q := by
  subst hn
  refine g_zast hd ha (wOf_bool hk) (inb_in hin) hx ?_
  rw [wOf_stZ hk]
  exact k _ rfl
theorem r_aald {i : Int32} (c n r : Nat) (hd : decode mi.2.1 pc = .ok (.aaload, 1)) (ha : a < N) (hk : kd a = c) (h1 : 22 ≤ c ∧ c ≤ 25) (hn : ln a = n) (hin : inb i n = true) (hr : (if c = 22 then a + 1 + 7 * i.toNatClampNeg else a + 1 + i.toNatClampNeg) = r) (k : RR κ N d mi (pc + 1) lv (.ref (κ 0 + r) :: sk) μ Q) : RR κ N d mi pc lv (.int i :: .ref (κ 0 + a) :: sk) μ Q := by
  subst hn
  have hv := inb_in hin
  have hlt : i.toNatClampNeg < ln a := Nat.not_le.mp fun q => hv (Or.inr q)
  have hc4 : c = 22 ∨ c = 23 ∨ c = 24 ∨ c = 25 := by omega
  have hval : va_rf (if i.toNatClampNeg < ln a then some (κ 0 + rfA a i.toNatClampNeg) else none) = .ref (κ 0 + r) := by
    rw [if_pos hlt]
    unfold rfA
    rw [hk, hr]
    rfl
  rcases hc4 with rfl | rfl | rfl | rfl
  · exact g_aald (t0 := 2) hd ha (wOf_refs hk h1.1 h1.2) rfl rfl hv hval k
  · exact g_aald (t0 := 3) hd ha (wOf_refs hk h1.1 h1.2) rfl rfl hv hval k
  · exact g_aald (t0 := 4) hd ha (wOf_refs hk h1.1 h1.2) rfl rfl hv hval k
  · exact g_aald (t0 := 5) hd ha (wOf_refs hk h1.1 h1.2) rfl rfl hv hval k
theorem r_aaldW {i : Int32} (hd : decode mi.2.1 pc = .ok (.aaload, 1)) (ha : a < N) (hk : kd a = 26) (hin : inb i 12 = true) (k : RR κ N d mi (pc + 1) lv (.ref (κ (40 + i.toNatClampNeg)) :: sk) μ Q) : RR κ N d mi pc lv (.int i :: .ref (κ 0 + a) :: sk) μ Q := by
  have hv := inb_in hin
  have hlt : i.toNatClampNeg < 12 := Nat.not_le.mp fun q => hv (Or.inr q)
  exact g_aald (t0 := 6) hd ha (wOf_word hk) rfl rfl hv (by rw [if_pos hlt]; rfl) k
theorem r_alenI (n : Nat) (hd : decode mi.2.1 pc = .ok (.arraylength, 1)) (ha : a < N) (hk : kd a = 20) (hn : ln a = n) (k : RR κ N d mi (pc + 1) lv (.int (Int32.ofNat n) :: sk) μ Q) : RR κ N d mi pc lv (.ref (κ 0 + a) :: sk) μ Q := by
  subst hn
  exact g_alen (t0 := 0) hd ha (wOf_int hk) rfl rfl k
theorem r_alenW (hd : decode mi.2.1 pc = .ok (.arraylength, 1)) (ha : a < N) (hk : kd a = 26) (k : RR κ N d mi (pc + 1) lv (.int (Int32.ofNat 12) :: sk) μ Q) : RR κ N d mi pc lv (.ref (κ 0 + a) :: sk) μ Q :=
  g_alen (t0 := 6) hd ha (wOf_word hk) rfl rfl k
theorem r_copyi {a0 : Nat} {sp dp x : Int32} (n0 n1 : Nat) (hd : decode mi.2.1 pc = .ok (.invokestatic idx, 3)) (hlk : Cond.methodLink mi.1 idx arraycopyName ∈ lw_g) (hs : Cond.native arraycopyName ∈ lw_g ∧ Cond.static arraycopyName ∈ lw_g ∧ Cond.initialized "java/lang/System" ∈ lw_g) (ha0 : a0 < N) (ha : a < N) (hne : a0 ≠ a) (hk0 : kd a0 = 20) (hk : kd a = 20) (hn0 : ln a0 = n0) (hn1 : ln a = n1)
    (g1 : ¬ sp < 0) (g2 : ¬ dp < 0) (g3 : ¬ x < 0) (g4 : sp.toNatClampNeg + x.toNatClampNeg ≤ n0) (g5 : dp.toNatClampNeg + x.toNatClampNeg ≤ n1) (hdd : 1 ≤ d) (hst : (sk.map fun v => v.category).sum ≤ 8)
    (k : ∀ m : gMem, m = (fun q => if q = a then va_cpy (μ a0) (μ a) sp.toNatClampNeg dp.toNatClampNeg x.toNatClampNeg else μ q) → RR κ N d mi (pc + 3) lv sk m Q) : RR κ N d mi pc lv (.int x :: .int dp :: .ref (κ 0 + a) :: .int sp :: .ref (κ 0 + a0) :: sk) μ Q := by
  subst hn0
  subst hn1
  refine g_copyi hd hlk hs ha0 ha hne (wOf_int hk0) (wOf_int hk) g1 g2 g3 g4 g5 hdd hst ?_
  have h := k _ rfl
  have e : va_up (wOf κ μ) a (.inl (κ 30, ln a, .inl (va_cpy (μ a0) (μ a) sp.toNatClampNeg dp.toNatClampNeg x.toNatClampNeg))) = wOf κ (fun q => if q = a then va_cpy (μ a0) (μ a) sp.toNatClampNeg dp.toNatClampNeg x.toNatClampNeg else μ q) := by
    funext b
    by_cases hb : b = a
    · subst hb
      rw [wOf_int hk]
      simp [va_up]
    · have hf : ∀ c, gFs κ (fun q => if q = a then va_cpy (μ a0) (μ a) sp.toNatClampNeg dp.toNatClampNeg x.toNatClampNeg else μ q) b c = gFs κ μ b c := fun c => by
        unfold gFs
        apply List.map_congr_left
        intro j _
        unfold gFld
        simp only [hb, if_false]
      simp only [va_up, hb, if_false]
      unfold wOf
      simp only [hf, hb, if_false]
  rw [e]
  exact h
theorem r_iret {x r : Int32} {μ' : gMem} (hd : decode mi.2.1 pc = .ok (.ireturn, 1)) (hr : mi.2.2.2.2 = some .int) (h1 : x = r) (h2 : μ = μ') : RR κ N d mi pc lv [.int x] μ (qI r μ') := g_iret hd hr ⟨μ, rfl, rfl, by rw [h1], h2⟩
theorem r_zret {x r : Int32} {μ' : gMem} (hd : decode mi.2.1 pc = .ok (.ireturn, 1)) (hr : mi.2.2.2.2 = some .boolean) (hx : narrow .boolean (.int x) = .int x) (h1 : x = r) (h2 : μ = μ') : RR κ N d mi pc lv [.int x] μ (qZ r μ') := g_zret hd hr hx ⟨μ, rfl, rfl, by rw [h1], h2, by rw [← h1]; exact hx⟩
theorem r_lret {x r : Int64} {μ' : gMem} (hd : decode mi.2.1 pc = .ok (.lreturn, 1)) (hr : mi.2.2.2.2 = some .long) (h1 : x = r) (h2 : μ = μ') : RR κ N d mi pc lv [.long x] μ (qL r μ') := g_lret hd hr ⟨μ, rfl, rfl, by rw [h1], h2⟩
theorem r_vret {μ' : gMem} (hd : decode mi.2.1 pc = .ok (.return_, 1)) (hr : mi.2.2.2.2 = none) (h2 : μ = μ') : RR κ N d mi pc lv [] μ (qV μ') := g_vret hd hr ⟨μ, rfl, rfl, rfl, h2⟩
end RRR
/-! calls of ours: on an object of the world, static, static of a nest mate, on a constant object; the answer an int, a boolean, a long, nothing -/
section RC
variable {κ : Nat → Nat} {N d : Nat} {mi : gMI} {pc : Nat} {lv : List (Nat × Value)} {sk sk0 : List Value} {μ μ' : gMem} {Q Q' : rQ} {b idx d' : Nat} {y : MethodName} {mi' : gMI} {As : List Value}
def rK (κ : Nat → Nat) (N d : Nat) (mi : gMI) (pc : Nat) (lv : List (Nat × Value)) (sk : List Value) (Q : rQ) (Q' : rQ) : Prop := ∀ v m, Q' v m → RR κ N d mi pc lv (v.toList ++ sk) m Q
theorem rK_i {r : Int32} (k : RR κ N d mi pc lv (.int r :: sk) μ' Q) : rK κ N d mi pc lv sk Q (qI r μ') := by
  intro v m h
  obtain ⟨rfl, rfl⟩ := h
  exact k
theorem rK_z {r : Int32} (k : narrow .boolean (.int r) = .int r → RR κ N d mi pc lv (.int r :: sk) μ' Q) : rK κ N d mi pc lv sk Q (qZ r μ') := by
  intro v m h
  obtain ⟨rfl, rfl, h3⟩ := h
  exact k h3
theorem rK_l {r : Int64} (k : RR κ N d mi pc lv (.long r :: sk) μ' Q) : rK κ N d mi pc lv sk Q (qL r μ') := by
  intro v m h
  obtain ⟨rfl, rfl⟩ := h
  exact k
theorem rK_v (k : RR κ N d mi pc lv sk μ' Q) : rK κ N d mi pc lv sk Q (qV μ') := by
  intro v m h
  obtain ⟨rfl, rfl⟩ := h
  exact k
theorem r_callV {ci : Nat} {T : u_T} {nf : Nat} (hM : CT2 κ N d' y mi' (.ref (κ 0 + b) :: As) μ Q') (hY : gYV y mi') (hc : vwCl[ci]? = some (y.cls, T, nf) ∧ ci < 11) (hlen : (parseMethodDescriptor y.desc).map (fun d => d.parameters.length) = some As.length) (hlk : Cond.methodLink mi.1 idx y ∈ lw_g) (hd : decode mi.2.1 pc = .ok (.invokevirtual idx, 3)) (hdd : d' + 1 ≤ d) (hst : (sk.map fun v => v.category).sum ≤ 8) (hb : b < N) (hkb : kd b = ci) (hsk : As.reverse ++ .ref (κ 0 + b) :: sk = sk0) (k : rK κ N d mi (pc + 3) lv sk Q Q') : RR κ N d mi pc lv sk0 μ Q := by
  subst hsk
  exact g_callV hM hd hY hlk hb (wOf_obj hkb hc.2) hc.1 hdd hlen hst (Nat.le_refl 0) (Nat.le_refl 0) (fun v n' w' h => by
    obtain ⟨m, rfl, rfl, h⟩ := h
    exact k v m h)
theorem r_callS (hM : CT2 κ N d' y mi' As μ Q') (hY : gYS y mi') (hlen : (parseMethodDescriptor y.desc).map (fun d => d.parameters.length) = some As.length) (hlk : Cond.methodLink mi.1 idx y ∈ lw_g) (hd : decode mi.2.1 pc = .ok (.invokestatic idx, 3)) (hdd : d' + 1 ≤ d) (hst : (sk.map fun v => v.category).sum ≤ 8) (hsk : As.reverse ++ sk = sk0) (k : rK κ N d mi (pc + 3) lv sk Q Q') : RR κ N d mi pc lv sk0 μ Q := by
  subst hsk
  exact g_callS hM hd hY hlk hdd hlen hst (Nat.le_refl 0) (Nat.le_refl 0) (fun v n' w' h => by
    obtain ⟨m, rfl, rfl, h⟩ := h
    exact k v m h)
theorem r_callSN (hM : CT2 κ N d' y mi' As μ Q') (hY : gYS y mi') (hlen : (parseMethodDescriptor y.desc).map (fun d => d.parameters.length) = some As.length) (hlk : ∀ U, gN U → va_Nw (.methodLinkNest mi.1 idx y "SieveTub") U) (hd : decode mi.2.1 pc = .ok (.invokestatic idx, 3)) (hdd : d' + 1 ≤ d) (hst : (sk.map fun v => v.category).sum ≤ 8) (hsk : As.reverse ++ sk = sk0) (k : rK κ N d mi (pc + 3) lv sk Q Q') : RR κ N d mi pc lv sk0 μ Q := by
  subst hsk
  exact g_callSN hM hd hY hlk hdd hlen hst (Nat.le_refl 0) (Nat.le_refl 0) (fun v n' w' h => by
    obtain ⟨m, rfl, rfl, h⟩ := h
    exact k v m h)
theorem r_callVT (hM : CT2 κ N d' y mi' (.ref b :: As) μ Q') (hY : gYV y mi') (hrc : ∀ U H, gT κ U H → ∃ cell : Cell, H[b]? = some cell ∧ cell.vm.isStatics = false ∧ U.vm.findClass y.cls = some cell.cls) (hlen : (parseMethodDescriptor y.desc).map (fun d => d.parameters.length) = some As.length) (hlk : Cond.methodLink mi.1 idx y ∈ lw_g) (hd : decode mi.2.1 pc = .ok (.invokevirtual idx, 3)) (hdd : d' + 1 ≤ d) (hst : (sk.map fun v => v.category).sum ≤ 8) (hsk : As.reverse ++ .ref b :: sk = sk0) (k : rK κ N d mi (pc + 3) lv sk Q Q') : RR κ N d mi pc lv sk0 μ Q := by
  subst hsk
  exact g_callVT hM hd hY hlk hrc hdd hlen hst (Nat.le_refl 0) (Nat.le_refl 0) (fun v n' w' h => by
    obtain ⟨m, rfl, rfl, h⟩ := h
    exact k v m h)
theorem CT2.of (hy : plainName y.cls = true) (hc : y.cls = mi'.1) (hnm : y.name = mi'.2.2.2.1) (hl : (lg_sl As).length ≤ mi'.2.2.1) (h : RR κ N d mi' 0 (lv_args 0 As) [] μ Q) : CT2 κ N d y mi' As μ Q := CT.of hy hc hnm hl h
end RC
end
section
abbrev iX0_init : gMI := (RX0, cX0_init, 1, "<init>", none)
abbrev iX0_read : gMI := (RX0, cX0_read, 3, "read", (Option.some .int))
abbrev iX0_readClause : gMI := (RX0, cX0_readClause, 7, "readClause", (Option.some .boolean))
abbrev iX0_findWord : gMI := (RX0, cX0_findWord, 3, "findWord", (Option.some (.object "SieveTub$Word")))
abbrev iX0_countSisters : gMI := (RX0, cX0_countSisters, 2, "countSisters", (Option.some .boolean))
abbrev iX1_init : gMI := (RX1, cX1_init, 2, "<init>", none)
abbrev iX1_search : gMI := (RX1, cX1_search, 6, "search", none)
abbrev iX1_fill : gMI := (RX1, cX1_fill, 6, "fill", none)
abbrev iX1_tryFrom : gMI := (RX1, cX1_tryFrom, 3, "tryFrom", none)
abbrev iX1_addRow : gMI := (RX1, cX1_addRow, 7, "addRow", none)
abbrev iX1_judge : gMI := (RX1, cX1_judge, 7, "judge", none)
abbrev iX2_init : gMI := (RX2, cX2_init, 2, "<init>", none)
abbrev iX2_takeAll : gMI := (RX2, cX2_takeAll, 4, "takeAll", none)
abbrev iX2_takeOne : gMI := (RX2, cX2_takeOne, 5, "takeOne", none)
abbrev iX2_takeBegun : gMI := (RX2, cX2_takeBegun, 3, "takeBegun", none)
abbrev iX2_fill : gMI := (RX2, cX2_fill, 5, "fill", none)
abbrev iX2_run : gMI := (RX2, cX2_run, 7, "run", none)
abbrev iX2_pouredIn : gMI := (RX2, cX2_pouredIn, 4, "pouredIn", (Option.some .int))
abbrev iX3_init : gMI := (RX3, cX3_init, 1, "<init>", none)
abbrev iX3_add : gMI := (RX3, cX3_add, 2, "add", (Option.some .boolean))
abbrev iX3_readFromStart : gMI := (RX3, cX3_readFromStart, 1, "readFromStart", none)
abbrev iX3_readToken : gMI := (RX3, cX3_readToken, 2, "readToken", none)
abbrev iX3_typeAt : gMI := (RX3, cX3_typeAt, 3, "typeAt", (Option.some .int))
abbrev iX3_isWord : gMI := (RX3, cX3_isWord, 3, "isWord", (Option.some .boolean))
abbrev iX3_isSemicolon : gMI := (RX3, cX3_isSemicolon, 1, "isSemicolon", (Option.some .boolean))
abbrev iX3_number : gMI := (RX3, cX3_number, 3, "number", (Option.some .int))
abbrev iX4_init : gMI := (RX4, cX4_init, 2, "<init>", none)
abbrev iX4_push : gMI := (RX4, cX4_push, 2, "push", none)
abbrev iX4_pop : gMI := (RX4, cX4_pop, 2, "pop", (Option.some .boolean))
abbrev iX5_init : gMI := (RX5, cX5_init, 2, "<init>", none)
abbrev iX5_copy : gMI := (RX5, cX5_copy, 3, "copy", none)
abbrev iX5_startAnew : gMI := (RX5, cX5_startAnew, 3, "startAnew", none)
abbrev iX5_passMinute : gMI := (RX5, cX5_passMinute, 5, "passMinute", none)
abbrev iX5_workers : gMI := (RX5, cX5_workers, 3, "workers", (Option.some .int))
abbrev iX6_init : gMI := (RX6, cX6_init, 1, "<init>", none)
abbrev iX6_walk : gMI := (RX6, cX6_walk, 2, "walk", (Option.some .int))
abbrev iX6_walkBack : gMI := (RX6, cX6_walkBack, 2, "walkBack", (Option.some .int))
abbrev iX6_drip : gMI := (RX6, cX6_drip, 1, "drip", (Option.some .int))
abbrev iX7_init : gMI := (RX7, cX7_init, 2, "<init>", none)
abbrev iX7_setAsAtFirst : gMI := (RX7, cX7_setAsAtFirst, 1, "setAsAtFirst", none)
abbrev iX7_setFrost : gMI := (RX7, cX7_setFrost, 3, "setFrost", none)
abbrev iX7_isFrost : gMI := (RX7, cX7_isFrost, 2, "isFrost", (Option.some .boolean))
abbrev iX7_hear : gMI := (RX7, cX7_hear, 5, "hear", none)
abbrev iX7_addSister : gMI := (RX7, cX7_addSister, 5, "addSister", none)
abbrev iX8_init : gMI := (RX8, cX8_init, 1, "<init>", none)
abbrev iX8_copy : gMI := (RX8, cX8_copy, 2, "copy", none)
abbrev iX8_startAnew : gMI := (RX8, cX8_startAnew, 1, "startAnew", none)
abbrev iX8_sitDown : gMI := (RX8, cX8_sitDown, 1, "sitDown", none)
abbrev iX8_draw : gMI := (RX8, cX8_draw, 2, "draw", none)
abbrev iX8_passMinute : gMI := (RX8, cX8_passMinute, 4, "passMinute", (Option.some .int))
abbrev iX8_pour : gMI := (RX8, cX8_pour, 3, "pour", (Option.some .int))
abbrev iX9_values : gMI := (RX9, cX9_values, 0, "values", (Option.some (.array (.object "SieveTub$Word"))))
abbrev iX9_numbers : gMI := (RX9, cX9_numbers, 1, "numbers", (Option.some .int))
abbrev iX9_leastNumber : gMI := (RX9, cX9_leastNumber, 3, "leastNumber", (Option.some .int))
abbrev iX9_mostNumber : gMI := (RX9, cX9_mostNumber, 2, "mostNumber", (Option.some .int))
abbrev iX10_init : gMI := (RX10, cX10_init, 2, "<init>", none)
abbrev iX10_write : gMI := (RX10, cX10_write, 2, "write", (Option.some .int))
abbrev iX10_erase : gMI := (RX10, cX10_erase, 2, "erase", (Option.some .int))
abbrev iX10_fault : gMI := (RX10, cX10_fault, 1, "fault", (Option.some .int))
abbrev iX10_well : gMI := (RX10, cX10_well, 2, "well", (Option.some .int))
abbrev iX10_sister : gMI := (RX10, cX10_sister, 3, "sister", (Option.some .int))
abbrev iX10_as : gMI := (RX10, cX10_as, 4, "as", (Option.some .int))
abbrev iX10_sieveAs : gMI := (RX10, cX10_sieveAs, 4, "sieveAs", (Option.some .int))
abbrev iX10_begin : gMI := (RX10, cX10_begin, 2, "begin", (Option.some .int))
abbrev iX10_rest : gMI := (RX10, cX10_rest, 3, "rest", (Option.some .int))
abbrev iX10_moss : gMI := (RX10, cX10_moss, 2, "moss", (Option.some .int))
abbrev iX10_smear : gMI := (RX10, cX10_smear, 2, "smear", (Option.some .int))
abbrev iX10_go : gMI := (RX10, cX10_go, 3, "go", (Option.some .int))
abbrev iX10_undo : gMI := (RX10, cX10_undo, 1, "undo", (Option.some .int))
abbrev iX10_keep : gMI := (RX10, cX10_keep, 2, "keep", (Option.some .int))
abbrev iX10_back : gMI := (RX10, cX10_back, 2, "back", (Option.some .int))
abbrev iX10_level : gMI := (RX10, cX10_level, 2, "level", (Option.some .int))
abbrev iX10_highest : gMI := (RX10, cX10_highest, 2, "highest", (Option.some .int))
abbrev iX10_full : gMI := (RX10, cX10_full, 1, "full", (Option.some .int))
abbrev iX10_mossTo : gMI := (RX10, cX10_mossTo, 5, "mossTo", (Option.some .int))
abbrev iX10_adds : gMI := (RX10, cX10_adds, 4, "adds", (Option.some .int))
abbrev iX10_fewest : gMI := (RX10, cX10_fewest, 7, "fewest", (Option.some .int))
abbrev iX10_together : gMI := (RX10, cX10_together, 3, "together", (Option.some .int))
abbrev iX10_pitch : gMI := (RX10, cX10_pitch, 2, "pitch", (Option.some .int))
abbrev iX10_seen : gMI := (RX10, cX10_seen, 3, "seen", (Option.some .int))
abbrev iX10_forget : gMI := (RX10, cX10_forget, 2, "forget", (Option.some .int))
abbrev iX10_worked : gMI := (RX10, cX10_worked, 7, "worked", (Option.some .int))
abbrev iX10_leaves : gMI := (RX10, cX10_leaves, 9, "leaves", (Option.some .int))
abbrev iX10_count : gMI := (RX10, cX10_count, 2, "count", (Option.some .int))
abbrev iX10_isUnknown : gMI := (RX10, cX10_isUnknown, 2, "isUnknown", (Option.some .boolean))
abbrev iX10_isOutside : gMI := (RX10, cX10_isOutside, 3, "isOutside", (Option.some .boolean))
abbrev iX10_isSuch : gMI := (RX10, cX10_isSuch, 5, "isSuch", (Option.some .boolean))
abbrev iX10_firstFull : gMI := (RX10, cX10_firstFull, 2, "firstFull", (Option.some .int))
abbrev iX10_latestSeen : gMI := (RX10, cX10_latestSeen, 3, "latestSeen", (Option.some .int))
abbrev iX10_fitsSeen : gMI := (RX10, cX10_fitsSeen, 2, "fitsSeen", (Option.some .boolean))
abbrev iX10_lostByHole : gMI := (RX10, cX10_lostByHole, 2, "lostByHole", (Option.some .int))
abbrev iX10_power : gMI := (RX10, cX10_power, 4, "power", (Option.some .int))
abbrev iX10_commonDivisor : gMI := (RX10, cX10_commonDivisor, 6, "commonDivisor", (Option.some .int))
abbrev iX11_init : gMI := (RX11, cX11_init, 1, "<init>", none)
abbrev iX11_asAtFirst : gMI := (RX11, cX11_asAtFirst, 1, "asAtFirst", none)
abbrev iX11_in : gMI := (RX11, cX11_in, 6, "in", (Option.some .boolean))
abbrev iX11_has : gMI := (RX11, cX11_has, 2, "has", (Option.some .boolean))
abbrev iX11_ones : gMI := (RX11, cX11_ones, 3, "ones", (Option.some .int))
abbrev iX11_isSister : gMI := (RX11, cX11_isSister, 2, "isSister", (Option.some .boolean))
abbrev iX11_write : gMI := (RX11, cX11_write, 2, "write", (Option.some .int))
abbrev iX11_erase : gMI := (RX11, cX11_erase, 2, "erase", (Option.some .int))
abbrev iX11_letterAt : gMI := (RX11, cX11_letterAt, 2, "letterAt", (Option.some .int))
abbrev iX11_nextToken : gMI := (RX11, cX11_nextToken, 1, "nextToken", none)
abbrev iX11_wordOf : gMI := (RX11, cX11_wordOf, 4, "wordOf", (Option.some .long))
abbrev iX11_spelt : gMI := (RX11, cX11_spelt, 9, "spelt", (Option.some .long))
abbrev iX11_verb : gMI := (RX11, cX11_verb, 3, "verb", (Option.some .int))
abbrev iX11_number : gMI := (RX11, cX11_number, 3, "number", (Option.some .int))
abbrev iX11_readSister : gMI := (RX11, cX11_readSister, 5, "readSister", (Option.some .boolean))
abbrev iX11_takes : gMI := (RX11, cX11_takes, 5, "takes", (Option.some .boolean))
abbrev iX11_readClause : gMI := (RX11, cX11_readClause, 2, "readClause", (Option.some .boolean))
abbrev iX11_readText : gMI := (RX11, cX11_readText, 2, "readText", (Option.some .boolean))
abbrev iX11_fault : gMI := (RX11, cX11_fault, 1, "fault", (Option.some .int))
abbrev iX11_well : gMI := (RX11, cX11_well, 2, "well", (Option.some .int))
abbrev iX11_anew : gMI := (RX11, cX11_anew, 2, "anew", none)
abbrev iX11_of : gMI := (RX11, cX11_of, 3, "of", (Option.some .int))
abbrev iX11_walkOf : gMI := (RX11, cX11_walkOf, 3, "walkOf", (Option.some .int))
abbrev iX11_dripOf : gMI := (RX11, cX11_dripOf, 5, "dripOf", (Option.some .int))
abbrev iX11_dripNow : gMI := (RX11, cX11_dripNow, 2, "dripNow", (Option.some .int))
abbrev iX11_mossOf : gMI := (RX11, cX11_mossOf, 3, "mossOf", (Option.some .int))
abbrev iX11_sister : gMI := (RX11, cX11_sister, 3, "sister", (Option.some .int))
abbrev iX11_as : gMI := (RX11, cX11_as, 3, "as", (Option.some .int))
abbrev iX11_sieveAs : gMI := (RX11, cX11_sieveAs, 5, "sieveAs", (Option.some .int))
abbrev iX11_draws : gMI := (RX11, cX11_draws, 2, "draws", none)
abbrev iX11_restNow : gMI := (RX11, cX11_restNow, 2, "restNow", none)
abbrev iX11_step : gMI := (RX11, cX11_step, 4, "step", (Option.some .int))
abbrev iX11_oneMinute : gMI := (RX11, cX11_oneMinute, 3, "oneMinute", (Option.some .int))
abbrev iX11_note : gMI := (RX11, cX11_note, 2, "note", none)
abbrev iX11_begin : gMI := (RX11, cX11_begin, 2, "begin", (Option.some .int))
abbrev iX11_rest : gMI := (RX11, cX11_rest, 3, "rest", (Option.some .int))
abbrev iX11_moss : gMI := (RX11, cX11_moss, 2, "moss", (Option.some .int))
abbrev iX11_less : gMI := (RX11, cX11_less, 2, "less", (Option.some .int))
abbrev iX11_smear : gMI := (RX11, cX11_smear, 2, "smear", (Option.some .int))
abbrev iX11_go : gMI := (RX11, cX11_go, 3, "go", (Option.some .int))
abbrev iX11_undo : gMI := (RX11, cX11_undo, 2, "undo", (Option.some .int))
abbrev iX11_keep : gMI := (RX11, cX11_keep, 3, "keep", (Option.some .int))
abbrev iX11_back : gMI := (RX11, cX11_back, 3, "back", (Option.some .int))
abbrev iX11_putAside : gMI := (RX11, cX11_putAside, 2, "putAside", none)
abbrev iX11_takeBack : gMI := (RX11, cX11_takeBack, 2, "takeBack", none)
abbrev iX11_levelBehind : gMI := (RX11, cX11_levelBehind, 3, "levelBehind", (Option.some .int))
abbrev iX11_highestOf : gMI := (RX11, cX11_highestOf, 5, "highestOf", (Option.some .int))
abbrev iX11_fullIn : gMI := (RX11, cX11_fullIn, 4, "fullIn", (Option.some .int))
abbrev iX11_isFar : gMI := (RX11, cX11_isFar, 2, "isFar", (Option.some .boolean))
abbrev iX11_level : gMI := (RX11, cX11_level, 2, "level", (Option.some .int))
abbrev iX11_highest : gMI := (RX11, cX11_highest, 2, "highest", (Option.some .int))
abbrev iX11_full : gMI := (RX11, cX11_full, 1, "full", (Option.some .int))
abbrev iX11_mossTo : gMI := (RX11, cX11_mossTo, 6, "mossTo", (Option.some .int))
abbrev iX11_adds : gMI := (RX11, cX11_adds, 4, "adds", (Option.some .int))
abbrev iX11_working : gMI := (RX11, cX11_working, 3, "working", (Option.some .int))
abbrev iX11_fewest : gMI := (RX11, cX11_fewest, 6, "fewest", (Option.some .int))
abbrev iX11_highestBy : gMI := (RX11, cX11_highestBy, 6, "highestBy", (Option.some .int))
abbrev iX11_together : gMI := (RX11, cX11_together, 9, "together", (Option.some .int))
abbrev iX11_pitch : gMI := (RX11, cX11_pitch, 2, "pitch", (Option.some .int))
abbrev iX11_seen : gMI := (RX11, cX11_seen, 3, "seen", (Option.some .int))
abbrev iX11_forget : gMI := (RX11, cX11_forget, 2, "forget", (Option.some .int))
abbrev iX11_isBy : gMI := (RX11, cX11_isBy, 5, "isBy", (Option.some .boolean))
abbrev iX11_worked : gMI := (RX11, cX11_worked, 6, "worked", (Option.some .int))
abbrev iX11_leaves : gMI := (RX11, cX11_leaves, 10, "leaves", (Option.some .int))
abbrev iX11_count : gMI := (RX11, cX11_count, 2, "count", (Option.some .int))
abbrev iJ6_bitCount_0f7a4 : gMI := (RJ6, cJ6_bitCount_0f7a4, 1, "bitCount", (Option.some .int))
abbrev iJ9_max_7cf53 : gMI := (RJ9, cJ9_max_7cf53, 2, "max", (Option.some .int))
abbrev iJ9_min_7cf53 : gMI := (RJ9, cJ9_min_7cf53, 2, "min", (Option.some .int))
abbrev iJ0_length_8abf5 : gMI := (RJ0, cJ0_length_8abf5, 1, "length", (Option.some .int))
abbrev iJ0_charAt_5068e : gMI := (RJ0, cJ0_charAt_5068e, 2, "charAt", (Option.some .char))
abbrev iJ0_coder_7d493 : gMI := (RJ0, cJ0_coder_7d493, 1, "coder", (Option.some .byte))
abbrev iJ0_isLatin1_aae02 : gMI := (RJ0, cJ0_isLatin1_aae02, 1, "isLatin1", (Option.some .boolean))
abbrev iJ0_checkIndex_df160 : gMI := (RJ0, cJ0_checkIndex_df160, 2, "checkIndex", none)
abbrev iJ1_charAt_3b067 : gMI := (RJ1, cJ1_charAt_3b067, 2, "charAt", (Option.some .char))
abbrev iJ2_getChar_3b067 : gMI := (RJ2, cJ2_getChar_3b067, 2, "getChar", (Option.some .char))
abbrev iJ2_length_9d52b : gMI := (RJ2, cJ2_length_9d52b, 1, "length", (Option.some .int))
abbrev iJ2_charAt_3b067 : gMI := (RJ2, cJ2_charAt_3b067, 2, "charAt", (Option.some .char))
abbrev iJ2_checkIndex_2214a : gMI := (RJ2, cJ2_checkIndex_2214a, 2, "checkIndex", none)
abbrev iJ3_checkIndex_8e157 : gMI := (RJ3, cJ3_checkIndex_8e157, 3, "checkIndex", (Option.some .int))
theorem yI_X0_init : gYI yX0_init iX0_init := ⟨⟨lw_g_of 190 (by decide +kernel) rfl, lw_g_of 52 (by decide +kernel) rfl, lw_g_of 191 (by decide +kernel) rfl⟩, ⟨by decide +kernel, by decide +kernel⟩, by decide, rfl, rfl⟩
theorem yV_X0_read : gYV yX0_read iX0_read := ⟨⟨lw_g_of 469 (by decide +kernel) rfl, lw_g_of 470 (by decide +kernel) rfl, lw_g_of 52 (by decide +kernel) rfl, lw_g_of 471 (by decide +kernel) rfl⟩, ⟨by decide +kernel, by decide +kernel⟩, by decide⟩
theorem yV_X0_readClause : gYV yX0_readClause iX0_readClause := ⟨⟨lw_g_of 478 (by decide +kernel) rfl, lw_g_of 2 (by decide +kernel) rfl, lw_g_of 52 (by decide +kernel) rfl, lw_g_of 479 (by decide +kernel) rfl⟩, ⟨by decide +kernel, by decide +kernel⟩, by decide⟩
theorem yV_X0_findWord : gYV yX0_findWord iX0_findWord := ⟨⟨lw_g_of 490 (by decide +kernel) rfl, lw_g_of 4 (by decide +kernel) rfl, lw_g_of 52 (by decide +kernel) rfl, lw_g_of 491 (by decide +kernel) rfl⟩, ⟨by decide +kernel, by decide +kernel⟩, by decide⟩
theorem yV_X0_countSisters : gYV yX0_countSisters iX0_countSisters := ⟨⟨lw_g_of 546 (by decide +kernel) rfl, lw_g_of 5 (by decide +kernel) rfl, lw_g_of 52 (by decide +kernel) rfl, lw_g_of 547 (by decide +kernel) rfl⟩, ⟨by decide +kernel, by decide +kernel⟩, by decide⟩
theorem yI_X1_init : gYI yX1_init iX1_init := ⟨⟨lw_g_of 361 (by decide +kernel) rfl, lw_g_of 59 (by decide +kernel) rfl, lw_g_of 362 (by decide +kernel) rfl⟩, ⟨by decide +kernel, by decide +kernel⟩, by decide, rfl, rfl⟩
theorem yV_X1_search : gYV yX1_search iX1_search := ⟨⟨lw_g_of 771 (by decide +kernel) rfl, lw_g_of 772 (by decide +kernel) rfl, lw_g_of 59 (by decide +kernel) rfl, lw_g_of 773 (by decide +kernel) rfl⟩, ⟨by decide +kernel, by decide +kernel⟩, by decide⟩
theorem yV_X1_fill : gYV yX1_fill iX1_fill := ⟨⟨lw_g_of 776 (by decide +kernel) rfl, lw_g_of 12 (by decide +kernel) rfl, lw_g_of 59 (by decide +kernel) rfl, lw_g_of 777 (by decide +kernel) rfl⟩, ⟨by decide +kernel, by decide +kernel⟩, by decide⟩
theorem yV_X1_tryFrom : gYV yX1_tryFrom iX1_tryFrom := ⟨⟨lw_g_of 784 (by decide +kernel) rfl, lw_g_of 13 (by decide +kernel) rfl, lw_g_of 59 (by decide +kernel) rfl, lw_g_of 785 (by decide +kernel) rfl⟩, ⟨by decide +kernel, by decide +kernel⟩, by decide⟩
theorem yV_X1_addRow : gYV yX1_addRow iX1_addRow := ⟨⟨lw_g_of 798 (by decide +kernel) rfl, lw_g_of 15 (by decide +kernel) rfl, lw_g_of 59 (by decide +kernel) rfl, lw_g_of 799 (by decide +kernel) rfl⟩, ⟨by decide +kernel, by decide +kernel⟩, by decide⟩
theorem yV_X1_judge : gYV yX1_judge iX1_judge := ⟨⟨lw_g_of 788 (by decide +kernel) rfl, lw_g_of 14 (by decide +kernel) rfl, lw_g_of 59 (by decide +kernel) rfl, lw_g_of 789 (by decide +kernel) rfl⟩, ⟨by decide +kernel, by decide +kernel⟩, by decide⟩
theorem yI_X2_init : gYI yX2_init iX2_init := ⟨⟨lw_g_of 324 (by decide +kernel) rfl, lw_g_of 58 (by decide +kernel) rfl, lw_g_of 325 (by decide +kernel) rfl⟩, ⟨by decide +kernel, by decide +kernel⟩, by decide, rfl, rfl⟩
theorem yV_X2_takeAll : gYV yX2_takeAll iX2_takeAll := ⟨⟨lw_g_of 707 (by decide +kernel) rfl, lw_g_of 708 (by decide +kernel) rfl, lw_g_of 58 (by decide +kernel) rfl, lw_g_of 709 (by decide +kernel) rfl⟩, ⟨by decide +kernel, by decide +kernel⟩, by decide⟩
theorem yV_X2_takeOne : gYV yX2_takeOne iX2_takeOne := ⟨⟨lw_g_of 745 (by decide +kernel) rfl, lw_g_of 746 (by decide +kernel) rfl, lw_g_of 58 (by decide +kernel) rfl, lw_g_of 747 (by decide +kernel) rfl⟩, ⟨by decide +kernel, by decide +kernel⟩, by decide⟩
theorem yV_X2_takeBegun : gYV yX2_takeBegun iX2_takeBegun := ⟨⟨lw_g_of 821 (by decide +kernel) rfl, lw_g_of 822 (by decide +kernel) rfl, lw_g_of 58 (by decide +kernel) rfl, lw_g_of 823 (by decide +kernel) rfl⟩, ⟨by decide +kernel, by decide +kernel⟩, by decide⟩
theorem yV_X2_fill : gYV yX2_fill iX2_fill := ⟨⟨lw_g_of 713 (by decide +kernel) rfl, lw_g_of 9 (by decide +kernel) rfl, lw_g_of 58 (by decide +kernel) rfl, lw_g_of 714 (by decide +kernel) rfl⟩, ⟨by decide +kernel, by decide +kernel⟩, by decide⟩
theorem yV_X2_run : gYV yX2_run iX2_run := ⟨⟨lw_g_of 718 (by decide +kernel) rfl, lw_g_of 719 (by decide +kernel) rfl, lw_g_of 58 (by decide +kernel) rfl, lw_g_of 720 (by decide +kernel) rfl⟩, ⟨by decide +kernel, by decide +kernel⟩, by decide⟩
theorem yV_X2_pouredIn : gYV yX2_pouredIn iX2_pouredIn := ⟨⟨lw_g_of 723 (by decide +kernel) rfl, lw_g_of 10 (by decide +kernel) rfl, lw_g_of 58 (by decide +kernel) rfl, lw_g_of 724 (by decide +kernel) rfl⟩, ⟨by decide +kernel, by decide +kernel⟩, by decide⟩
theorem yI_X3_init : gYI yX3_init iX3_init := ⟨⟨lw_g_of 164 (by decide +kernel) rfl, lw_g_of 51 (by decide +kernel) rfl, lw_g_of 165 (by decide +kernel) rfl⟩, ⟨by decide +kernel, by decide +kernel⟩, by decide, rfl, rfl⟩
theorem yV_X3_add : gYV yX3_add iX3_add := ⟨⟨lw_g_of 457 (by decide +kernel) rfl, lw_g_of 458 (by decide +kernel) rfl, lw_g_of 51 (by decide +kernel) rfl, lw_g_of 459 (by decide +kernel) rfl⟩, ⟨by decide +kernel, by decide +kernel⟩, by decide⟩
theorem yV_X3_readFromStart : gYV yX3_readFromStart iX3_readFromStart := ⟨⟨lw_g_of 473 (by decide +kernel) rfl, lw_g_of 474 (by decide +kernel) rfl, lw_g_of 51 (by decide +kernel) rfl, lw_g_of 475 (by decide +kernel) rfl⟩, ⟨by decide +kernel, by decide +kernel⟩, by decide⟩
theorem yV_X3_readToken : gYV yX3_readToken iX3_readToken := ⟨⟨lw_g_of 481 (by decide +kernel) rfl, lw_g_of 482 (by decide +kernel) rfl, lw_g_of 51 (by decide +kernel) rfl, lw_g_of 483 (by decide +kernel) rfl⟩, ⟨by decide +kernel, by decide +kernel⟩, by decide⟩
theorem yV_X3_typeAt : gYV yX3_typeAt iX3_typeAt := ⟨⟨lw_g_of 486 (by decide +kernel) rfl, lw_g_of 3 (by decide +kernel) rfl, lw_g_of 51 (by decide +kernel) rfl, lw_g_of 487 (by decide +kernel) rfl⟩, ⟨by decide +kernel, by decide +kernel⟩, by decide⟩
theorem yV_X3_isWord : gYV yX3_isWord iX3_isWord := ⟨⟨lw_g_of 493 (by decide +kernel) rfl, lw_g_of 494 (by decide +kernel) rfl, lw_g_of 51 (by decide +kernel) rfl, lw_g_of 495 (by decide +kernel) rfl⟩, ⟨by decide +kernel, by decide +kernel⟩, by decide⟩
theorem yV_X3_isSemicolon : gYV yX3_isSemicolon iX3_isSemicolon := ⟨⟨lw_g_of 566 (by decide +kernel) rfl, lw_g_of 567 (by decide +kernel) rfl, lw_g_of 51 (by decide +kernel) rfl, lw_g_of 568 (by decide +kernel) rfl⟩, ⟨by decide +kernel, by decide +kernel⟩, by decide⟩
theorem yV_X3_number : gYV yX3_number iX3_number := ⟨⟨lw_g_of 553 (by decide +kernel) rfl, lw_g_of 554 (by decide +kernel) rfl, lw_g_of 51 (by decide +kernel) rfl, lw_g_of 555 (by decide +kernel) rfl⟩, ⟨by decide +kernel, by decide +kernel⟩, by decide⟩
theorem yI_X4_init : gYI yX4_init iX4_init := ⟨⟨lw_g_of 304 (by decide +kernel) rfl, lw_g_of 57 (by decide +kernel) rfl, lw_g_of 305 (by decide +kernel) rfl⟩, ⟨by decide +kernel, by decide +kernel⟩, by decide, rfl, rfl⟩
theorem yV_X4_push : gYV yX4_push iX4_push := ⟨⟨lw_g_of 620 (by decide +kernel) rfl, lw_g_of 621 (by decide +kernel) rfl, lw_g_of 57 (by decide +kernel) rfl, lw_g_of 622 (by decide +kernel) rfl⟩, ⟨by decide +kernel, by decide +kernel⟩, by decide⟩
theorem yV_X4_pop : gYV yX4_pop iX4_pop := ⟨⟨lw_g_of 690 (by decide +kernel) rfl, lw_g_of 691 (by decide +kernel) rfl, lw_g_of 57 (by decide +kernel) rfl, lw_g_of 692 (by decide +kernel) rfl⟩, ⟨by decide +kernel, by decide +kernel⟩, by decide⟩
theorem yI_X5_init : gYI yX5_init iX5_init := ⟨⟨lw_g_of 236 (by decide +kernel) rfl, lw_g_of 55 (by decide +kernel) rfl, lw_g_of 237 (by decide +kernel) rfl⟩, ⟨by decide +kernel, by decide +kernel⟩, by decide, rfl, rfl⟩
theorem yV_X5_copy : gYV yX5_copy iX5_copy := ⟨⟨lw_g_of 624 (by decide +kernel) rfl, lw_g_of 625 (by decide +kernel) rfl, lw_g_of 55 (by decide +kernel) rfl, lw_g_of 626 (by decide +kernel) rfl⟩, ⟨by decide +kernel, by decide +kernel⟩, by decide⟩
theorem yV_X5_startAnew : gYV yX5_startAnew iX5_startAnew := ⟨⟨lw_g_of 401 (by decide +kernel) rfl, lw_g_of 402 (by decide +kernel) rfl, lw_g_of 55 (by decide +kernel) rfl, lw_g_of 403 (by decide +kernel) rfl⟩, ⟨by decide +kernel, by decide +kernel⟩, by decide⟩
theorem yV_X5_passMinute : gYV yX5_passMinute iX5_passMinute := ⟨⟨lw_g_of 658 (by decide +kernel) rfl, lw_g_of 659 (by decide +kernel) rfl, lw_g_of 55 (by decide +kernel) rfl, lw_g_of 660 (by decide +kernel) rfl⟩, ⟨by decide +kernel, by decide +kernel⟩, by decide⟩
theorem yV_X5_workers : gYV yX5_workers iX5_workers := ⟨⟨lw_g_of 757 (by decide +kernel) rfl, lw_g_of 758 (by decide +kernel) rfl, lw_g_of 55 (by decide +kernel) rfl, lw_g_of 759 (by decide +kernel) rfl⟩, ⟨by decide +kernel, by decide +kernel⟩, by decide⟩
theorem yI_X6_init : gYI yX6_init iX6_init := ⟨⟨lw_g_of 86 (by decide +kernel) rfl, lw_g_of 50 (by decide +kernel) rfl, lw_g_of 87 (by decide +kernel) rfl⟩, ⟨by decide +kernel, by decide +kernel⟩, by decide, rfl, rfl⟩
theorem yV_X6_walk : gYV yX6_walk iX6_walk := ⟨⟨lw_g_of 599 (by decide +kernel) rfl, lw_g_of 600 (by decide +kernel) rfl, lw_g_of 50 (by decide +kernel) rfl, lw_g_of 601 (by decide +kernel) rfl⟩, ⟨by decide +kernel, by decide +kernel⟩, by decide⟩
theorem yV_X6_walkBack : gYV yX6_walkBack iX6_walkBack := ⟨⟨lw_g_of 676 (by decide +kernel) rfl, lw_g_of 677 (by decide +kernel) rfl, lw_g_of 50 (by decide +kernel) rfl, lw_g_of 678 (by decide +kernel) rfl⟩, ⟨by decide +kernel, by decide +kernel⟩, by decide⟩
theorem yV_X6_drip : gYV yX6_drip iX6_drip := ⟨⟨lw_g_of 612 (by decide +kernel) rfl, lw_g_of 613 (by decide +kernel) rfl, lw_g_of 50 (by decide +kernel) rfl, lw_g_of 614 (by decide +kernel) rfl⟩, ⟨by decide +kernel, by decide +kernel⟩, by decide⟩
theorem yI_X7_init : gYI yX7_init iX7_init := ⟨⟨lw_g_of 79 (by decide +kernel) rfl, lw_g_of 49 (by decide +kernel) rfl, lw_g_of 80 (by decide +kernel) rfl⟩, ⟨by decide +kernel, by decide +kernel⟩, by decide, rfl, rfl⟩
theorem yV_X7_setAsAtFirst : gYV yX7_setAsAtFirst iX7_setAsAtFirst := ⟨⟨lw_g_of 117 (by decide +kernel) rfl, lw_g_of 0 (by decide +kernel) rfl, lw_g_of 49 (by decide +kernel) rfl, lw_g_of 118 (by decide +kernel) rfl⟩, ⟨by decide +kernel, by decide +kernel⟩, by decide⟩
theorem yV_X7_setFrost : gYV yX7_setFrost iX7_setFrost := ⟨⟨lw_g_of 121 (by decide +kernel) rfl, lw_g_of 1 (by decide +kernel) rfl, lw_g_of 49 (by decide +kernel) rfl, lw_g_of 122 (by decide +kernel) rfl⟩, ⟨by decide +kernel, by decide +kernel⟩, by decide⟩
theorem yV_X7_isFrost : gYV yX7_isFrost iX7_isFrost := ⟨⟨lw_g_of 662 (by decide +kernel) rfl, lw_g_of 663 (by decide +kernel) rfl, lw_g_of 49 (by decide +kernel) rfl, lw_g_of 664 (by decide +kernel) rfl⟩, ⟨by decide +kernel, by decide +kernel⟩, by decide⟩
theorem yV_X7_hear : gYV yX7_hear iX7_hear := ⟨⟨lw_g_of 574 (by decide +kernel) rfl, lw_g_of 575 (by decide +kernel) rfl, lw_g_of 49 (by decide +kernel) rfl, lw_g_of 576 (by decide +kernel) rfl⟩, ⟨by decide +kernel, by decide +kernel⟩, by decide⟩
theorem yV_X7_addSister : gYV yX7_addSister iX7_addSister := ⟨⟨lw_g_of 579 (by decide +kernel) rfl, lw_g_of 6 (by decide +kernel) rfl, lw_g_of 49 (by decide +kernel) rfl, lw_g_of 580 (by decide +kernel) rfl⟩, ⟨by decide +kernel, by decide +kernel⟩, by decide⟩
theorem yI_X8_init : gYI yX8_init iX8_init := ⟨⟨lw_g_of 243 (by decide +kernel) rfl, lw_g_of 56 (by decide +kernel) rfl, lw_g_of 244 (by decide +kernel) rfl⟩, ⟨by decide +kernel, by decide +kernel⟩, by decide, rfl, rfl⟩
theorem yV_X8_copy : gYV yX8_copy iX8_copy := ⟨⟨lw_g_of 628 (by decide +kernel) rfl, lw_g_of 629 (by decide +kernel) rfl, lw_g_of 56 (by decide +kernel) rfl, lw_g_of 630 (by decide +kernel) rfl⟩, ⟨by decide +kernel, by decide +kernel⟩, by decide⟩
theorem yV_X8_startAnew : gYV yX8_startAnew iX8_startAnew := ⟨⟨lw_g_of 405 (by decide +kernel) rfl, lw_g_of 406 (by decide +kernel) rfl, lw_g_of 56 (by decide +kernel) rfl, lw_g_of 407 (by decide +kernel) rfl⟩, ⟨by decide +kernel, by decide +kernel⟩, by decide⟩
theorem yV_X8_sitDown : gYV yX8_sitDown iX8_sitDown := ⟨⟨lw_g_of 409 (by decide +kernel) rfl, lw_g_of 410 (by decide +kernel) rfl, lw_g_of 56 (by decide +kernel) rfl, lw_g_of 411 (by decide +kernel) rfl⟩, ⟨by decide +kernel, by decide +kernel⟩, by decide⟩
theorem yV_X8_draw : gYV yX8_draw iX8_draw := ⟨⟨lw_g_of 635 (by decide +kernel) rfl, lw_g_of 636 (by decide +kernel) rfl, lw_g_of 56 (by decide +kernel) rfl, lw_g_of 637 (by decide +kernel) rfl⟩, ⟨by decide +kernel, by decide +kernel⟩, by decide⟩
theorem yV_X8_passMinute : gYV yX8_passMinute iX8_passMinute := ⟨⟨lw_g_of 666 (by decide +kernel) rfl, lw_g_of 667 (by decide +kernel) rfl, lw_g_of 56 (by decide +kernel) rfl, lw_g_of 668 (by decide +kernel) rfl⟩, ⟨by decide +kernel, by decide +kernel⟩, by decide⟩
theorem yV_X8_pour : gYV yX8_pour iX8_pour := ⟨⟨lw_g_of 673 (by decide +kernel) rfl, lw_g_of 8 (by decide +kernel) rfl, lw_g_of 56 (by decide +kernel) rfl, lw_g_of 674 (by decide +kernel) rfl⟩, ⟨by decide +kernel, by decide +kernel⟩, by decide⟩
theorem yS_X9_values : gYS yX9_values iX9_values := ⟨⟨lw_g_of 194 (by decide +kernel) rfl, lw_g_of 54 (by decide +kernel) rfl, lw_g_of 195 (by decide +kernel) rfl⟩, ⟨by decide +kernel, by decide +kernel⟩, by decide⟩
theorem yV_X9_numbers : gYV yX9_numbers iX9_numbers := ⟨⟨lw_g_of 549 (by decide +kernel) rfl, lw_g_of 550 (by decide +kernel) rfl, lw_g_of 54 (by decide +kernel) rfl, lw_g_of 551 (by decide +kernel) rfl⟩, ⟨by decide +kernel, by decide +kernel⟩, by decide⟩
theorem yV_X9_leastNumber : gYV yX9_leastNumber iX9_leastNumber := ⟨⟨lw_g_of 557 (by decide +kernel) rfl, lw_g_of 558 (by decide +kernel) rfl, lw_g_of 54 (by decide +kernel) rfl, lw_g_of 559 (by decide +kernel) rfl⟩, ⟨by decide +kernel, by decide +kernel⟩, by decide⟩
theorem yV_X9_mostNumber : gYV yX9_mostNumber iX9_mostNumber := ⟨⟨lw_g_of 561 (by decide +kernel) rfl, lw_g_of 562 (by decide +kernel) rfl, lw_g_of 54 (by decide +kernel) rfl, lw_g_of 563 (by decide +kernel) rfl⟩, ⟨by decide +kernel, by decide +kernel⟩, by decide⟩
theorem yI_X10_init : gYI yX10_init iX10_init := ⟨⟨lw_g_of 71 (by decide +kernel) rfl, lw_g_of 48 (by decide +kernel) rfl, lw_g_of 72 (by decide +kernel) rfl⟩, ⟨by decide +kernel, by decide +kernel⟩, by decide, rfl, rfl⟩
theorem yV_X10_write : gYV yX10_write iX10_write := ⟨⟨lw_g_of 450 (by decide +kernel) rfl, lw_g_of 451 (by decide +kernel) rfl, lw_g_of 48 (by decide +kernel) rfl, lw_g_of 452 (by decide +kernel) rfl⟩, ⟨by decide +kernel, by decide +kernel⟩, by decide⟩
theorem yV_X10_erase : gYV yX10_erase iX10_erase := ⟨⟨lw_g_of 461 (by decide +kernel) rfl, lw_g_of 462 (by decide +kernel) rfl, lw_g_of 48 (by decide +kernel) rfl, lw_g_of 463 (by decide +kernel) rfl⟩, ⟨by decide +kernel, by decide +kernel⟩, by decide⟩
theorem yV_X10_fault : gYV yX10_fault iX10_fault := ⟨⟨lw_g_of 465 (by decide +kernel) rfl, lw_g_of 466 (by decide +kernel) rfl, lw_g_of 48 (by decide +kernel) rfl, lw_g_of 467 (by decide +kernel) rfl⟩, ⟨by decide +kernel, by decide +kernel⟩, by decide⟩
theorem yV_X10_well : gYV yX10_well iX10_well := ⟨⟨lw_g_of 570 (by decide +kernel) rfl, lw_g_of 571 (by decide +kernel) rfl, lw_g_of 48 (by decide +kernel) rfl, lw_g_of 572 (by decide +kernel) rfl⟩, ⟨by decide +kernel, by decide +kernel⟩, by decide⟩
theorem yV_X10_sister : gYV yX10_sister iX10_sister := ⟨⟨lw_g_of 582 (by decide +kernel) rfl, lw_g_of 583 (by decide +kernel) rfl, lw_g_of 48 (by decide +kernel) rfl, lw_g_of 584 (by decide +kernel) rfl⟩, ⟨by decide +kernel, by decide +kernel⟩, by decide⟩
theorem yV_X10_as : gYV yX10_as iX10_as := ⟨⟨lw_g_of 590 (by decide +kernel) rfl, lw_g_of 591 (by decide +kernel) rfl, lw_g_of 48 (by decide +kernel) rfl, lw_g_of 592 (by decide +kernel) rfl⟩, ⟨by decide +kernel, by decide +kernel⟩, by decide⟩
theorem yV_X10_sieveAs : gYV yX10_sieveAs iX10_sieveAs := ⟨⟨lw_g_of 606 (by decide +kernel) rfl, lw_g_of 607 (by decide +kernel) rfl, lw_g_of 48 (by decide +kernel) rfl, lw_g_of 608 (by decide +kernel) rfl⟩, ⟨by decide +kernel, by decide +kernel⟩, by decide⟩
theorem yV_X10_begin : gYV yX10_begin iX10_begin := ⟨⟨lw_g_of 616 (by decide +kernel) rfl, lw_g_of 617 (by decide +kernel) rfl, lw_g_of 48 (by decide +kernel) rfl, lw_g_of 618 (by decide +kernel) rfl⟩, ⟨by decide +kernel, by decide +kernel⟩, by decide⟩
theorem yV_X10_rest : gYV yX10_rest iX10_rest := ⟨⟨lw_g_of 640 (by decide +kernel) rfl, lw_g_of 641 (by decide +kernel) rfl, lw_g_of 48 (by decide +kernel) rfl, lw_g_of 642 (by decide +kernel) rfl⟩, ⟨by decide +kernel, by decide +kernel⟩, by decide⟩
theorem yV_X10_moss : gYV yX10_moss iX10_moss := ⟨⟨lw_g_of 645 (by decide +kernel) rfl, lw_g_of 646 (by decide +kernel) rfl, lw_g_of 48 (by decide +kernel) rfl, lw_g_of 647 (by decide +kernel) rfl⟩, ⟨by decide +kernel, by decide +kernel⟩, by decide⟩
theorem yV_X10_smear : gYV yX10_smear iX10_smear := ⟨⟨lw_g_of 649 (by decide +kernel) rfl, lw_g_of 650 (by decide +kernel) rfl, lw_g_of 48 (by decide +kernel) rfl, lw_g_of 651 (by decide +kernel) rfl⟩, ⟨by decide +kernel, by decide +kernel⟩, by decide⟩
theorem yV_X10_go : gYV yX10_go iX10_go := ⟨⟨lw_g_of 654 (by decide +kernel) rfl, lw_g_of 655 (by decide +kernel) rfl, lw_g_of 48 (by decide +kernel) rfl, lw_g_of 656 (by decide +kernel) rfl⟩, ⟨by decide +kernel, by decide +kernel⟩, by decide⟩
theorem yV_X10_undo : gYV yX10_undo iX10_undo := ⟨⟨lw_g_of 686 (by decide +kernel) rfl, lw_g_of 687 (by decide +kernel) rfl, lw_g_of 48 (by decide +kernel) rfl, lw_g_of 688 (by decide +kernel) rfl⟩, ⟨by decide +kernel, by decide +kernel⟩, by decide⟩
theorem yV_X10_keep : gYV yX10_keep iX10_keep := ⟨⟨lw_g_of 694 (by decide +kernel) rfl, lw_g_of 695 (by decide +kernel) rfl, lw_g_of 48 (by decide +kernel) rfl, lw_g_of 696 (by decide +kernel) rfl⟩, ⟨by decide +kernel, by decide +kernel⟩, by decide⟩
theorem yV_X10_back : gYV yX10_back iX10_back := ⟨⟨lw_g_of 699 (by decide +kernel) rfl, lw_g_of 700 (by decide +kernel) rfl, lw_g_of 48 (by decide +kernel) rfl, lw_g_of 701 (by decide +kernel) rfl⟩, ⟨by decide +kernel, by decide +kernel⟩, by decide⟩
theorem yV_X10_level : gYV yX10_level iX10_level := ⟨⟨lw_g_of 703 (by decide +kernel) rfl, lw_g_of 704 (by decide +kernel) rfl, lw_g_of 48 (by decide +kernel) rfl, lw_g_of 705 (by decide +kernel) rfl⟩, ⟨by decide +kernel, by decide +kernel⟩, by decide⟩
theorem yV_X10_highest : gYV yX10_highest iX10_highest := ⟨⟨lw_g_of 729 (by decide +kernel) rfl, lw_g_of 730 (by decide +kernel) rfl, lw_g_of 48 (by decide +kernel) rfl, lw_g_of 731 (by decide +kernel) rfl⟩, ⟨by decide +kernel, by decide +kernel⟩, by decide⟩
theorem yV_X10_full : gYV yX10_full iX10_full := ⟨⟨lw_g_of 733 (by decide +kernel) rfl, lw_g_of 734 (by decide +kernel) rfl, lw_g_of 48 (by decide +kernel) rfl, lw_g_of 735 (by decide +kernel) rfl⟩, ⟨by decide +kernel, by decide +kernel⟩, by decide⟩
theorem yV_X10_mossTo : gYV yX10_mossTo iX10_mossTo := ⟨⟨lw_g_of 741 (by decide +kernel) rfl, lw_g_of 742 (by decide +kernel) rfl, lw_g_of 48 (by decide +kernel) rfl, lw_g_of 743 (by decide +kernel) rfl⟩, ⟨by decide +kernel, by decide +kernel⟩, by decide⟩
theorem yV_X10_adds : gYV yX10_adds iX10_adds := ⟨⟨lw_g_of 749 (by decide +kernel) rfl, lw_g_of 750 (by decide +kernel) rfl, lw_g_of 48 (by decide +kernel) rfl, lw_g_of 751 (by decide +kernel) rfl⟩, ⟨by decide +kernel, by decide +kernel⟩, by decide⟩
theorem yV_X10_fewest : gYV yX10_fewest iX10_fewest := ⟨⟨lw_g_of 753 (by decide +kernel) rfl, lw_g_of 754 (by decide +kernel) rfl, lw_g_of 48 (by decide +kernel) rfl, lw_g_of 755 (by decide +kernel) rfl⟩, ⟨by decide +kernel, by decide +kernel⟩, by decide⟩
theorem yV_X10_together : gYV yX10_together iX10_together := ⟨⟨lw_g_of 767 (by decide +kernel) rfl, lw_g_of 768 (by decide +kernel) rfl, lw_g_of 48 (by decide +kernel) rfl, lw_g_of 769 (by decide +kernel) rfl⟩, ⟨by decide +kernel, by decide +kernel⟩, by decide⟩
theorem yV_X10_pitch : gYV yX10_pitch iX10_pitch := ⟨⟨lw_g_of 801 (by decide +kernel) rfl, lw_g_of 802 (by decide +kernel) rfl, lw_g_of 48 (by decide +kernel) rfl, lw_g_of 803 (by decide +kernel) rfl⟩, ⟨by decide +kernel, by decide +kernel⟩, by decide⟩
theorem yV_X10_seen : gYV yX10_seen iX10_seen := ⟨⟨lw_g_of 805 (by decide +kernel) rfl, lw_g_of 806 (by decide +kernel) rfl, lw_g_of 48 (by decide +kernel) rfl, lw_g_of 807 (by decide +kernel) rfl⟩, ⟨by decide +kernel, by decide +kernel⟩, by decide⟩
theorem yV_X10_forget : gYV yX10_forget iX10_forget := ⟨⟨lw_g_of 809 (by decide +kernel) rfl, lw_g_of 810 (by decide +kernel) rfl, lw_g_of 48 (by decide +kernel) rfl, lw_g_of 811 (by decide +kernel) rfl⟩, ⟨by decide +kernel, by decide +kernel⟩, by decide⟩
theorem yV_X10_worked : gYV yX10_worked iX10_worked := ⟨⟨lw_g_of 813 (by decide +kernel) rfl, lw_g_of 814 (by decide +kernel) rfl, lw_g_of 48 (by decide +kernel) rfl, lw_g_of 815 (by decide +kernel) rfl⟩, ⟨by decide +kernel, by decide +kernel⟩, by decide⟩
theorem yV_X10_leaves : gYV yX10_leaves iX10_leaves := ⟨⟨lw_g_of 831 (by decide +kernel) rfl, lw_g_of 832 (by decide +kernel) rfl, lw_g_of 48 (by decide +kernel) rfl, lw_g_of 833 (by decide +kernel) rfl⟩, ⟨by decide +kernel, by decide +kernel⟩, by decide⟩
theorem yV_X10_count : gYV yX10_count iX10_count := ⟨⟨lw_g_of 841 (by decide +kernel) rfl, lw_g_of 842 (by decide +kernel) rfl, lw_g_of 48 (by decide +kernel) rfl, lw_g_of 843 (by decide +kernel) rfl⟩, ⟨by decide +kernel, by decide +kernel⟩, by decide⟩
theorem yV_X10_isUnknown : gYV yX10_isUnknown iX10_isUnknown := ⟨⟨lw_g_of 587 (by decide +kernel) rfl, lw_g_of 7 (by decide +kernel) rfl, lw_g_of 48 (by decide +kernel) rfl, lw_g_of 588 (by decide +kernel) rfl⟩, ⟨by decide +kernel, by decide +kernel⟩, by decide⟩
theorem yS_X10_isOutside : gYS yX10_isOutside iX10_isOutside := ⟨⟨lw_g_of 454 (by decide +kernel) rfl, lw_g_of 48 (by decide +kernel) rfl, lw_g_of 455 (by decide +kernel) rfl⟩, ⟨by decide +kernel, by decide +kernel⟩, by decide⟩
theorem yS_X10_isSuch : gYS yX10_isSuch iX10_isSuch := ⟨⟨lw_g_of 596 (by decide +kernel) rfl, lw_g_of 48 (by decide +kernel) rfl, lw_g_of 597 (by decide +kernel) rfl⟩, ⟨by decide +kernel, by decide +kernel⟩, by decide⟩
theorem yV_X10_firstFull : gYV yX10_firstFull iX10_firstFull := ⟨⟨lw_g_of 738 (by decide +kernel) rfl, lw_g_of 11 (by decide +kernel) rfl, lw_g_of 48 (by decide +kernel) rfl, lw_g_of 739 (by decide +kernel) rfl⟩, ⟨by decide +kernel, by decide +kernel⟩, by decide⟩
theorem yV_X10_latestSeen : gYV yX10_latestSeen iX10_latestSeen := ⟨⟨lw_g_of 818 (by decide +kernel) rfl, lw_g_of 16 (by decide +kernel) rfl, lw_g_of 48 (by decide +kernel) rfl, lw_g_of 819 (by decide +kernel) rfl⟩, ⟨by decide +kernel, by decide +kernel⟩, by decide⟩
theorem yV_X10_fitsSeen : gYV yX10_fitsSeen iX10_fitsSeen := ⟨⟨lw_g_of 828 (by decide +kernel) rfl, lw_g_of 17 (by decide +kernel) rfl, lw_g_of 48 (by decide +kernel) rfl, lw_g_of 829 (by decide +kernel) rfl⟩, ⟨by decide +kernel, by decide +kernel⟩, by decide⟩
theorem yS_X10_lostByHole : gYS yX10_lostByHole iX10_lostByHole := ⟨⟨lw_g_of 683 (by decide +kernel) rfl, lw_g_of 48 (by decide +kernel) rfl, lw_g_of 684 (by decide +kernel) rfl⟩, ⟨by decide +kernel, by decide +kernel⟩, by decide⟩
theorem yS_X10_power : gYS yX10_power iX10_power := ⟨⟨lw_g_of 835 (by decide +kernel) rfl, lw_g_of 48 (by decide +kernel) rfl, lw_g_of 836 (by decide +kernel) rfl⟩, ⟨by decide +kernel, by decide +kernel⟩, by decide⟩
theorem yS_X10_commonDivisor : gYS yX10_commonDivisor iX10_commonDivisor := ⟨⟨lw_g_of 838 (by decide +kernel) rfl, lw_g_of 48 (by decide +kernel) rfl, lw_g_of 839 (by decide +kernel) rfl⟩, ⟨by decide +kernel, by decide +kernel⟩, by decide⟩
theorem yI_X11_init : gYI yX11_init iX11_init := ⟨⟨lw_g_of 847 (by decide +kernel) rfl, lw_g_of 60 (by decide +kernel) rfl, lw_g_of 848 (by decide +kernel) rfl⟩, ⟨by decide +kernel, by decide +kernel⟩, by decide, rfl, rfl⟩
theorem yS_X11_asAtFirst : gYS yX11_asAtFirst iX11_asAtFirst := ⟨⟨lw_g_of 851 (by decide +kernel) rfl, lw_g_of 60 (by decide +kernel) rfl, lw_g_of 852 (by decide +kernel) rfl⟩, ⟨by decide +kernel, by decide +kernel⟩, by decide⟩
theorem yS_X11_in : gYS yX11_in iX11_in := ⟨⟨lw_g_of 920 (by decide +kernel) rfl, lw_g_of 60 (by decide +kernel) rfl, lw_g_of 921 (by decide +kernel) rfl⟩, ⟨by decide +kernel, by decide +kernel⟩, by decide⟩
theorem yS_X11_has : gYS yX11_has iX11_has := ⟨⟨lw_g_of 1132 (by decide +kernel) rfl, lw_g_of 60 (by decide +kernel) rfl, lw_g_of 1133 (by decide +kernel) rfl⟩, ⟨by decide +kernel, by decide +kernel⟩, by decide⟩
theorem yS_X11_ones : gYS yX11_ones iX11_ones := ⟨⟨lw_g_of 1129 (by decide +kernel) rfl, lw_g_of 60 (by decide +kernel) rfl, lw_g_of 1130 (by decide +kernel) rfl⟩, ⟨by decide +kernel, by decide +kernel⟩, by decide⟩
theorem yV_X11_isSister : gYV yX11_isSister iX11_isSister := ⟨⟨lw_g_of 988 (by decide +kernel) rfl, lw_g_of 28 (by decide +kernel) rfl, lw_g_of 60 (by decide +kernel) rfl, lw_g_of 989 (by decide +kernel) rfl⟩, ⟨by decide +kernel, by decide +kernel⟩, by decide⟩
theorem yV_X11_write : gYV yX11_write iX11_write := ⟨⟨lw_g_of 915 (by decide +kernel) rfl, lw_g_of 916 (by decide +kernel) rfl, lw_g_of 60 (by decide +kernel) rfl, lw_g_of 917 (by decide +kernel) rfl⟩, ⟨by decide +kernel, by decide +kernel⟩, by decide⟩
theorem yV_X11_erase : gYV yX11_erase iX11_erase := ⟨⟨lw_g_of 923 (by decide +kernel) rfl, lw_g_of 924 (by decide +kernel) rfl, lw_g_of 60 (by decide +kernel) rfl, lw_g_of 925 (by decide +kernel) rfl⟩, ⟨by decide +kernel, by decide +kernel⟩, by decide⟩
theorem yV_X11_letterAt : gYV yX11_letterAt iX11_letterAt := ⟨⟨lw_g_of 940 (by decide +kernel) rfl, lw_g_of 20 (by decide +kernel) rfl, lw_g_of 60 (by decide +kernel) rfl, lw_g_of 941 (by decide +kernel) rfl⟩, ⟨by decide +kernel, by decide +kernel⟩, by decide⟩
theorem yV_X11_nextToken : gYV yX11_nextToken iX11_nextToken := ⟨⟨lw_g_of 936 (by decide +kernel) rfl, lw_g_of 19 (by decide +kernel) rfl, lw_g_of 60 (by decide +kernel) rfl, lw_g_of 937 (by decide +kernel) rfl⟩, ⟨by decide +kernel, by decide +kernel⟩, by decide⟩
theorem yV_X11_wordOf : gYV yX11_wordOf iX11_wordOf := ⟨⟨lw_g_of 956 (by decide +kernel) rfl, lw_g_of 23 (by decide +kernel) rfl, lw_g_of 60 (by decide +kernel) rfl, lw_g_of 957 (by decide +kernel) rfl⟩, ⟨by decide +kernel, by decide +kernel⟩, by decide⟩
theorem yS_X11_spelt : gYS yX11_spelt iX11_spelt := ⟨⟨lw_g_of 960 (by decide +kernel) rfl, lw_g_of 60 (by decide +kernel) rfl, lw_g_of 961 (by decide +kernel) rfl⟩, ⟨by decide +kernel, by decide +kernel⟩, by decide⟩
theorem yV_X11_verb : gYV yX11_verb iX11_verb := ⟨⟨lw_g_of 952 (by decide +kernel) rfl, lw_g_of 22 (by decide +kernel) rfl, lw_g_of 60 (by decide +kernel) rfl, lw_g_of 953 (by decide +kernel) rfl⟩, ⟨by decide +kernel, by decide +kernel⟩, by decide⟩
theorem yV_X11_number : gYV yX11_number iX11_number := ⟨⟨lw_g_of 968 (by decide +kernel) rfl, lw_g_of 25 (by decide +kernel) rfl, lw_g_of 60 (by decide +kernel) rfl, lw_g_of 969 (by decide +kernel) rfl⟩, ⟨by decide +kernel, by decide +kernel⟩, by decide⟩
theorem yV_X11_readSister : gYV yX11_readSister iX11_readSister := ⟨⟨lw_g_of 964 (by decide +kernel) rfl, lw_g_of 24 (by decide +kernel) rfl, lw_g_of 60 (by decide +kernel) rfl, lw_g_of 965 (by decide +kernel) rfl⟩, ⟨by decide +kernel, by decide +kernel⟩, by decide⟩
theorem yV_X11_takes : gYV yX11_takes iX11_takes := ⟨⟨lw_g_of 972 (by decide +kernel) rfl, lw_g_of 26 (by decide +kernel) rfl, lw_g_of 60 (by decide +kernel) rfl, lw_g_of 973 (by decide +kernel) rfl⟩, ⟨by decide +kernel, by decide +kernel⟩, by decide⟩
theorem yV_X11_readClause : gYV yX11_readClause iX11_readClause := ⟨⟨lw_g_of 948 (by decide +kernel) rfl, lw_g_of 21 (by decide +kernel) rfl, lw_g_of 60 (by decide +kernel) rfl, lw_g_of 949 (by decide +kernel) rfl⟩, ⟨by decide +kernel, by decide +kernel⟩, by decide⟩
theorem yV_X11_readText : gYV yX11_readText iX11_readText := ⟨⟨lw_g_of 932 (by decide +kernel) rfl, lw_g_of 18 (by decide +kernel) rfl, lw_g_of 60 (by decide +kernel) rfl, lw_g_of 933 (by decide +kernel) rfl⟩, ⟨by decide +kernel, by decide +kernel⟩, by decide⟩
theorem yV_X11_fault : gYV yX11_fault iX11_fault := ⟨⟨lw_g_of 927 (by decide +kernel) rfl, lw_g_of 928 (by decide +kernel) rfl, lw_g_of 60 (by decide +kernel) rfl, lw_g_of 929 (by decide +kernel) rfl⟩, ⟨by decide +kernel, by decide +kernel⟩, by decide⟩
theorem yV_X11_well : gYV yX11_well iX11_well := ⟨⟨lw_g_of 975 (by decide +kernel) rfl, lw_g_of 976 (by decide +kernel) rfl, lw_g_of 60 (by decide +kernel) rfl, lw_g_of 977 (by decide +kernel) rfl⟩, ⟨by decide +kernel, by decide +kernel⟩, by decide⟩
theorem yV_X11_anew : gYV yX11_anew iX11_anew := ⟨⟨lw_g_of 980 (by decide +kernel) rfl, lw_g_of 27 (by decide +kernel) rfl, lw_g_of 60 (by decide +kernel) rfl, lw_g_of 981 (by decide +kernel) rfl⟩, ⟨by decide +kernel, by decide +kernel⟩, by decide⟩
theorem yV_X11_of : gYV yX11_of iX11_of := ⟨⟨lw_g_of 992 (by decide +kernel) rfl, lw_g_of 29 (by decide +kernel) rfl, lw_g_of 60 (by decide +kernel) rfl, lw_g_of 993 (by decide +kernel) rfl⟩, ⟨by decide +kernel, by decide +kernel⟩, by decide⟩
theorem yV_X11_walkOf : gYV yX11_walkOf iX11_walkOf := ⟨⟨lw_g_of 1005 (by decide +kernel) rfl, lw_g_of 31 (by decide +kernel) rfl, lw_g_of 60 (by decide +kernel) rfl, lw_g_of 1006 (by decide +kernel) rfl⟩, ⟨by decide +kernel, by decide +kernel⟩, by decide⟩
theorem yV_X11_dripOf : gYV yX11_dripOf iX11_dripOf := ⟨⟨lw_g_of 1014 (by decide +kernel) rfl, lw_g_of 32 (by decide +kernel) rfl, lw_g_of 60 (by decide +kernel) rfl, lw_g_of 1015 (by decide +kernel) rfl⟩, ⟨by decide +kernel, by decide +kernel⟩, by decide⟩
theorem yV_X11_dripNow : gYV yX11_dripNow iX11_dripNow := ⟨⟨lw_g_of 1063 (by decide +kernel) rfl, lw_g_of 38 (by decide +kernel) rfl, lw_g_of 60 (by decide +kernel) rfl, lw_g_of 1064 (by decide +kernel) rfl⟩, ⟨by decide +kernel, by decide +kernel⟩, by decide⟩
theorem yV_X11_mossOf : gYV yX11_mossOf iX11_mossOf := ⟨⟨lw_g_of 996 (by decide +kernel) rfl, lw_g_of 30 (by decide +kernel) rfl, lw_g_of 60 (by decide +kernel) rfl, lw_g_of 997 (by decide +kernel) rfl⟩, ⟨by decide +kernel, by decide +kernel⟩, by decide⟩
theorem yV_X11_sister : gYV yX11_sister iX11_sister := ⟨⟨lw_g_of 983 (by decide +kernel) rfl, lw_g_of 984 (by decide +kernel) rfl, lw_g_of 60 (by decide +kernel) rfl, lw_g_of 985 (by decide +kernel) rfl⟩, ⟨by decide +kernel, by decide +kernel⟩, by decide⟩
theorem yV_X11_as : gYV yX11_as iX11_as := ⟨⟨lw_g_of 999 (by decide +kernel) rfl, lw_g_of 1000 (by decide +kernel) rfl, lw_g_of 60 (by decide +kernel) rfl, lw_g_of 1001 (by decide +kernel) rfl⟩, ⟨by decide +kernel, by decide +kernel⟩, by decide⟩
theorem yV_X11_sieveAs : gYV yX11_sieveAs iX11_sieveAs := ⟨⟨lw_g_of 1008 (by decide +kernel) rfl, lw_g_of 1009 (by decide +kernel) rfl, lw_g_of 60 (by decide +kernel) rfl, lw_g_of 1010 (by decide +kernel) rfl⟩, ⟨by decide +kernel, by decide +kernel⟩, by decide⟩
theorem yV_X11_draws : gYV yX11_draws iX11_draws := ⟨⟨lw_g_of 1026 (by decide +kernel) rfl, lw_g_of 34 (by decide +kernel) rfl, lw_g_of 60 (by decide +kernel) rfl, lw_g_of 1027 (by decide +kernel) rfl⟩, ⟨by decide +kernel, by decide +kernel⟩, by decide⟩
theorem yV_X11_restNow : gYV yX11_restNow iX11_restNow := ⟨⟨lw_g_of 1034 (by decide +kernel) rfl, lw_g_of 35 (by decide +kernel) rfl, lw_g_of 60 (by decide +kernel) rfl, lw_g_of 1035 (by decide +kernel) rfl⟩, ⟨by decide +kernel, by decide +kernel⟩, by decide⟩
theorem yV_X11_step : gYV yX11_step iX11_step := ⟨⟨lw_g_of 1059 (by decide +kernel) rfl, lw_g_of 37 (by decide +kernel) rfl, lw_g_of 60 (by decide +kernel) rfl, lw_g_of 1060 (by decide +kernel) rfl⟩, ⟨by decide +kernel, by decide +kernel⟩, by decide⟩
theorem yV_X11_oneMinute : gYV yX11_oneMinute iX11_oneMinute := ⟨⟨lw_g_of 1055 (by decide +kernel) rfl, lw_g_of 36 (by decide +kernel) rfl, lw_g_of 60 (by decide +kernel) rfl, lw_g_of 1056 (by decide +kernel) rfl⟩, ⟨by decide +kernel, by decide +kernel⟩, by decide⟩
theorem yV_X11_note : gYV yX11_note iX11_note := ⟨⟨lw_g_of 1022 (by decide +kernel) rfl, lw_g_of 33 (by decide +kernel) rfl, lw_g_of 60 (by decide +kernel) rfl, lw_g_of 1023 (by decide +kernel) rfl⟩, ⟨by decide +kernel, by decide +kernel⟩, by decide⟩
theorem yV_X11_begin : gYV yX11_begin iX11_begin := ⟨⟨lw_g_of 1017 (by decide +kernel) rfl, lw_g_of 1018 (by decide +kernel) rfl, lw_g_of 60 (by decide +kernel) rfl, lw_g_of 1019 (by decide +kernel) rfl⟩, ⟨by decide +kernel, by decide +kernel⟩, by decide⟩
theorem yV_X11_rest : gYV yX11_rest iX11_rest := ⟨⟨lw_g_of 1029 (by decide +kernel) rfl, lw_g_of 1030 (by decide +kernel) rfl, lw_g_of 60 (by decide +kernel) rfl, lw_g_of 1031 (by decide +kernel) rfl⟩, ⟨by decide +kernel, by decide +kernel⟩, by decide⟩
theorem yV_X11_moss : gYV yX11_moss iX11_moss := ⟨⟨lw_g_of 1037 (by decide +kernel) rfl, lw_g_of 1038 (by decide +kernel) rfl, lw_g_of 60 (by decide +kernel) rfl, lw_g_of 1039 (by decide +kernel) rfl⟩, ⟨by decide +kernel, by decide +kernel⟩, by decide⟩
theorem yS_X11_less : gYS yX11_less iX11_less := ⟨⟨lw_g_of 1046 (by decide +kernel) rfl, lw_g_of 60 (by decide +kernel) rfl, lw_g_of 1047 (by decide +kernel) rfl⟩, ⟨by decide +kernel, by decide +kernel⟩, by decide⟩
theorem yV_X11_smear : gYV yX11_smear iX11_smear := ⟨⟨lw_g_of 1041 (by decide +kernel) rfl, lw_g_of 1042 (by decide +kernel) rfl, lw_g_of 60 (by decide +kernel) rfl, lw_g_of 1043 (by decide +kernel) rfl⟩, ⟨by decide +kernel, by decide +kernel⟩, by decide⟩
theorem yV_X11_go : gYV yX11_go iX11_go := ⟨⟨lw_g_of 1049 (by decide +kernel) rfl, lw_g_of 1050 (by decide +kernel) rfl, lw_g_of 60 (by decide +kernel) rfl, lw_g_of 1051 (by decide +kernel) rfl⟩, ⟨by decide +kernel, by decide +kernel⟩, by decide⟩
theorem yV_X11_undo : gYV yX11_undo iX11_undo := ⟨⟨lw_g_of 1066 (by decide +kernel) rfl, lw_g_of 1067 (by decide +kernel) rfl, lw_g_of 60 (by decide +kernel) rfl, lw_g_of 1068 (by decide +kernel) rfl⟩, ⟨by decide +kernel, by decide +kernel⟩, by decide⟩
theorem yV_X11_keep : gYV yX11_keep iX11_keep := ⟨⟨lw_g_of 1070 (by decide +kernel) rfl, lw_g_of 1071 (by decide +kernel) rfl, lw_g_of 60 (by decide +kernel) rfl, lw_g_of 1072 (by decide +kernel) rfl⟩, ⟨by decide +kernel, by decide +kernel⟩, by decide⟩
theorem yV_X11_back : gYV yX11_back iX11_back := ⟨⟨lw_g_of 1074 (by decide +kernel) rfl, lw_g_of 1075 (by decide +kernel) rfl, lw_g_of 60 (by decide +kernel) rfl, lw_g_of 1076 (by decide +kernel) rfl⟩, ⟨by decide +kernel, by decide +kernel⟩, by decide⟩
theorem yV_X11_putAside : gYV yX11_putAside iX11_putAside := ⟨⟨lw_g_of 1086 (by decide +kernel) rfl, lw_g_of 39 (by decide +kernel) rfl, lw_g_of 60 (by decide +kernel) rfl, lw_g_of 1087 (by decide +kernel) rfl⟩, ⟨by decide +kernel, by decide +kernel⟩, by decide⟩
theorem yV_X11_takeBack : gYV yX11_takeBack iX11_takeBack := ⟨⟨lw_g_of 1094 (by decide +kernel) rfl, lw_g_of 41 (by decide +kernel) rfl, lw_g_of 60 (by decide +kernel) rfl, lw_g_of 1095 (by decide +kernel) rfl⟩, ⟨by decide +kernel, by decide +kernel⟩, by decide⟩
theorem yV_X11_levelBehind : gYV yX11_levelBehind iX11_levelBehind := ⟨⟨lw_g_of 1090 (by decide +kernel) rfl, lw_g_of 40 (by decide +kernel) rfl, lw_g_of 60 (by decide +kernel) rfl, lw_g_of 1091 (by decide +kernel) rfl⟩, ⟨by decide +kernel, by decide +kernel⟩, by decide⟩
theorem yV_X11_highestOf : gYV yX11_highestOf iX11_highestOf := ⟨⟨lw_g_of 1102 (by decide +kernel) rfl, lw_g_of 42 (by decide +kernel) rfl, lw_g_of 60 (by decide +kernel) rfl, lw_g_of 1103 (by decide +kernel) rfl⟩, ⟨by decide +kernel, by decide +kernel⟩, by decide⟩
theorem yV_X11_fullIn : gYV yX11_fullIn iX11_fullIn := ⟨⟨lw_g_of 1110 (by decide +kernel) rfl, lw_g_of 43 (by decide +kernel) rfl, lw_g_of 60 (by decide +kernel) rfl, lw_g_of 1111 (by decide +kernel) rfl⟩, ⟨by decide +kernel, by decide +kernel⟩, by decide⟩
theorem yS_X11_isFar : gYS yX11_isFar iX11_isFar := ⟨⟨lw_g_of 1082 (by decide +kernel) rfl, lw_g_of 60 (by decide +kernel) rfl, lw_g_of 1083 (by decide +kernel) rfl⟩, ⟨by decide +kernel, by decide +kernel⟩, by decide⟩
theorem yV_X11_level : gYV yX11_level iX11_level := ⟨⟨lw_g_of 1078 (by decide +kernel) rfl, lw_g_of 1079 (by decide +kernel) rfl, lw_g_of 60 (by decide +kernel) rfl, lw_g_of 1080 (by decide +kernel) rfl⟩, ⟨by decide +kernel, by decide +kernel⟩, by decide⟩
theorem yV_X11_highest : gYV yX11_highest iX11_highest := ⟨⟨lw_g_of 1097 (by decide +kernel) rfl, lw_g_of 1098 (by decide +kernel) rfl, lw_g_of 60 (by decide +kernel) rfl, lw_g_of 1099 (by decide +kernel) rfl⟩, ⟨by decide +kernel, by decide +kernel⟩, by decide⟩
theorem yV_X11_full : gYV yX11_full iX11_full := ⟨⟨lw_g_of 1105 (by decide +kernel) rfl, lw_g_of 1106 (by decide +kernel) rfl, lw_g_of 60 (by decide +kernel) rfl, lw_g_of 1107 (by decide +kernel) rfl⟩, ⟨by decide +kernel, by decide +kernel⟩, by decide⟩
theorem yV_X11_mossTo : gYV yX11_mossTo iX11_mossTo := ⟨⟨lw_g_of 1113 (by decide +kernel) rfl, lw_g_of 1114 (by decide +kernel) rfl, lw_g_of 60 (by decide +kernel) rfl, lw_g_of 1115 (by decide +kernel) rfl⟩, ⟨by decide +kernel, by decide +kernel⟩, by decide⟩
theorem yV_X11_adds : gYV yX11_adds iX11_adds := ⟨⟨lw_g_of 1117 (by decide +kernel) rfl, lw_g_of 1118 (by decide +kernel) rfl, lw_g_of 60 (by decide +kernel) rfl, lw_g_of 1119 (by decide +kernel) rfl⟩, ⟨by decide +kernel, by decide +kernel⟩, by decide⟩
theorem yV_X11_working : gYV yX11_working iX11_working := ⟨⟨lw_g_of 1126 (by decide +kernel) rfl, lw_g_of 44 (by decide +kernel) rfl, lw_g_of 60 (by decide +kernel) rfl, lw_g_of 1127 (by decide +kernel) rfl⟩, ⟨by decide +kernel, by decide +kernel⟩, by decide⟩
theorem yV_X11_fewest : gYV yX11_fewest iX11_fewest := ⟨⟨lw_g_of 1121 (by decide +kernel) rfl, lw_g_of 1122 (by decide +kernel) rfl, lw_g_of 60 (by decide +kernel) rfl, lw_g_of 1123 (by decide +kernel) rfl⟩, ⟨by decide +kernel, by decide +kernel⟩, by decide⟩
theorem yV_X11_highestBy : gYV yX11_highestBy iX11_highestBy := ⟨⟨lw_g_of 1141 (by decide +kernel) rfl, lw_g_of 45 (by decide +kernel) rfl, lw_g_of 60 (by decide +kernel) rfl, lw_g_of 1142 (by decide +kernel) rfl⟩, ⟨by decide +kernel, by decide +kernel⟩, by decide⟩
theorem yV_X11_together : gYV yX11_together iX11_together := ⟨⟨lw_g_of 1135 (by decide +kernel) rfl, lw_g_of 1136 (by decide +kernel) rfl, lw_g_of 60 (by decide +kernel) rfl, lw_g_of 1137 (by decide +kernel) rfl⟩, ⟨by decide +kernel, by decide +kernel⟩, by decide⟩
theorem yV_X11_pitch : gYV yX11_pitch iX11_pitch := ⟨⟨lw_g_of 1144 (by decide +kernel) rfl, lw_g_of 1145 (by decide +kernel) rfl, lw_g_of 60 (by decide +kernel) rfl, lw_g_of 1146 (by decide +kernel) rfl⟩, ⟨by decide +kernel, by decide +kernel⟩, by decide⟩
theorem yV_X11_seen : gYV yX11_seen iX11_seen := ⟨⟨lw_g_of 1148 (by decide +kernel) rfl, lw_g_of 1149 (by decide +kernel) rfl, lw_g_of 60 (by decide +kernel) rfl, lw_g_of 1150 (by decide +kernel) rfl⟩, ⟨by decide +kernel, by decide +kernel⟩, by decide⟩
theorem yV_X11_forget : gYV yX11_forget iX11_forget := ⟨⟨lw_g_of 1152 (by decide +kernel) rfl, lw_g_of 1153 (by decide +kernel) rfl, lw_g_of 60 (by decide +kernel) rfl, lw_g_of 1154 (by decide +kernel) rfl⟩, ⟨by decide +kernel, by decide +kernel⟩, by decide⟩
theorem yV_X11_isBy : gYV yX11_isBy iX11_isBy := ⟨⟨lw_g_of 1162 (by decide +kernel) rfl, lw_g_of 46 (by decide +kernel) rfl, lw_g_of 60 (by decide +kernel) rfl, lw_g_of 1163 (by decide +kernel) rfl⟩, ⟨by decide +kernel, by decide +kernel⟩, by decide⟩
theorem yV_X11_worked : gYV yX11_worked iX11_worked := ⟨⟨lw_g_of 1156 (by decide +kernel) rfl, lw_g_of 1157 (by decide +kernel) rfl, lw_g_of 60 (by decide +kernel) rfl, lw_g_of 1158 (by decide +kernel) rfl⟩, ⟨by decide +kernel, by decide +kernel⟩, by decide⟩
theorem yV_X11_leaves : gYV yX11_leaves iX11_leaves := ⟨⟨lw_g_of 1165 (by decide +kernel) rfl, lw_g_of 1166 (by decide +kernel) rfl, lw_g_of 60 (by decide +kernel) rfl, lw_g_of 1167 (by decide +kernel) rfl⟩, ⟨by decide +kernel, by decide +kernel⟩, by decide⟩
theorem yV_X11_count : gYV yX11_count iX11_count := ⟨⟨lw_g_of 1171 (by decide +kernel) rfl, lw_g_of 1172 (by decide +kernel) rfl, lw_g_of 60 (by decide +kernel) rfl, lw_g_of 1173 (by decide +kernel) rfl⟩, ⟨by decide +kernel, by decide +kernel⟩, by decide⟩
theorem yS_J6_bitCount_0f7a4 : gYS yJ6_bitCount_0f7a4 iJ6_bitCount_0f7a4 := ⟨⟨lw_g_of 761 (by decide +kernel) rfl, lw_g_of 66 (by decide +kernel) rfl, lw_g_of 762 (by decide +kernel) rfl⟩, ⟨by decide +kernel, by decide +kernel⟩, by decide⟩
theorem yS_J9_max_7cf53 : gYS yJ9_max_7cf53 iJ9_max_7cf53 := ⟨⟨lw_g_of 603 (by decide +kernel) rfl, lw_g_of 65 (by decide +kernel) rfl, lw_g_of 604 (by decide +kernel) rfl⟩, ⟨by decide +kernel, by decide +kernel⟩, by decide⟩
theorem yS_J9_min_7cf53 : gYS yJ9_min_7cf53 iJ9_min_7cf53 := ⟨⟨lw_g_of 632 (by decide +kernel) rfl, lw_g_of 65 (by decide +kernel) rfl, lw_g_of 633 (by decide +kernel) rfl⟩, ⟨by decide +kernel, by decide +kernel⟩, by decide⟩
theorem yV_J0_length_8abf5 : gYV yJ0_length_8abf5 iJ0_length_8abf5 := ⟨⟨lw_g_of 497 (by decide +kernel) rfl, lw_g_of 498 (by decide +kernel) rfl, lw_g_of 61 (by decide +kernel) rfl, lw_g_of 499 (by decide +kernel) rfl⟩, ⟨by decide +kernel, by decide +kernel⟩, by decide⟩
theorem yV_J0_charAt_5068e : gYV yJ0_charAt_5068e iJ0_charAt_5068e := ⟨⟨lw_g_of 507 (by decide +kernel) rfl, lw_g_of 508 (by decide +kernel) rfl, lw_g_of 61 (by decide +kernel) rfl, lw_g_of 509 (by decide +kernel) rfl⟩, ⟨by decide +kernel, by decide +kernel⟩, by decide⟩
theorem yV_J0_coder_7d493 : gYV yJ0_coder_7d493 iJ0_coder_7d493 := ⟨⟨lw_g_of 501 (by decide +kernel) rfl, lw_g_of 502 (by decide +kernel) rfl, lw_g_of 61 (by decide +kernel) rfl, lw_g_of 503 (by decide +kernel) rfl⟩, ⟨by decide +kernel, by decide +kernel⟩, by decide⟩
theorem yV_J0_isLatin1_aae02 : gYV yJ0_isLatin1_aae02 iJ0_isLatin1_aae02 := ⟨⟨lw_g_of 511 (by decide +kernel) rfl, lw_g_of 512 (by decide +kernel) rfl, lw_g_of 61 (by decide +kernel) rfl, lw_g_of 513 (by decide +kernel) rfl⟩, ⟨by decide +kernel, by decide +kernel⟩, by decide⟩
theorem yS_J0_checkIndex_df160 : gYS yJ0_checkIndex_df160 iJ0_checkIndex_df160 := ⟨⟨lw_g_of 518 (by decide +kernel) rfl, lw_g_of 61 (by decide +kernel) rfl, lw_g_of 519 (by decide +kernel) rfl⟩, ⟨by decide +kernel, by decide +kernel⟩, by decide⟩
theorem yS_J1_charAt_3b067 : gYS yJ1_charAt_3b067 iJ1_charAt_3b067 := ⟨⟨lw_g_of 515 (by decide +kernel) rfl, lw_g_of 62 (by decide +kernel) rfl, lw_g_of 516 (by decide +kernel) rfl⟩, ⟨by decide +kernel, by decide +kernel⟩, by decide⟩
theorem yS_J2_getChar_3b067 : gYS yJ2_getChar_3b067 iJ2_getChar_3b067 := ⟨⟨lw_g_of 536 (by decide +kernel) rfl, lw_g_of 64 (by decide +kernel) rfl, lw_g_of 537 (by decide +kernel) rfl⟩, ⟨by decide +kernel, by decide +kernel⟩, by decide⟩
theorem yS_J2_length_9d52b : gYS yJ2_length_9d52b iJ2_length_9d52b := ⟨⟨lw_g_of 532 (by decide +kernel) rfl, lw_g_of 64 (by decide +kernel) rfl, lw_g_of 533 (by decide +kernel) rfl⟩, ⟨by decide +kernel, by decide +kernel⟩, by decide⟩
theorem yS_J2_charAt_3b067 : gYS yJ2_charAt_3b067 iJ2_charAt_3b067 := ⟨⟨lw_g_of 526 (by decide +kernel) rfl, lw_g_of 64 (by decide +kernel) rfl, lw_g_of 527 (by decide +kernel) rfl⟩, ⟨by decide +kernel, by decide +kernel⟩, by decide⟩
theorem yS_J2_checkIndex_2214a : gYS yJ2_checkIndex_2214a iJ2_checkIndex_2214a := ⟨⟨lw_g_of 529 (by decide +kernel) rfl, lw_g_of 64 (by decide +kernel) rfl, lw_g_of 530 (by decide +kernel) rfl⟩, ⟨by decide +kernel, by decide +kernel⟩, by decide⟩
theorem yS_J3_checkIndex_8e157 : gYS yJ3_checkIndex_8e157 iJ3_checkIndex_8e157 := ⟨⟨lw_g_of 523 (by decide +kernel) rfl, lw_g_of 63 (by decide +kernel) rfl, lw_g_of 524 (by decide +kernel) rfl⟩, ⟨by decide +kernel, by decide +kernel⟩, by decide⟩
theorem mL_L_9 : Cond.methodLink RL 9 yX10_init ∈ lw_g := lw_g_of 70 (by decide +kernel) rfl
theorem mL_X10_1 : Cond.methodLink RX10 1 Lib.objectInit ∈ lw_g := lw_g_of 73 (by decide +kernel) rfl
theorem mL_X10_9 : Cond.methodLink RX10 9 yX7_init ∈ lw_g := lw_g_of 78 (by decide +kernel) rfl
theorem mL_X7_3 : Cond.methodLink RX7 3 Lib.objectInit ∈ lw_g := lw_g_of 81 (by decide +kernel) rfl
theorem mL_X6_3 : Cond.methodLink RX6 3 Lib.objectInit ∈ lw_g := lw_g_of 88 (by decide +kernel) rfl
theorem mL_X7_18 : Cond.methodLink RX7 18 yX7_setAsAtFirst ∈ lw_g := lw_g_of 115 (by decide +kernel) rfl
theorem mL_X7_37 : Cond.methodLink RX7 37 yX7_setFrost ∈ lw_g := lw_g_of 119 (by decide +kernel) rfl
theorem mL_X10_18 : Cond.methodLink RX10 18 yX3_init ∈ lw_g := lw_g_of 163 (by decide +kernel) rfl
theorem mL_X3_3 : Cond.methodLink RX3 3 Lib.objectInit ∈ lw_g := lw_g_of 166 (by decide +kernel) rfl
theorem mL_X10_25 : Cond.methodLink RX10 25 yX0_init ∈ lw_g := lw_g_of 189 (by decide +kernel) rfl
theorem mL_X0_3 : Cond.methodLink RX0 3 Lib.objectInit ∈ lw_g := lw_g_of 192 (by decide +kernel) rfl
theorem mL_X0_9 : Cond.methodLink RX0 9 yX9_values ∈ lw_g := lw_g_of 193 (by decide +kernel) rfl
theorem mL_X10_32 : Cond.methodLink RX10 32 yX5_init ∈ lw_g := lw_g_of 235 (by decide +kernel) rfl
theorem mL_X5_3 : Cond.methodLink RX5 3 Lib.objectInit ∈ lw_g := lw_g_of 238 (by decide +kernel) rfl
theorem mL_X8_3 : Cond.methodLink RX8 3 Lib.objectInit ∈ lw_g := lw_g_of 245 (by decide +kernel) rfl
theorem mL_X10_39 : Cond.methodLink RX10 39 yX4_init ∈ lw_g := lw_g_of 303 (by decide +kernel) rfl
theorem mL_X4_3 : Cond.methodLink RX4 3 Lib.objectInit ∈ lw_g := lw_g_of 306 (by decide +kernel) rfl
theorem mL_X4_17 : Cond.methodLink RX4 17 yX5_init ∈ lw_g := lw_g_of 309 (by decide +kernel) rfl
theorem mL_X10_54 : Cond.methodLink RX10 54 yX2_init ∈ lw_g := lw_g_of 323 (by decide +kernel) rfl
theorem mL_X2_3 : Cond.methodLink RX2 3 Lib.objectInit ∈ lw_g := lw_g_of 326 (by decide +kernel) rfl
theorem mL_X10_63 : Cond.methodLink RX10 63 yX1_init ∈ lw_g := lw_g_of 360 (by decide +kernel) rfl
theorem mL_X1_3 : Cond.methodLink RX1 3 Lib.objectInit ∈ lw_g := lw_g_of 363 (by decide +kernel) rfl
theorem mL_X10_79 : Cond.methodLink RX10 79 yX5_startAnew ∈ lw_g := lw_g_of 400 (by decide +kernel) rfl
theorem mL_X5_38 : Cond.methodLink RX5 38 yX8_startAnew ∈ lw_g := lw_g_of 404 (by decide +kernel) rfl
theorem mL_X8_27 : Cond.methodLink RX8 27 yX8_sitDown ∈ lw_g := lw_g_of 408 (by decide +kernel) rfl
theorem mL_L_13 : Cond.methodLink RL 13 yX10_write ∈ lw_g := lw_g_of 449 (by decide +kernel) rfl
theorem mL_X10_83 : Cond.methodLink RX10 83 yX10_isOutside ∈ lw_g := lw_g_of 453 (by decide +kernel) rfl
theorem mL_X10_87 : Cond.methodLink RX10 87 yX3_add ∈ lw_g := lw_g_of 456 (by decide +kernel) rfl
theorem mL_L_18 : Cond.methodLink RL 18 yX10_erase ∈ lw_g := lw_g_of 460 (by decide +kernel) rfl
theorem mL_L_23 : Cond.methodLink RL 23 yX10_fault ∈ lw_g := lw_g_of 464 (by decide +kernel) rfl
theorem mL_X10_97 : Cond.methodLink RX10 97 yX0_read ∈ lw_g := lw_g_of 468 (by decide +kernel) rfl
theorem mL_X0_41 : Cond.methodLink RX0 41 yX3_readFromStart ∈ lw_g := lw_g_of 472 (by decide +kernel) rfl
theorem mL_X0_46 : Cond.methodLink RX0 46 yX0_readClause ∈ lw_g := lw_g_of 476 (by decide +kernel) rfl
theorem mL_X0_53 : Cond.methodLink RX0 53 yX3_readToken ∈ lw_g := lw_g_of 480 (by decide +kernel) rfl
theorem mL_X3_25 : Cond.methodLink RX3 25 yX3_typeAt ∈ lw_g := lw_g_of 484 (by decide +kernel) rfl
theorem mL_X0_63 : Cond.methodLink RX0 63 yX0_findWord ∈ lw_g := lw_g_of 488 (by decide +kernel) rfl
theorem mL_X0_100 : Cond.methodLink RX0 100 yX3_isWord ∈ lw_g := lw_g_of 492 (by decide +kernel) rfl
theorem mL_X3_32 : Cond.methodLink RX3 32 yJ0_length_8abf5 ∈ lw_g := lw_g_of 496 (by decide +kernel) rfl
theorem mL_J0_335 : Cond.methodLink RJ0 335 yJ0_coder_7d493 ∈ lw_g := lw_g_of 500 (by decide +kernel) rfl
theorem mL_X3_37 : Cond.methodLink RX3 37 yJ0_charAt_5068e ∈ lw_g := lw_g_of 506 (by decide +kernel) rfl
theorem mL_J0_492 : Cond.methodLink RJ0 492 yJ0_isLatin1_aae02 ∈ lw_g := lw_g_of 510 (by decide +kernel) rfl
theorem mL_J0_495 : Cond.methodLink RJ0 495 yJ1_charAt_3b067 ∈ lw_g := lw_g_of 514 (by decide +kernel) rfl
theorem mL_J1_9 : Cond.methodLink RJ1 9 yJ0_checkIndex_df160 ∈ lw_g := lw_g_of 517 (by decide +kernel) rfl
theorem mL_J0_1059 : Cond.methodLink RJ0 1059 yJ3_checkIndex_8e157 ∈ lw_g := lw_g_of 522 (by decide +kernel) rfl
theorem mL_J0_498 : Cond.methodLink RJ0 498 yJ2_charAt_3b067 ∈ lw_g := lw_g_of 525 (by decide +kernel) rfl
theorem mL_J2_67 : Cond.methodLink RJ2 67 yJ2_checkIndex_2214a ∈ lw_g := lw_g_of 528 (by decide +kernel) rfl
theorem mL_J2_48 : Cond.methodLink RJ2 48 yJ2_length_9d52b ∈ lw_g := lw_g_of 531 (by decide +kernel) rfl
theorem mL_J2_414 : Cond.methodLink RJ2 414 yJ0_checkIndex_df160 ∈ lw_g := lw_g_of 534 (by decide +kernel) rfl
theorem mL_J2_71 : Cond.methodLink RJ2 71 yJ2_getChar_3b067 ∈ lw_g := lw_g_of 535 (by decide +kernel) rfl
theorem mL_X0_67 : Cond.methodLink RX0 67 yX0_countSisters ∈ lw_g := lw_g_of 544 (by decide +kernel) rfl
theorem mL_X0_71 : Cond.methodLink RX0 71 yX9_numbers ∈ lw_g := lw_g_of 548 (by decide +kernel) rfl
theorem mL_X0_75 : Cond.methodLink RX0 75 yX3_number ∈ lw_g := lw_g_of 552 (by decide +kernel) rfl
theorem mL_X0_78 : Cond.methodLink RX0 78 yX9_leastNumber ∈ lw_g := lw_g_of 556 (by decide +kernel) rfl
theorem mL_X0_82 : Cond.methodLink RX0 82 yX9_mostNumber ∈ lw_g := lw_g_of 560 (by decide +kernel) rfl
theorem mL_X0_59 : Cond.methodLink RX0 59 yX3_isSemicolon ∈ lw_g := lw_g_of 565 (by decide +kernel) rfl
theorem mL_L_27 : Cond.methodLink RL 27 yX10_well ∈ lw_g := lw_g_of 569 (by decide +kernel) rfl
theorem mL_X10_114 : Cond.methodLink RX10 114 yX7_hear ∈ lw_g := lw_g_of 573 (by decide +kernel) rfl
theorem mL_X7_47 : Cond.methodLink RX7 47 yX7_addSister ∈ lw_g := lw_g_of 577 (by decide +kernel) rfl
theorem mL_L_31 : Cond.methodLink RL 31 yX10_sister ∈ lw_g := lw_g_of 581 (by decide +kernel) rfl
theorem mL_X10_124 : Cond.methodLink RX10 124 yX10_isUnknown ∈ lw_g := lw_g_of 585 (by decide +kernel) rfl
theorem mL_L_36 : Cond.methodLink RL 36 yX10_as ∈ lw_g := lw_g_of 589 (by decide +kernel) rfl
theorem mL_X10_172 : Cond.methodLink RX10 172 yX10_isSuch ∈ lw_g := lw_g_of 595 (by decide +kernel) rfl
theorem mL_X10_176 : Cond.methodLink RX10 176 yX6_walk ∈ lw_g := lw_g_of 598 (by decide +kernel) rfl
theorem mL_X6_18 : Cond.methodLink RX6 18 yJ9_max_7cf53 ∈ lw_g := lw_g_of 602 (by decide +kernel) rfl
theorem mL_L_40 : Cond.methodLink RL 40 yX10_sieveAs ∈ lw_g := lw_g_of 605 (by decide +kernel) rfl
theorem mL_X10_183 : Cond.methodLink RX10 183 yX6_drip ∈ lw_g := lw_g_of 611 (by decide +kernel) rfl
theorem mL_L_44 : Cond.methodLink RL 44 yX10_begin ∈ lw_g := lw_g_of 615 (by decide +kernel) rfl
theorem mL_X10_187 : Cond.methodLink RX10 187 yX4_push ∈ lw_g := lw_g_of 619 (by decide +kernel) rfl
theorem mL_X4_22 : Cond.methodLink RX4 22 yX5_copy ∈ lw_g := lw_g_of 623 (by decide +kernel) rfl
theorem mL_X5_34 : Cond.methodLink RX5 34 yX8_copy ∈ lw_g := lw_g_of 627 (by decide +kernel) rfl
theorem mL_X4_29 : Cond.methodLink RX4 29 yJ9_min_7cf53 ∈ lw_g := lw_g_of 631 (by decide +kernel) rfl
theorem mL_X10_191 : Cond.methodLink RX10 191 yX8_draw ∈ lw_g := lw_g_of 634 (by decide +kernel) rfl
theorem mL_X8_30 : Cond.methodLink RX8 30 yX6_walk ∈ lw_g := lw_g_of 638 (by decide +kernel) rfl
theorem mL_L_48 : Cond.methodLink RL 48 yX10_rest ∈ lw_g := lw_g_of 639 (by decide +kernel) rfl
theorem mL_X10_195 : Cond.methodLink RX10 195 yX8_sitDown ∈ lw_g := lw_g_of 643 (by decide +kernel) rfl
theorem mL_L_52 : Cond.methodLink RL 52 yX10_moss ∈ lw_g := lw_g_of 644 (by decide +kernel) rfl
theorem mL_L_56 : Cond.methodLink RL 56 yX10_smear ∈ lw_g := lw_g_of 648 (by decide +kernel) rfl
theorem mL_X10_199 : Cond.methodLink RX10 199 yJ9_max_7cf53 ∈ lw_g := lw_g_of 652 (by decide +kernel) rfl
theorem mL_L_60 : Cond.methodLink RL 60 yX10_go ∈ lw_g := lw_g_of 653 (by decide +kernel) rfl
theorem mL_X10_208 : Cond.methodLink RX10 208 yX5_passMinute ∈ lw_g := lw_g_of 657 (by decide +kernel) rfl
theorem mL_X5_41 : Cond.methodLink RX5 41 yX7_isFrost ∈ lw_g := lw_g_of 661 (by decide +kernel) rfl
theorem mL_X5_54 : Cond.methodLink RX5 54 yX8_passMinute ∈ lw_g := lw_g_of 665 (by decide +kernel) rfl
theorem mL_X8_39 : Cond.methodLink RX8 39 yX6_drip ∈ lw_g := lw_g_of 669 (by decide +kernel) rfl
theorem mL_X8_43 : Cond.methodLink RX8 43 yJ9_max_7cf53 ∈ lw_g := lw_g_of 670 (by decide +kernel) rfl
theorem mL_X8_49 : Cond.methodLink RX8 49 yX8_pour ∈ lw_g := lw_g_of 671 (by decide +kernel) rfl
theorem mL_X8_57 : Cond.methodLink RX8 57 yX6_walkBack ∈ lw_g := lw_g_of 675 (by decide +kernel) rfl
theorem mL_X6_24 : Cond.methodLink RX6 24 yX6_walk ∈ lw_g := lw_g_of 679 (by decide +kernel) rfl
theorem mL_X8_53 : Cond.methodLink RX8 53 yX8_draw ∈ lw_g := lw_g_of 680 (by decide +kernel) rfl
theorem mL_X5_61 : Cond.methodLink RX5 61 yJ9_min_7cf53 ∈ lw_g := lw_g_of 681 (by decide +kernel) rfl
theorem mL_L_64 : Cond.methodLink RL 64 yX10_undo ∈ lw_g := lw_g_of 685 (by decide +kernel) rfl
theorem mL_X10_214 : Cond.methodLink RX10 214 yX4_pop ∈ lw_g := lw_g_of 689 (by decide +kernel) rfl
theorem mL_L_68 : Cond.methodLink RL 68 yX10_keep ∈ lw_g := lw_g_of 693 (by decide +kernel) rfl
theorem mL_X10_218 : Cond.methodLink RX10 218 yX5_copy ∈ lw_g := lw_g_of 697 (by decide +kernel) rfl
theorem mL_L_72 : Cond.methodLink RL 72 yX10_back ∈ lw_g := lw_g_of 698 (by decide +kernel) rfl
theorem mL_L_76 : Cond.methodLink RL 76 yX10_level ∈ lw_g := lw_g_of 702 (by decide +kernel) rfl
theorem mL_X10_221 : Cond.methodLink RX10 221 yX2_takeAll ∈ lw_g := lw_g_of 706 (by decide +kernel) rfl
theorem mL_X2_43 : Cond.methodLink RX2 43 yX8_copy ∈ lw_g := lw_g_of 710 (by decide +kernel) rfl
theorem mL_X2_50 : Cond.methodLink RX2 50 yX2_fill ∈ lw_g := lw_g_of 711 (by decide +kernel) rfl
theorem mL_X2_71 : Cond.methodLink RX2 71 yX7_isFrost ∈ lw_g := lw_g_of 715 (by decide +kernel) rfl
theorem mL_X2_75 : Cond.methodLink RX2 75 yX8_passMinute ∈ lw_g := lw_g_of 716 (by decide +kernel) rfl
theorem mL_X10_225 : Cond.methodLink RX10 225 yX2_run ∈ lw_g := lw_g_of 717 (by decide +kernel) rfl
theorem mL_X2_88 : Cond.methodLink RX2 88 yX2_pouredIn ∈ lw_g := lw_g_of 721 (by decide +kernel) rfl
theorem mL_X2_92 : Cond.methodLink RX2 92 yJ9_min_7cf53 ∈ lw_g := lw_g_of 725 (by decide +kernel) rfl
theorem mL_X2_98 : Cond.methodLink RX2 98 yJ9_max_7cf53 ∈ lw_g := lw_g_of 726 (by decide +kernel) rfl
theorem mL_L_80 : Cond.methodLink RL 80 yX10_highest ∈ lw_g := lw_g_of 728 (by decide +kernel) rfl
theorem mL_L_84 : Cond.methodLink RL 84 yX10_full ∈ lw_g := lw_g_of 732 (by decide +kernel) rfl
theorem mL_X10_235 : Cond.methodLink RX10 235 yX10_firstFull ∈ lw_g := lw_g_of 736 (by decide +kernel) rfl
theorem mL_L_88 : Cond.methodLink RL 88 yX10_mossTo ∈ lw_g := lw_g_of 740 (by decide +kernel) rfl
theorem mL_X10_238 : Cond.methodLink RX10 238 yX2_takeOne ∈ lw_g := lw_g_of 744 (by decide +kernel) rfl
theorem mL_L_92 : Cond.methodLink RL 92 yX10_adds ∈ lw_g := lw_g_of 748 (by decide +kernel) rfl
theorem mL_L_96 : Cond.methodLink RL 96 yX10_fewest ∈ lw_g := lw_g_of 752 (by decide +kernel) rfl
theorem mL_X10_245 : Cond.methodLink RX10 245 yX5_workers ∈ lw_g := lw_g_of 756 (by decide +kernel) rfl
theorem mL_X10_248 : Cond.methodLink RX10 248 yJ6_bitCount_0f7a4 ∈ lw_g := lw_g_of 760 (by decide +kernel) rfl
theorem mL_L_100 : Cond.methodLink RL 100 yX10_together ∈ lw_g := lw_g_of 766 (by decide +kernel) rfl
theorem mL_X10_255 : Cond.methodLink RX10 255 yX1_search ∈ lw_g := lw_g_of 770 (by decide +kernel) rfl
theorem mL_X1_66 : Cond.methodLink RX1 66 yX1_fill ∈ lw_g := lw_g_of 774 (by decide +kernel) rfl
theorem mL_X1_74 : Cond.methodLink RX1 74 yX8_copy ∈ lw_g := lw_g_of 778 (by decide +kernel) rfl
theorem mL_X1_82 : Cond.methodLink RX1 82 yX8_draw ∈ lw_g := lw_g_of 779 (by decide +kernel) rfl
theorem mL_X1_89 : Cond.methodLink RX1 89 yX7_isFrost ∈ lw_g := lw_g_of 780 (by decide +kernel) rfl
theorem mL_X1_93 : Cond.methodLink RX1 93 yX8_passMinute ∈ lw_g := lw_g_of 781 (by decide +kernel) rfl
theorem mL_X1_70 : Cond.methodLink RX1 70 yX1_tryFrom ∈ lw_g := lw_g_of 782 (by decide +kernel) rfl
theorem mL_X1_97 : Cond.methodLink RX1 97 yX1_judge ∈ lw_g := lw_g_of 786 (by decide +kernel) rfl
theorem mL_X1_108 : Cond.methodLink RX1 108 yJ9_min_7cf53 ∈ lw_g := lw_g_of 790 (by decide +kernel) rfl
theorem mL_X1_114 : Cond.methodLink RX1 114 yJ9_max_7cf53 ∈ lw_g := lw_g_of 791 (by decide +kernel) rfl
theorem mL_X1_120 : Cond.methodLink RX1 120 arraycopyName ∈ lw_g := lw_g_of 793 (by decide +kernel) rfl
theorem mL_X1_101 : Cond.methodLink RX1 101 yX1_addRow ∈ lw_g := lw_g_of 796 (by decide +kernel) rfl
theorem mL_L_104 : Cond.methodLink RL 104 yX10_pitch ∈ lw_g := lw_g_of 800 (by decide +kernel) rfl
theorem mL_L_108 : Cond.methodLink RL 108 yX10_seen ∈ lw_g := lw_g_of 804 (by decide +kernel) rfl
theorem mL_L_112 : Cond.methodLink RL 112 yX10_forget ∈ lw_g := lw_g_of 808 (by decide +kernel) rfl
theorem mL_L_116 : Cond.methodLink RL 116 yX10_worked ∈ lw_g := lw_g_of 812 (by decide +kernel) rfl
theorem mL_X10_264 : Cond.methodLink RX10 264 yX10_latestSeen ∈ lw_g := lw_g_of 816 (by decide +kernel) rfl
theorem mL_X10_267 : Cond.methodLink RX10 267 yX2_takeBegun ∈ lw_g := lw_g_of 820 (by decide +kernel) rfl
theorem mL_X2_60 : Cond.methodLink RX2 60 yX8_startAnew ∈ lw_g := lw_g_of 824 (by decide +kernel) rfl
theorem mL_X2_67 : Cond.methodLink RX2 67 yX8_draw ∈ lw_g := lw_g_of 825 (by decide +kernel) rfl
theorem mL_X10_270 : Cond.methodLink RX10 270 yX10_fitsSeen ∈ lw_g := lw_g_of 826 (by decide +kernel) rfl
theorem mL_L_120 : Cond.methodLink RL 120 yX10_leaves ∈ lw_g := lw_g_of 830 (by decide +kernel) rfl
theorem mL_X10_274 : Cond.methodLink RX10 274 yX10_power ∈ lw_g := lw_g_of 834 (by decide +kernel) rfl
theorem mL_X10_277 : Cond.methodLink RX10 277 yX10_commonDivisor ∈ lw_g := lw_g_of 837 (by decide +kernel) rfl
theorem mL_L_125 : Cond.methodLink RL 125 yX10_count ∈ lw_g := lw_g_of 840 (by decide +kernel) rfl
theorem mL_L_12 : Cond.methodLink RL 12 yX11_init ∈ lw_g := lw_g_of 846 (by decide +kernel) rfl
theorem mL_X11_1 : Cond.methodLink RX11 1 Lib.objectInit ∈ lw_g := lw_g_of 849 (by decide +kernel) rfl
theorem mL_X11_41 : Cond.methodLink RX11 41 yX11_asAtFirst ∈ lw_g := lw_g_of 850 (by decide +kernel) rfl
theorem mL_L_17 : Cond.methodLink RL 17 yX11_write ∈ lw_g := lw_g_of 914 (by decide +kernel) rfl
theorem mL_X11_49 : Cond.methodLink RX11 49 yX11_in ∈ lw_g := lw_g_of 919 (by decide +kernel) rfl
theorem mL_L_22 : Cond.methodLink RL 22 yX11_erase ∈ lw_g := lw_g_of 922 (by decide +kernel) rfl
theorem mL_L_26 : Cond.methodLink RL 26 yX11_fault ∈ lw_g := lw_g_of 926 (by decide +kernel) rfl
theorem mL_X11_121 : Cond.methodLink RX11 121 yX11_readText ∈ lw_g := lw_g_of 930 (by decide +kernel) rfl
theorem mL_X11_92 : Cond.methodLink RX11 92 yX11_nextToken ∈ lw_g := lw_g_of 934 (by decide +kernel) rfl
theorem mL_X11_61 : Cond.methodLink RX11 61 yX11_letterAt ∈ lw_g := lw_g_of 938 (by decide +kernel) rfl
theorem mL_X11_117 : Cond.methodLink RX11 117 yX11_readClause ∈ lw_g := lw_g_of 946 (by decide +kernel) rfl
theorem mL_X11_102 : Cond.methodLink RX11 102 yX11_verb ∈ lw_g := lw_g_of 950 (by decide +kernel) rfl
theorem mL_X11_84 : Cond.methodLink RX11 84 yX11_wordOf ∈ lw_g := lw_g_of 954 (by decide +kernel) rfl
theorem mL_X11_88 : Cond.methodLink RX11 88 yX11_spelt ∈ lw_g := lw_g_of 959 (by decide +kernel) rfl
theorem mL_X11_106 : Cond.methodLink RX11 106 yX11_readSister ∈ lw_g := lw_g_of 962 (by decide +kernel) rfl
theorem mL_X11_98 : Cond.methodLink RX11 98 yX11_number ∈ lw_g := lw_g_of 966 (by decide +kernel) rfl
theorem mL_X11_110 : Cond.methodLink RX11 110 yX11_takes ∈ lw_g := lw_g_of 970 (by decide +kernel) rfl
theorem mL_L_30 : Cond.methodLink RL 30 yX11_well ∈ lw_g := lw_g_of 974 (by decide +kernel) rfl
theorem mL_X11_124 : Cond.methodLink RX11 124 yX11_anew ∈ lw_g := lw_g_of 978 (by decide +kernel) rfl
theorem mL_L_35 : Cond.methodLink RL 35 yX11_sister ∈ lw_g := lw_g_of 982 (by decide +kernel) rfl
theorem mL_X11_139 : Cond.methodLink RX11 139 yX11_isSister ∈ lw_g := lw_g_of 986 (by decide +kernel) rfl
theorem mL_X11_133 : Cond.methodLink RX11 133 yX11_of ∈ lw_g := lw_g_of 990 (by decide +kernel) rfl
theorem mL_X11_142 : Cond.methodLink RX11 142 yX11_mossOf ∈ lw_g := lw_g_of 994 (by decide +kernel) rfl
theorem mL_L_39 : Cond.methodLink RL 39 yX11_as ∈ lw_g := lw_g_of 998 (by decide +kernel) rfl
theorem mL_X11_147 : Cond.methodLink RX11 147 yX11_walkOf ∈ lw_g := lw_g_of 1003 (by decide +kernel) rfl
theorem mL_L_43 : Cond.methodLink RL 43 yX11_sieveAs ∈ lw_g := lw_g_of 1007 (by decide +kernel) rfl
theorem mL_X11_136 : Cond.methodLink RX11 136 yX11_dripOf ∈ lw_g := lw_g_of 1012 (by decide +kernel) rfl
theorem mL_L_47 : Cond.methodLink RL 47 yX11_begin ∈ lw_g := lw_g_of 1016 (by decide +kernel) rfl
theorem mL_X11_162 : Cond.methodLink RX11 162 yX11_note ∈ lw_g := lw_g_of 1020 (by decide +kernel) rfl
theorem mL_X11_155 : Cond.methodLink RX11 155 yX11_draws ∈ lw_g := lw_g_of 1024 (by decide +kernel) rfl
theorem mL_L_51 : Cond.methodLink RL 51 yX11_rest ∈ lw_g := lw_g_of 1028 (by decide +kernel) rfl
theorem mL_X11_165 : Cond.methodLink RX11 165 yX11_restNow ∈ lw_g := lw_g_of 1032 (by decide +kernel) rfl
theorem mL_L_55 : Cond.methodLink RL 55 yX11_moss ∈ lw_g := lw_g_of 1036 (by decide +kernel) rfl
theorem mL_L_59 : Cond.methodLink RL 59 yX11_smear ∈ lw_g := lw_g_of 1040 (by decide +kernel) rfl
theorem mL_X11_170 : Cond.methodLink RX11 170 yX11_less ∈ lw_g := lw_g_of 1045 (by decide +kernel) rfl
theorem mL_L_63 : Cond.methodLink RL 63 yX11_go ∈ lw_g := lw_g_of 1048 (by decide +kernel) rfl
theorem mL_X11_175 : Cond.methodLink RX11 175 yX11_oneMinute ∈ lw_g := lw_g_of 1053 (by decide +kernel) rfl
theorem mL_X11_159 : Cond.methodLink RX11 159 yX11_step ∈ lw_g := lw_g_of 1057 (by decide +kernel) rfl
theorem mL_X11_152 : Cond.methodLink RX11 152 yX11_dripNow ∈ lw_g := lw_g_of 1061 (by decide +kernel) rfl
theorem mL_L_67 : Cond.methodLink RL 67 yX11_undo ∈ lw_g := lw_g_of 1065 (by decide +kernel) rfl
theorem mL_L_71 : Cond.methodLink RL 71 yX11_keep ∈ lw_g := lw_g_of 1069 (by decide +kernel) rfl
theorem mL_L_75 : Cond.methodLink RL 75 yX11_back ∈ lw_g := lw_g_of 1073 (by decide +kernel) rfl
theorem mL_L_79 : Cond.methodLink RL 79 yX11_level ∈ lw_g := lw_g_of 1077 (by decide +kernel) rfl
theorem mL_X11_181 : Cond.methodLink RX11 181 yX11_isFar ∈ lw_g := lw_g_of 1081 (by decide +kernel) rfl
theorem mL_X11_185 : Cond.methodLink RX11 185 yX11_putAside ∈ lw_g := lw_g_of 1084 (by decide +kernel) rfl
theorem mL_X11_188 : Cond.methodLink RX11 188 yX11_levelBehind ∈ lw_g := lw_g_of 1088 (by decide +kernel) rfl
theorem mL_X11_178 : Cond.methodLink RX11 178 yX11_takeBack ∈ lw_g := lw_g_of 1092 (by decide +kernel) rfl
theorem mL_L_83 : Cond.methodLink RL 83 yX11_highest ∈ lw_g := lw_g_of 1096 (by decide +kernel) rfl
theorem mL_X11_191 : Cond.methodLink RX11 191 yX11_highestOf ∈ lw_g := lw_g_of 1100 (by decide +kernel) rfl
theorem mL_L_87 : Cond.methodLink RL 87 yX11_full ∈ lw_g := lw_g_of 1104 (by decide +kernel) rfl
theorem mL_X11_194 : Cond.methodLink RX11 194 yX11_fullIn ∈ lw_g := lw_g_of 1108 (by decide +kernel) rfl
theorem mL_L_91 : Cond.methodLink RL 91 yX11_mossTo ∈ lw_g := lw_g_of 1112 (by decide +kernel) rfl
theorem mL_L_95 : Cond.methodLink RL 95 yX11_adds ∈ lw_g := lw_g_of 1116 (by decide +kernel) rfl
theorem mL_L_99 : Cond.methodLink RL 99 yX11_fewest ∈ lw_g := lw_g_of 1120 (by decide +kernel) rfl
theorem mL_X11_197 : Cond.methodLink RX11 197 yX11_working ∈ lw_g := lw_g_of 1124 (by decide +kernel) rfl
theorem mL_X11_200 : Cond.methodLink RX11 200 yX11_ones ∈ lw_g := lw_g_of 1128 (by decide +kernel) rfl
theorem mL_X11_203 : Cond.methodLink RX11 203 yX11_has ∈ lw_g := lw_g_of 1131 (by decide +kernel) rfl
theorem mL_L_103 : Cond.methodLink RL 103 yX11_together ∈ lw_g := lw_g_of 1134 (by decide +kernel) rfl
theorem mL_X11_208 : Cond.methodLink RX11 208 yX11_highestBy ∈ lw_g := lw_g_of 1139 (by decide +kernel) rfl
theorem mL_L_107 : Cond.methodLink RL 107 yX11_pitch ∈ lw_g := lw_g_of 1143 (by decide +kernel) rfl
theorem mL_L_111 : Cond.methodLink RL 111 yX11_seen ∈ lw_g := lw_g_of 1147 (by decide +kernel) rfl
theorem mL_L_115 : Cond.methodLink RL 115 yX11_forget ∈ lw_g := lw_g_of 1151 (by decide +kernel) rfl
theorem mL_L_119 : Cond.methodLink RL 119 yX11_worked ∈ lw_g := lw_g_of 1155 (by decide +kernel) rfl
theorem mL_X11_213 : Cond.methodLink RX11 213 yX11_isBy ∈ lw_g := lw_g_of 1160 (by decide +kernel) rfl
theorem mL_L_124 : Cond.methodLink RL 124 yX11_leaves ∈ lw_g := lw_g_of 1164 (by decide +kernel) rfl
theorem mL_L_128 : Cond.methodLink RL 128 yX11_count ∈ lw_g := lw_g_of 1170 (by decide +kernel) rfl
theorem mMax : Cond.static Lib.Math.max.name ∈ lw_g ∧ Cond.initialized "java/lang/Math" ∈ lw_g ∧ Cond.code Lib.Math.max.name Lib.Math.max.code 2 (some .int) ∈ lw_g := ⟨lw_g_of 603 (by decide +kernel) rfl, lw_g_of 65 (by decide +kernel) rfl, lw_g_of 604 (by decide +kernel) rfl⟩
theorem mMin : Cond.static Lib.Math.min.name ∈ lw_g ∧ Cond.initialized "java/lang/Math" ∈ lw_g ∧ Cond.code Lib.Math.min.name Lib.Math.min.code 2 (some .int) ∈ lw_g := ⟨lw_g_of 632 (by decide +kernel) rfl, lw_g_of 65 (by decide +kernel) rfl, lw_g_of 633 (by decide +kernel) rfl⟩
theorem mCpy : Cond.native arraycopyName ∈ lw_g ∧ Cond.static arraycopyName ∈ lw_g ∧ Cond.initialized "java/lang/System" ∈ lw_g := ⟨lw_g_of 795 (by decide +kernel) rfl, lw_g_of 794 (by decide +kernel) rfl, lw_g_of 67 (by decide +kernel) rfl⟩
theorem mObj : Cond.instanceMethod Lib.objectInit ∈ lw_g ∧ Cond.code Lib.objectInit ⟨#[0xb1]⟩ 1 none ∈ lw_g := ⟨lw_g_of 74 (by decide +kernel) rfl, lw_g_of 75 (by decide +kernel) rfl⟩
theorem kL_X11_53 : Cond.constantLong RX11 53 255 ∈ lw_g := lw_g_of 918 (by decide +kernel) rfl
theorem kL_X11_74 : Cond.constantLong RX11 74 97 ∈ lw_g := lw_g_of 942 (by decide +kernel) rfl
theorem kL_X11_76 : Cond.constantLong RX11 76 122 ∈ lw_g := lw_g_of 943 (by decide +kernel) rfl
theorem kL_X11_78 : Cond.constantLong RX11 78 48 ∈ lw_g := lw_g_of 944 (by decide +kernel) rfl
theorem kL_X11_80 : Cond.constantLong RX11 80 57 ∈ lw_g := lw_g_of 945 (by decide +kernel) rfl
theorem kL_X11_82 : Cond.constantLong RX11 82 27 ∈ lw_g := lw_g_of 958 (by decide +kernel) rfl
theorem kL_X11_145 : Cond.constantLong RX11 145 3 ∈ lw_g := lw_g_of 1002 (by decide +kernel) rfl
theorem kL_X11_150 : Cond.constantLong RX11 150 4 ∈ lw_g := lw_g_of 1011 (by decide +kernel) rfl
theorem kL_X11_168 : Cond.constantLong RX11 168 9 ∈ lw_g := lw_g_of 1044 (by decide +kernel) rfl
theorem kL_X11_173 : Cond.constantLong RX11 173 99 ∈ lw_g := lw_g_of 1052 (by decide +kernel) rfl
theorem kL_X11_206 : Cond.constantLong RX11 206 40 ∈ lw_g := lw_g_of 1138 (by decide +kernel) rfl
theorem kL_X11_211 : Cond.constantLong RX11 211 2 ∈ lw_g := lw_g_of 1159 (by decide +kernel) rfl
theorem kL_X11_216 : Cond.constantLong RX11 216 6 ∈ lw_g := lw_g_of 1168 (by decide +kernel) rfl
theorem kL_X11_218 : Cond.constantLong RX11 218 10 ∈ lw_g := lw_g_of 1169 (by decide +kernel) rfl
theorem kI_J6_265 : Cond.constant RJ6 265 1431655765 ∈ lw_g := lw_g_of 763 (by decide +kernel) rfl
theorem kI_J6_266 : Cond.constant RJ6 266 858993459 ∈ lw_g := lw_g_of 764 (by decide +kernel) rfl
theorem kI_J6_267 : Cond.constant RJ6 267 252645135 ∈ lw_g := lw_g_of 765 (by decide +kernel) rfl
theorem cK_L_7 : Cond.classLink RL 7 "SieveTub" ∈ lw_g := lw_g_of 68 (by decide +kernel) rfl
theorem cK_X10_7 : Cond.classLink RX10 7 "SieveTub$Told" ∈ lw_g := lw_g_of 76 (by decide +kernel) rfl
theorem cK_X7_9 : Cond.classLink RX7 9 "SieveTub$Sister" ∈ lw_g := lw_g_of 82 (by decide +kernel) rfl
theorem cK_X10_16 : Cond.classLink RX10 16 "SieveTub$Letters" ∈ lw_g := lw_g_of 161 (by decide +kernel) rfl
theorem cK_X10_23 : Cond.classLink RX10 23 "SieveTub$Clauses" ∈ lw_g := lw_g_of 187 (by decide +kernel) rfl
theorem cK_X9_47 : Cond.classLink RX9 47 "[LSieveTub$Word;" ∈ lw_g := lw_g_of 205 (by decide +kernel) rfl
theorem cK_X10_30 : Cond.classLink RX10 30 "SieveTub$Scene" ∈ lw_g := lw_g_of 233 (by decide +kernel) rfl
theorem cK_X5_9 : Cond.classLink RX5 9 "SieveTub$Walker" ∈ lw_g := lw_g_of 239 (by decide +kernel) rfl
theorem cK_X10_37 : Cond.classLink RX10 37 "SieveTub$Past" ∈ lw_g := lw_g_of 301 (by decide +kernel) rfl
theorem cK_X4_9 : Cond.classLink RX4 9 "SieveTub$Scene" ∈ lw_g := lw_g_of 307 (by decide +kernel) rfl
theorem cK_X10_52 : Cond.classLink RX10 52 "SieveTub$Forecast" ∈ lw_g := lw_g_of 321 (by decide +kernel) rfl
theorem cK_X2_15 : Cond.classLink RX2 15 "[[I" ∈ lw_g := lw_g_of 327 (by decide +kernel) rfl
theorem cK_X2_20 : Cond.classLink RX2 20 "SieveTub$Walker" ∈ lw_g := lw_g_of 329 (by decide +kernel) rfl
theorem cK_X10_61 : Cond.classLink RX10 61 "SieveTub$Delays" ∈ lw_g := lw_g_of 358 (by decide +kernel) rfl
theorem cK_X1_15 : Cond.classLink RX1 15 "[[I" ∈ lw_g := lw_g_of 364 (by decide +kernel) rfl
theorem cK_X1_27 : Cond.classLink RX1 27 "SieveTub$Walker" ∈ lw_g := lw_g_of 365 (by decide +kernel) rfl
theorem cK_L_10 : Cond.classLink RL 10 "SieveTubModel" ∈ lw_g := lw_g_of 844 (by decide +kernel) rfl
theorem wF_X6_9 : Cond.fieldLink RX6 9 (TX6 0).1 (TX6 0).2.1 (TX6 0).2.2.1 ∈ lw_g := lw_g_of 89 (by decide +kernel) rfl
theorem gf_X6_9 {κ : Nat → Nat} {N d : Nat} {mi : gMI} {pc : Nat} {lv : List (Nat × Value)} {sk : List Value} {μ : gMem} {Q : rQ} {a : Nat} (hm : mi.1 = RX6) (hd : decode mi.2.1 pc = .ok (.getfield 9, 3)) (ha : a < N) (hk : kd a = 6) (k : RR κ N d mi (pc + 3) lv (.int (μ a 0) :: sk) μ Q) : RR κ N d mi pc lv (.ref (κ 0 + a) :: sk) μ Q := r_getI 0 gC6 (by decide) (fun _ => rfl) (by rw [hm]; exact wF_X6_9) hd ha hk k
theorem pf_X6_9 {κ : Nat → Nat} {N d : Nat} {mi : gMI} {pc : Nat} {lv : List (Nat × Value)} {sk : List Value} {μ : gMem} {Q : rQ} {a : Nat} {v : Int32} (hm : mi.1 = RX6) (hd : decode mi.2.1 pc = .ok (.putfield 9, 3)) (ha : a < N) (hk : kd a = 6) (k : ∀ m : gMem, m = st μ a 0 v → RR κ N d mi (pc + 3) lv sk m Q) : RR κ N d mi pc lv (.int v :: .ref (κ 0 + a) :: sk) μ Q := r_putI 0 gC6 (by decide) (fun _ => rfl) ⟨rfl, rfl⟩ (by rw [hm]; exact wF_X6_9) hd ha hk k
theorem wF_X7_51 : Cond.fieldLink RX7 51 (TX6 0).1 (TX6 0).2.1 (TX6 0).2.2.1 ∈ lw_g := lw_g_of 90 (by decide +kernel) rfl
theorem gf_X7_51 {κ : Nat → Nat} {N d : Nat} {mi : gMI} {pc : Nat} {lv : List (Nat × Value)} {sk : List Value} {μ : gMem} {Q : rQ} {a : Nat} (hm : mi.1 = RX7) (hd : decode mi.2.1 pc = .ok (.getfield 51, 3)) (ha : a < N) (hk : kd a = 6) (k : RR κ N d mi (pc + 3) lv (.int (μ a 0) :: sk) μ Q) : RR κ N d mi pc lv (.ref (κ 0 + a) :: sk) μ Q := r_getI 0 gC6 (by decide) (fun _ => rfl) (by rw [hm]; exact wF_X7_51) hd ha hk k
theorem pf_X7_51 {κ : Nat → Nat} {N d : Nat} {mi : gMI} {pc : Nat} {lv : List (Nat × Value)} {sk : List Value} {μ : gMem} {Q : rQ} {a : Nat} {v : Int32} (hm : mi.1 = RX7) (hd : decode mi.2.1 pc = .ok (.putfield 51, 3)) (ha : a < N) (hk : kd a = 6) (k : ∀ m : gMem, m = st μ a 0 v → RR κ N d mi (pc + 3) lv sk m Q) : RR κ N d mi pc lv (.int v :: .ref (κ 0 + a) :: sk) μ Q := r_putI 0 gC6 (by decide) (fun _ => rfl) ⟨rfl, rfl⟩ (by rw [hm]; exact wF_X7_51) hd ha hk k
theorem wF_X10_131 : Cond.fieldLink RX10 131 (TX6 0).1 (TX6 0).2.1 (TX6 0).2.2.1 ∈ lw_g := lw_g_of 91 (by decide +kernel) rfl
theorem gf_X10_131 {κ : Nat → Nat} {N d : Nat} {mi : gMI} {pc : Nat} {lv : List (Nat × Value)} {sk : List Value} {μ : gMem} {Q : rQ} {a : Nat} (hm : mi.1 = RX10) (hd : decode mi.2.1 pc = .ok (.getfield 131, 3)) (ha : a < N) (hk : kd a = 6) (k : RR κ N d mi (pc + 3) lv (.int (μ a 0) :: sk) μ Q) : RR κ N d mi pc lv (.ref (κ 0 + a) :: sk) μ Q := r_getI 0 gC6 (by decide) (fun _ => rfl) (by rw [hm]; exact wF_X10_131) hd ha hk k
theorem pf_X10_131 {κ : Nat → Nat} {N d : Nat} {mi : gMI} {pc : Nat} {lv : List (Nat × Value)} {sk : List Value} {μ : gMem} {Q : rQ} {a : Nat} {v : Int32} (hm : mi.1 = RX10) (hd : decode mi.2.1 pc = .ok (.putfield 131, 3)) (ha : a < N) (hk : kd a = 6) (k : ∀ m : gMem, m = st μ a 0 v → RR κ N d mi (pc + 3) lv sk m Q) : RR κ N d mi pc lv (.int v :: .ref (κ 0 + a) :: sk) μ Q := r_putI 0 gC6 (by decide) (fun _ => rfl) ⟨rfl, rfl⟩ (by rw [hm]; exact wF_X10_131) hd ha hk k
theorem wF_X6_15 : Cond.fieldLink RX6 15 (TX6 1).1 (TX6 1).2.1 (TX6 1).2.2.1 ∈ lw_g := lw_g_of 92 (by decide +kernel) rfl
theorem gf_X6_15 {κ : Nat → Nat} {N d : Nat} {mi : gMI} {pc : Nat} {lv : List (Nat × Value)} {sk : List Value} {μ : gMem} {Q : rQ} {a : Nat} (hm : mi.1 = RX6) (hd : decode mi.2.1 pc = .ok (.getfield 15, 3)) (ha : a < N) (hk : kd a = 6) (k : RR κ N d mi (pc + 3) lv (.int (μ a 1) :: sk) μ Q) : RR κ N d mi pc lv (.ref (κ 0 + a) :: sk) μ Q := r_getI 1 gC6 (by decide) (fun _ => rfl) (by rw [hm]; exact wF_X6_15) hd ha hk k
theorem pf_X6_15 {κ : Nat → Nat} {N d : Nat} {mi : gMI} {pc : Nat} {lv : List (Nat × Value)} {sk : List Value} {μ : gMem} {Q : rQ} {a : Nat} {v : Int32} (hm : mi.1 = RX6) (hd : decode mi.2.1 pc = .ok (.putfield 15, 3)) (ha : a < N) (hk : kd a = 6) (k : ∀ m : gMem, m = st μ a 1 v → RR κ N d mi (pc + 3) lv sk m Q) : RR κ N d mi pc lv (.int v :: .ref (κ 0 + a) :: sk) μ Q := r_putI 1 gC6 (by decide) (fun _ => rfl) ⟨rfl, rfl⟩ (by rw [hm]; exact wF_X6_15) hd ha hk k
theorem wF_X7_54 : Cond.fieldLink RX7 54 (TX6 1).1 (TX6 1).2.1 (TX6 1).2.2.1 ∈ lw_g := lw_g_of 93 (by decide +kernel) rfl
theorem gf_X7_54 {κ : Nat → Nat} {N d : Nat} {mi : gMI} {pc : Nat} {lv : List (Nat × Value)} {sk : List Value} {μ : gMem} {Q : rQ} {a : Nat} (hm : mi.1 = RX7) (hd : decode mi.2.1 pc = .ok (.getfield 54, 3)) (ha : a < N) (hk : kd a = 6) (k : RR κ N d mi (pc + 3) lv (.int (μ a 1) :: sk) μ Q) : RR κ N d mi pc lv (.ref (κ 0 + a) :: sk) μ Q := r_getI 1 gC6 (by decide) (fun _ => rfl) (by rw [hm]; exact wF_X7_54) hd ha hk k
theorem pf_X7_54 {κ : Nat → Nat} {N d : Nat} {mi : gMI} {pc : Nat} {lv : List (Nat × Value)} {sk : List Value} {μ : gMem} {Q : rQ} {a : Nat} {v : Int32} (hm : mi.1 = RX7) (hd : decode mi.2.1 pc = .ok (.putfield 54, 3)) (ha : a < N) (hk : kd a = 6) (k : ∀ m : gMem, m = st μ a 1 v → RR κ N d mi (pc + 3) lv sk m Q) : RR κ N d mi pc lv (.int v :: .ref (κ 0 + a) :: sk) μ Q := r_putI 1 gC6 (by decide) (fun _ => rfl) ⟨rfl, rfl⟩ (by rw [hm]; exact wF_X7_54) hd ha hk k
theorem wF_X10_136 : Cond.fieldLink RX10 136 (TX6 1).1 (TX6 1).2.1 (TX6 1).2.2.1 ∈ lw_g := lw_g_of 94 (by decide +kernel) rfl
theorem gf_X10_136 {κ : Nat → Nat} {N d : Nat} {mi : gMI} {pc : Nat} {lv : List (Nat × Value)} {sk : List Value} {μ : gMem} {Q : rQ} {a : Nat} (hm : mi.1 = RX10) (hd : decode mi.2.1 pc = .ok (.getfield 136, 3)) (ha : a < N) (hk : kd a = 6) (k : RR κ N d mi (pc + 3) lv (.int (μ a 1) :: sk) μ Q) : RR κ N d mi pc lv (.ref (κ 0 + a) :: sk) μ Q := r_getI 1 gC6 (by decide) (fun _ => rfl) (by rw [hm]; exact wF_X10_136) hd ha hk k
theorem pf_X10_136 {κ : Nat → Nat} {N d : Nat} {mi : gMI} {pc : Nat} {lv : List (Nat × Value)} {sk : List Value} {μ : gMem} {Q : rQ} {a : Nat} {v : Int32} (hm : mi.1 = RX10) (hd : decode mi.2.1 pc = .ok (.putfield 136, 3)) (ha : a < N) (hk : kd a = 6) (k : ∀ m : gMem, m = st μ a 1 v → RR κ N d mi (pc + 3) lv sk m Q) : RR κ N d mi pc lv (.int v :: .ref (κ 0 + a) :: sk) μ Q := r_putI 1 gC6 (by decide) (fun _ => rfl) ⟨rfl, rfl⟩ (by rw [hm]; exact wF_X10_136) hd ha hk k
theorem wF_X8_36 : Cond.fieldLink RX8 36 (TX6 2).1 (TX6 2).2.1 (TX6 2).2.2.1 ∈ lw_g := lw_g_of 95 (by decide +kernel) rfl
theorem gf_X8_36 {κ : Nat → Nat} {N d : Nat} {mi : gMI} {pc : Nat} {lv : List (Nat × Value)} {sk : List Value} {μ : gMem} {Q : rQ} {a : Nat} (hm : mi.1 = RX8) (hd : decode mi.2.1 pc = .ok (.getfield 36, 3)) (ha : a < N) (hk : kd a = 6) (k : RR κ N d mi (pc + 3) lv (.int (μ a 2) :: sk) μ Q) : RR κ N d mi pc lv (.ref (κ 0 + a) :: sk) μ Q := r_getI 2 gC6 (by decide) (fun _ => rfl) (by rw [hm]; exact wF_X8_36) hd ha hk k
theorem pf_X8_36 {κ : Nat → Nat} {N d : Nat} {mi : gMI} {pc : Nat} {lv : List (Nat × Value)} {sk : List Value} {μ : gMem} {Q : rQ} {a : Nat} {v : Int32} (hm : mi.1 = RX8) (hd : decode mi.2.1 pc = .ok (.putfield 36, 3)) (ha : a < N) (hk : kd a = 6) (k : ∀ m : gMem, m = st μ a 2 v → RR κ N d mi (pc + 3) lv sk m Q) : RR κ N d mi pc lv (.int v :: .ref (κ 0 + a) :: sk) μ Q := r_putI 2 gC6 (by decide) (fun _ => rfl) ⟨rfl, rfl⟩ (by rw [hm]; exact wF_X8_36) hd ha hk k
theorem wF_X7_57 : Cond.fieldLink RX7 57 (TX6 2).1 (TX6 2).2.1 (TX6 2).2.2.1 ∈ lw_g := lw_g_of 96 (by decide +kernel) rfl
theorem gf_X7_57 {κ : Nat → Nat} {N d : Nat} {mi : gMI} {pc : Nat} {lv : List (Nat × Value)} {sk : List Value} {μ : gMem} {Q : rQ} {a : Nat} (hm : mi.1 = RX7) (hd : decode mi.2.1 pc = .ok (.getfield 57, 3)) (ha : a < N) (hk : kd a = 6) (k : RR κ N d mi (pc + 3) lv (.int (μ a 2) :: sk) μ Q) : RR κ N d mi pc lv (.ref (κ 0 + a) :: sk) μ Q := r_getI 2 gC6 (by decide) (fun _ => rfl) (by rw [hm]; exact wF_X7_57) hd ha hk k
theorem pf_X7_57 {κ : Nat → Nat} {N d : Nat} {mi : gMI} {pc : Nat} {lv : List (Nat × Value)} {sk : List Value} {μ : gMem} {Q : rQ} {a : Nat} {v : Int32} (hm : mi.1 = RX7) (hd : decode mi.2.1 pc = .ok (.putfield 57, 3)) (ha : a < N) (hk : kd a = 6) (k : ∀ m : gMem, m = st μ a 2 v → RR κ N d mi (pc + 3) lv sk m Q) : RR κ N d mi pc lv (.int v :: .ref (κ 0 + a) :: sk) μ Q := r_putI 2 gC6 (by decide) (fun _ => rfl) ⟨rfl, rfl⟩ (by rw [hm]; exact wF_X7_57) hd ha hk k
theorem wF_X10_139 : Cond.fieldLink RX10 139 (TX6 2).1 (TX6 2).2.1 (TX6 2).2.2.1 ∈ lw_g := lw_g_of 97 (by decide +kernel) rfl
theorem gf_X10_139 {κ : Nat → Nat} {N d : Nat} {mi : gMI} {pc : Nat} {lv : List (Nat × Value)} {sk : List Value} {μ : gMem} {Q : rQ} {a : Nat} (hm : mi.1 = RX10) (hd : decode mi.2.1 pc = .ok (.getfield 139, 3)) (ha : a < N) (hk : kd a = 6) (k : RR κ N d mi (pc + 3) lv (.int (μ a 2) :: sk) μ Q) : RR κ N d mi pc lv (.ref (κ 0 + a) :: sk) μ Q := r_getI 2 gC6 (by decide) (fun _ => rfl) (by rw [hm]; exact wF_X10_139) hd ha hk k
theorem pf_X10_139 {κ : Nat → Nat} {N d : Nat} {mi : gMI} {pc : Nat} {lv : List (Nat × Value)} {sk : List Value} {μ : gMem} {Q : rQ} {a : Nat} {v : Int32} (hm : mi.1 = RX10) (hd : decode mi.2.1 pc = .ok (.putfield 139, 3)) (ha : a < N) (hk : kd a = 6) (k : ∀ m : gMem, m = st μ a 2 v → RR κ N d mi (pc + 3) lv sk m Q) : RR κ N d mi pc lv (.int v :: .ref (κ 0 + a) :: sk) μ Q := r_putI 2 gC6 (by decide) (fun _ => rfl) ⟨rfl, rfl⟩ (by rw [hm]; exact wF_X10_139) hd ha hk k
theorem wF_X6_28 : Cond.fieldLink RX6 28 (TX6 3).1 (TX6 3).2.1 (TX6 3).2.2.1 ∈ lw_g := lw_g_of 98 (by decide +kernel) rfl
theorem gf_X6_28 {κ : Nat → Nat} {N d : Nat} {mi : gMI} {pc : Nat} {lv : List (Nat × Value)} {sk : List Value} {μ : gMem} {Q : rQ} {a : Nat} (hm : mi.1 = RX6) (hd : decode mi.2.1 pc = .ok (.getfield 28, 3)) (ha : a < N) (hk : kd a = 6) (k : RR κ N d mi (pc + 3) lv (.int (μ a 3) :: sk) μ Q) : RR κ N d mi pc lv (.ref (κ 0 + a) :: sk) μ Q := r_getI 3 gC6 (by decide) (fun _ => rfl) (by rw [hm]; exact wF_X6_28) hd ha hk k
theorem pf_X6_28 {κ : Nat → Nat} {N d : Nat} {mi : gMI} {pc : Nat} {lv : List (Nat × Value)} {sk : List Value} {μ : gMem} {Q : rQ} {a : Nat} {v : Int32} (hm : mi.1 = RX6) (hd : decode mi.2.1 pc = .ok (.putfield 28, 3)) (ha : a < N) (hk : kd a = 6) (k : ∀ m : gMem, m = st μ a 3 v → RR κ N d mi (pc + 3) lv sk m Q) : RR κ N d mi pc lv (.int v :: .ref (κ 0 + a) :: sk) μ Q := r_putI 3 gC6 (by decide) (fun _ => rfl) ⟨rfl, rfl⟩ (by rw [hm]; exact wF_X6_28) hd ha hk k
theorem wF_X7_60 : Cond.fieldLink RX7 60 (TX6 3).1 (TX6 3).2.1 (TX6 3).2.2.1 ∈ lw_g := lw_g_of 99 (by decide +kernel) rfl
theorem gf_X7_60 {κ : Nat → Nat} {N d : Nat} {mi : gMI} {pc : Nat} {lv : List (Nat × Value)} {sk : List Value} {μ : gMem} {Q : rQ} {a : Nat} (hm : mi.1 = RX7) (hd : decode mi.2.1 pc = .ok (.getfield 60, 3)) (ha : a < N) (hk : kd a = 6) (k : RR κ N d mi (pc + 3) lv (.int (μ a 3) :: sk) μ Q) : RR κ N d mi pc lv (.ref (κ 0 + a) :: sk) μ Q := r_getI 3 gC6 (by decide) (fun _ => rfl) (by rw [hm]; exact wF_X7_60) hd ha hk k
theorem pf_X7_60 {κ : Nat → Nat} {N d : Nat} {mi : gMI} {pc : Nat} {lv : List (Nat × Value)} {sk : List Value} {μ : gMem} {Q : rQ} {a : Nat} {v : Int32} (hm : mi.1 = RX7) (hd : decode mi.2.1 pc = .ok (.putfield 60, 3)) (ha : a < N) (hk : kd a = 6) (k : ∀ m : gMem, m = st μ a 3 v → RR κ N d mi (pc + 3) lv sk m Q) : RR κ N d mi pc lv (.int v :: .ref (κ 0 + a) :: sk) μ Q := r_putI 3 gC6 (by decide) (fun _ => rfl) ⟨rfl, rfl⟩ (by rw [hm]; exact wF_X7_60) hd ha hk k
theorem wF_X10_142 : Cond.fieldLink RX10 142 (TX6 3).1 (TX6 3).2.1 (TX6 3).2.2.1 ∈ lw_g := lw_g_of 100 (by decide +kernel) rfl
theorem gf_X10_142 {κ : Nat → Nat} {N d : Nat} {mi : gMI} {pc : Nat} {lv : List (Nat × Value)} {sk : List Value} {μ : gMem} {Q : rQ} {a : Nat} (hm : mi.1 = RX10) (hd : decode mi.2.1 pc = .ok (.getfield 142, 3)) (ha : a < N) (hk : kd a = 6) (k : RR κ N d mi (pc + 3) lv (.int (μ a 3) :: sk) μ Q) : RR κ N d mi pc lv (.ref (κ 0 + a) :: sk) μ Q := r_getI 3 gC6 (by decide) (fun _ => rfl) (by rw [hm]; exact wF_X10_142) hd ha hk k
theorem pf_X10_142 {κ : Nat → Nat} {N d : Nat} {mi : gMI} {pc : Nat} {lv : List (Nat × Value)} {sk : List Value} {μ : gMem} {Q : rQ} {a : Nat} {v : Int32} (hm : mi.1 = RX10) (hd : decode mi.2.1 pc = .ok (.putfield 142, 3)) (ha : a < N) (hk : kd a = 6) (k : ∀ m : gMem, m = st μ a 3 v → RR κ N d mi (pc + 3) lv sk m Q) : RR κ N d mi pc lv (.int v :: .ref (κ 0 + a) :: sk) μ Q := r_putI 3 gC6 (by decide) (fun _ => rfl) ⟨rfl, rfl⟩ (by rw [hm]; exact wF_X10_142) hd ha hk k
theorem wF_X6_31 : Cond.fieldLink RX6 31 (TX6 4).1 (TX6 4).2.1 (TX6 4).2.2.1 ∈ lw_g := lw_g_of 101 (by decide +kernel) rfl
theorem gf_X6_31 {κ : Nat → Nat} {N d : Nat} {mi : gMI} {pc : Nat} {lv : List (Nat × Value)} {sk : List Value} {μ : gMem} {Q : rQ} {a : Nat} (hm : mi.1 = RX6) (hd : decode mi.2.1 pc = .ok (.getfield 31, 3)) (ha : a < N) (hk : kd a = 6) (k : RR κ N d mi (pc + 3) lv (.int (μ a 4) :: sk) μ Q) : RR κ N d mi pc lv (.ref (κ 0 + a) :: sk) μ Q := r_getI 4 gC6 (by decide) (fun _ => rfl) (by rw [hm]; exact wF_X6_31) hd ha hk k
theorem pf_X6_31 {κ : Nat → Nat} {N d : Nat} {mi : gMI} {pc : Nat} {lv : List (Nat × Value)} {sk : List Value} {μ : gMem} {Q : rQ} {a : Nat} {v : Int32} (hm : mi.1 = RX6) (hd : decode mi.2.1 pc = .ok (.putfield 31, 3)) (ha : a < N) (hk : kd a = 6) (k : ∀ m : gMem, m = st μ a 4 v → RR κ N d mi (pc + 3) lv sk m Q) : RR κ N d mi pc lv (.int v :: .ref (κ 0 + a) :: sk) μ Q := r_putI 4 gC6 (by decide) (fun _ => rfl) ⟨rfl, rfl⟩ (by rw [hm]; exact wF_X6_31) hd ha hk k
theorem wF_X7_61 : Cond.fieldLink RX7 61 (TX6 4).1 (TX6 4).2.1 (TX6 4).2.2.1 ∈ lw_g := lw_g_of 102 (by decide +kernel) rfl
theorem gf_X7_61 {κ : Nat → Nat} {N d : Nat} {mi : gMI} {pc : Nat} {lv : List (Nat × Value)} {sk : List Value} {μ : gMem} {Q : rQ} {a : Nat} (hm : mi.1 = RX7) (hd : decode mi.2.1 pc = .ok (.getfield 61, 3)) (ha : a < N) (hk : kd a = 6) (k : RR κ N d mi (pc + 3) lv (.int (μ a 4) :: sk) μ Q) : RR κ N d mi pc lv (.ref (κ 0 + a) :: sk) μ Q := r_getI 4 gC6 (by decide) (fun _ => rfl) (by rw [hm]; exact wF_X7_61) hd ha hk k
theorem pf_X7_61 {κ : Nat → Nat} {N d : Nat} {mi : gMI} {pc : Nat} {lv : List (Nat × Value)} {sk : List Value} {μ : gMem} {Q : rQ} {a : Nat} {v : Int32} (hm : mi.1 = RX7) (hd : decode mi.2.1 pc = .ok (.putfield 61, 3)) (ha : a < N) (hk : kd a = 6) (k : ∀ m : gMem, m = st μ a 4 v → RR κ N d mi (pc + 3) lv sk m Q) : RR κ N d mi pc lv (.int v :: .ref (κ 0 + a) :: sk) μ Q := r_putI 4 gC6 (by decide) (fun _ => rfl) ⟨rfl, rfl⟩ (by rw [hm]; exact wF_X7_61) hd ha hk k
theorem wF_X10_145 : Cond.fieldLink RX10 145 (TX6 4).1 (TX6 4).2.1 (TX6 4).2.2.1 ∈ lw_g := lw_g_of 103 (by decide +kernel) rfl
theorem gf_X10_145 {κ : Nat → Nat} {N d : Nat} {mi : gMI} {pc : Nat} {lv : List (Nat × Value)} {sk : List Value} {μ : gMem} {Q : rQ} {a : Nat} (hm : mi.1 = RX10) (hd : decode mi.2.1 pc = .ok (.getfield 145, 3)) (ha : a < N) (hk : kd a = 6) (k : RR κ N d mi (pc + 3) lv (.int (μ a 4) :: sk) μ Q) : RR κ N d mi pc lv (.ref (κ 0 + a) :: sk) μ Q := r_getI 4 gC6 (by decide) (fun _ => rfl) (by rw [hm]; exact wF_X10_145) hd ha hk k
theorem pf_X10_145 {κ : Nat → Nat} {N d : Nat} {mi : gMI} {pc : Nat} {lv : List (Nat × Value)} {sk : List Value} {μ : gMem} {Q : rQ} {a : Nat} {v : Int32} (hm : mi.1 = RX10) (hd : decode mi.2.1 pc = .ok (.putfield 145, 3)) (ha : a < N) (hk : kd a = 6) (k : ∀ m : gMem, m = st μ a 4 v → RR κ N d mi (pc + 3) lv sk m Q) : RR κ N d mi pc lv (.int v :: .ref (κ 0 + a) :: sk) μ Q := r_putI 4 gC6 (by decide) (fun _ => rfl) ⟨rfl, rfl⟩ (by rw [hm]; exact wF_X10_145) hd ha hk k
theorem wF_X7_11 : Cond.fieldLink RX7 11 (TX7 0).1 (TX7 0).2.1 (TX7 0).2.2.1 ∈ lw_g := lw_g_of 123 (by decide +kernel) rfl
theorem gf_X7_11 {κ : Nat → Nat} {N d : Nat} {mi : gMI} {pc : Nat} {lv : List (Nat × Value)} {sk : List Value} {μ : gMem} {Q : rQ} {a : Nat} (hm : mi.1 = RX7) (hd : decode mi.2.1 pc = .ok (.getfield 11, 3)) (ha : a < N) (hk : kd a = 7) (k : RR κ N d mi (pc + 3) lv (.ref (κ 0 + 2) :: sk) μ Q) : RR κ N d mi pc lv (.ref (κ 0 + a) :: sk) μ Q := r_getR 0 2 gC7 (by decide) rfl (by rw [hm]; exact wF_X7_11) hd ha hk k
theorem wF_X1_78 : Cond.fieldLink RX1 78 (TX7 0).1 (TX7 0).2.1 (TX7 0).2.2.1 ∈ lw_g := lw_g_of 124 (by decide +kernel) rfl
theorem gf_X1_78 {κ : Nat → Nat} {N d : Nat} {mi : gMI} {pc : Nat} {lv : List (Nat × Value)} {sk : List Value} {μ : gMem} {Q : rQ} {a : Nat} (hm : mi.1 = RX1) (hd : decode mi.2.1 pc = .ok (.getfield 78, 3)) (ha : a < N) (hk : kd a = 7) (k : RR κ N d mi (pc + 3) lv (.ref (κ 0 + 2) :: sk) μ Q) : RR κ N d mi pc lv (.ref (κ 0 + a) :: sk) μ Q := r_getR 0 2 gC7 (by decide) rfl (by rw [hm]; exact wF_X1_78) hd ha hk k
theorem wF_X2_63 : Cond.fieldLink RX2 63 (TX7 0).1 (TX7 0).2.1 (TX7 0).2.2.1 ∈ lw_g := lw_g_of 125 (by decide +kernel) rfl
theorem gf_X2_63 {κ : Nat → Nat} {N d : Nat} {mi : gMI} {pc : Nat} {lv : List (Nat × Value)} {sk : List Value} {μ : gMem} {Q : rQ} {a : Nat} (hm : mi.1 = RX2) (hd : decode mi.2.1 pc = .ok (.getfield 63, 3)) (ha : a < N) (hk : kd a = 7) (k : RR κ N d mi (pc + 3) lv (.ref (κ 0 + 2) :: sk) μ Q) : RR κ N d mi pc lv (.ref (κ 0 + a) :: sk) μ Q := r_getR 0 2 gC7 (by decide) rfl (by rw [hm]; exact wF_X2_63) hd ha hk k
theorem wF_X5_50 : Cond.fieldLink RX5 50 (TX7 0).1 (TX7 0).2.1 (TX7 0).2.2.1 ∈ lw_g := lw_g_of 126 (by decide +kernel) rfl
theorem gf_X5_50 {κ : Nat → Nat} {N d : Nat} {mi : gMI} {pc : Nat} {lv : List (Nat × Value)} {sk : List Value} {μ : gMem} {Q : rQ} {a : Nat} (hm : mi.1 = RX5) (hd : decode mi.2.1 pc = .ok (.getfield 50, 3)) (ha : a < N) (hk : kd a = 7) (k : RR κ N d mi (pc + 3) lv (.ref (κ 0 + 2) :: sk) μ Q) : RR κ N d mi pc lv (.ref (κ 0 + a) :: sk) μ Q := r_getR 0 2 gC7 (by decide) rfl (by rw [hm]; exact wF_X5_50) hd ha hk k
theorem wF_X10_127 : Cond.fieldLink RX10 127 (TX7 0).1 (TX7 0).2.1 (TX7 0).2.2.1 ∈ lw_g := lw_g_of 127 (by decide +kernel) rfl
theorem gf_X10_127 {κ : Nat → Nat} {N d : Nat} {mi : gMI} {pc : Nat} {lv : List (Nat × Value)} {sk : List Value} {μ : gMem} {Q : rQ} {a : Nat} (hm : mi.1 = RX10) (hd : decode mi.2.1 pc = .ok (.getfield 127, 3)) (ha : a < N) (hk : kd a = 7) (k : RR κ N d mi (pc + 3) lv (.ref (κ 0 + 2) :: sk) μ Q) : RR κ N d mi pc lv (.ref (κ 0 + a) :: sk) μ Q := r_getR 0 2 gC7 (by decide) rfl (by rw [hm]; exact wF_X10_127) hd ha hk k
theorem wF_X7_21 : Cond.fieldLink RX7 21 (TX7 1).1 (TX7 1).2.1 (TX7 1).2.2.1 ∈ lw_g := lw_g_of 128 (by decide +kernel) rfl
theorem gf_X7_21 {κ : Nat → Nat} {N d : Nat} {mi : gMI} {pc : Nat} {lv : List (Nat × Value)} {sk : List Value} {μ : gMem} {Q : rQ} {a : Nat} (hm : mi.1 = RX7) (hd : decode mi.2.1 pc = .ok (.getfield 21, 3)) (ha : a < N) (hk : kd a = 7) (k : RR κ N d mi (pc + 3) lv (.int (μ a 1) :: sk) μ Q) : RR κ N d mi pc lv (.ref (κ 0 + a) :: sk) μ Q := r_getI 1 gC7 (by decide) (fun _ => rfl) (by rw [hm]; exact wF_X7_21) hd ha hk k
theorem pf_X7_21 {κ : Nat → Nat} {N d : Nat} {mi : gMI} {pc : Nat} {lv : List (Nat × Value)} {sk : List Value} {μ : gMem} {Q : rQ} {a : Nat} {v : Int32} (hm : mi.1 = RX7) (hd : decode mi.2.1 pc = .ok (.putfield 21, 3)) (ha : a < N) (hk : kd a = 7) (k : ∀ m : gMem, m = st μ a 1 v → RR κ N d mi (pc + 3) lv sk m Q) : RR κ N d mi pc lv (.int v :: .ref (κ 0 + a) :: sk) μ Q := r_putI 1 gC7 (by decide) (fun _ => rfl) ⟨rfl, rfl⟩ (by rw [hm]; exact wF_X7_21) hd ha hk k
theorem wF_X2_31 : Cond.fieldLink RX2 31 (TX7 1).1 (TX7 1).2.1 (TX7 1).2.2.1 ∈ lw_g := lw_g_of 129 (by decide +kernel) rfl
theorem gf_X2_31 {κ : Nat → Nat} {N d : Nat} {mi : gMI} {pc : Nat} {lv : List (Nat × Value)} {sk : List Value} {μ : gMem} {Q : rQ} {a : Nat} (hm : mi.1 = RX2) (hd : decode mi.2.1 pc = .ok (.getfield 31, 3)) (ha : a < N) (hk : kd a = 7) (k : RR κ N d mi (pc + 3) lv (.int (μ a 1) :: sk) μ Q) : RR κ N d mi pc lv (.ref (κ 0 + a) :: sk) μ Q := r_getI 1 gC7 (by decide) (fun _ => rfl) (by rw [hm]; exact wF_X2_31) hd ha hk k
theorem pf_X2_31 {κ : Nat → Nat} {N d : Nat} {mi : gMI} {pc : Nat} {lv : List (Nat × Value)} {sk : List Value} {μ : gMem} {Q : rQ} {a : Nat} {v : Int32} (hm : mi.1 = RX2) (hd : decode mi.2.1 pc = .ok (.putfield 31, 3)) (ha : a < N) (hk : kd a = 7) (k : ∀ m : gMem, m = st μ a 1 v → RR κ N d mi (pc + 3) lv sk m Q) : RR κ N d mi pc lv (.int v :: .ref (κ 0 + a) :: sk) μ Q := r_putI 1 gC7 (by decide) (fun _ => rfl) ⟨rfl, rfl⟩ (by rw [hm]; exact wF_X2_31) hd ha hk k
theorem wF_X1_54 : Cond.fieldLink RX1 54 (TX7 1).1 (TX7 1).2.1 (TX7 1).2.2.1 ∈ lw_g := lw_g_of 130 (by decide +kernel) rfl
theorem gf_X1_54 {κ : Nat → Nat} {N d : Nat} {mi : gMI} {pc : Nat} {lv : List (Nat × Value)} {sk : List Value} {μ : gMem} {Q : rQ} {a : Nat} (hm : mi.1 = RX1) (hd : decode mi.2.1 pc = .ok (.getfield 54, 3)) (ha : a < N) (hk : kd a = 7) (k : RR κ N d mi (pc + 3) lv (.int (μ a 1) :: sk) μ Q) : RR κ N d mi pc lv (.ref (κ 0 + a) :: sk) μ Q := r_getI 1 gC7 (by decide) (fun _ => rfl) (by rw [hm]; exact wF_X1_54) hd ha hk k
theorem pf_X1_54 {κ : Nat → Nat} {N d : Nat} {mi : gMI} {pc : Nat} {lv : List (Nat × Value)} {sk : List Value} {μ : gMem} {Q : rQ} {a : Nat} {v : Int32} (hm : mi.1 = RX1) (hd : decode mi.2.1 pc = .ok (.putfield 54, 3)) (ha : a < N) (hk : kd a = 7) (k : ∀ m : gMem, m = st μ a 1 v → RR κ N d mi (pc + 3) lv sk m Q) : RR κ N d mi pc lv (.int v :: .ref (κ 0 + a) :: sk) μ Q := r_putI 1 gC7 (by decide) (fun _ => rfl) ⟨rfl, rfl⟩ (by rw [hm]; exact wF_X1_54) hd ha hk k
theorem wF_X10_94 : Cond.fieldLink RX10 94 (TX7 1).1 (TX7 1).2.1 (TX7 1).2.2.1 ∈ lw_g := lw_g_of 131 (by decide +kernel) rfl
theorem gf_X10_94 {κ : Nat → Nat} {N d : Nat} {mi : gMI} {pc : Nat} {lv : List (Nat × Value)} {sk : List Value} {μ : gMem} {Q : rQ} {a : Nat} (hm : mi.1 = RX10) (hd : decode mi.2.1 pc = .ok (.getfield 94, 3)) (ha : a < N) (hk : kd a = 7) (k : RR κ N d mi (pc + 3) lv (.int (μ a 1) :: sk) μ Q) : RR κ N d mi pc lv (.ref (κ 0 + a) :: sk) μ Q := r_getI 1 gC7 (by decide) (fun _ => rfl) (by rw [hm]; exact wF_X10_94) hd ha hk k
theorem pf_X10_94 {κ : Nat → Nat} {N d : Nat} {mi : gMI} {pc : Nat} {lv : List (Nat × Value)} {sk : List Value} {μ : gMem} {Q : rQ} {a : Nat} {v : Int32} (hm : mi.1 = RX10) (hd : decode mi.2.1 pc = .ok (.putfield 94, 3)) (ha : a < N) (hk : kd a = 7) (k : ∀ m : gMem, m = st μ a 1 v → RR κ N d mi (pc + 3) lv sk m Q) : RR κ N d mi pc lv (.int v :: .ref (κ 0 + a) :: sk) μ Q := r_putI 1 gC7 (by decide) (fun _ => rfl) ⟨rfl, rfl⟩ (by rw [hm]; exact wF_X10_94) hd ha hk k
theorem wF_X5_47 : Cond.fieldLink RX5 47 (TX7 1).1 (TX7 1).2.1 (TX7 1).2.2.1 ∈ lw_g := lw_g_of 132 (by decide +kernel) rfl
theorem gf_X5_47 {κ : Nat → Nat} {N d : Nat} {mi : gMI} {pc : Nat} {lv : List (Nat × Value)} {sk : List Value} {μ : gMem} {Q : rQ} {a : Nat} (hm : mi.1 = RX5) (hd : decode mi.2.1 pc = .ok (.getfield 47, 3)) (ha : a < N) (hk : kd a = 7) (k : RR κ N d mi (pc + 3) lv (.int (μ a 1) :: sk) μ Q) : RR κ N d mi pc lv (.ref (κ 0 + a) :: sk) μ Q := r_getI 1 gC7 (by decide) (fun _ => rfl) (by rw [hm]; exact wF_X5_47) hd ha hk k
theorem pf_X5_47 {κ : Nat → Nat} {N d : Nat} {mi : gMI} {pc : Nat} {lv : List (Nat × Value)} {sk : List Value} {μ : gMem} {Q : rQ} {a : Nat} {v : Int32} (hm : mi.1 = RX5) (hd : decode mi.2.1 pc = .ok (.putfield 47, 3)) (ha : a < N) (hk : kd a = 7) (k : ∀ m : gMem, m = st μ a 1 v → RR κ N d mi (pc + 3) lv sk m Q) : RR κ N d mi pc lv (.int v :: .ref (κ 0 + a) :: sk) μ Q := r_putI 1 gC7 (by decide) (fun _ => rfl) ⟨rfl, rfl⟩ (by rw [hm]; exact wF_X5_47) hd ha hk k
theorem wF_X7_25 : Cond.fieldLink RX7 25 (TX7 2).1 (TX7 2).2.1 (TX7 2).2.2.1 ∈ lw_g := lw_g_of 133 (by decide +kernel) rfl
theorem gf_X7_25 {κ : Nat → Nat} {N d : Nat} {mi : gMI} {pc : Nat} {lv : List (Nat × Value)} {sk : List Value} {μ : gMem} {Q : rQ} {a : Nat} (hm : mi.1 = RX7) (hd : decode mi.2.1 pc = .ok (.getfield 25, 3)) (ha : a < N) (hk : kd a = 7) (k : RR κ N d mi (pc + 3) lv (.int (μ a 2) :: sk) μ Q) : RR κ N d mi pc lv (.ref (κ 0 + a) :: sk) μ Q := r_getI 2 gC7 (by decide) (fun _ => rfl) (by rw [hm]; exact wF_X7_25) hd ha hk k
theorem pf_X7_25 {κ : Nat → Nat} {N d : Nat} {mi : gMI} {pc : Nat} {lv : List (Nat × Value)} {sk : List Value} {μ : gMem} {Q : rQ} {a : Nat} {v : Int32} (hm : mi.1 = RX7) (hd : decode mi.2.1 pc = .ok (.putfield 25, 3)) (ha : a < N) (hk : kd a = 7) (k : ∀ m : gMem, m = st μ a 2 v → RR κ N d mi (pc + 3) lv sk m Q) : RR κ N d mi pc lv (.int v :: .ref (κ 0 + a) :: sk) μ Q := r_putI 2 gC7 (by decide) (fun _ => rfl) ⟨rfl, rfl⟩ (by rw [hm]; exact wF_X7_25) hd ha hk k
theorem wF_X7_28 : Cond.fieldLink RX7 28 (TX7 3).1 (TX7 3).2.1 (TX7 3).2.2.1 ∈ lw_g := lw_g_of 134 (by decide +kernel) rfl
theorem gf_X7_28 {κ : Nat → Nat} {N d : Nat} {mi : gMI} {pc : Nat} {lv : List (Nat × Value)} {sk : List Value} {μ : gMem} {Q : rQ} {a : Nat} (hm : mi.1 = RX7) (hd : decode mi.2.1 pc = .ok (.getfield 28, 3)) (ha : a < N) (hk : kd a = 7) (k : RR κ N d mi (pc + 3) lv (.int (μ a 3) :: sk) μ Q) : RR κ N d mi pc lv (.ref (κ 0 + a) :: sk) μ Q := r_getI 3 gC7 (by decide) (fun _ => rfl) (by rw [hm]; exact wF_X7_28) hd ha hk k
theorem pf_X7_28 {κ : Nat → Nat} {N d : Nat} {mi : gMI} {pc : Nat} {lv : List (Nat × Value)} {sk : List Value} {μ : gMem} {Q : rQ} {a : Nat} {v : Int32} (hm : mi.1 = RX7) (hd : decode mi.2.1 pc = .ok (.putfield 28, 3)) (ha : a < N) (hk : kd a = 7) (k : ∀ m : gMem, m = st μ a 3 v → RR κ N d mi (pc + 3) lv sk m Q) : RR κ N d mi pc lv (.int v :: .ref (κ 0 + a) :: sk) μ Q := r_putI 3 gC7 (by decide) (fun _ => rfl) ⟨rfl, rfl⟩ (by rw [hm]; exact wF_X7_28) hd ha hk k
theorem wF_X7_31 : Cond.fieldLink RX7 31 (TX7 4).1 (TX7 4).2.1 (TX7 4).2.2.1 ∈ lw_g := lw_g_of 135 (by decide +kernel) rfl
theorem gf_X7_31 {κ : Nat → Nat} {N d : Nat} {mi : gMI} {pc : Nat} {lv : List (Nat × Value)} {sk : List Value} {μ : gMem} {Q : rQ} {a : Nat} (hm : mi.1 = RX7) (hd : decode mi.2.1 pc = .ok (.getfield 31, 3)) (ha : a < N) (hk : kd a = 7) (k : RR κ N d mi (pc + 3) lv (.int (μ a 4) :: sk) μ Q) : RR κ N d mi pc lv (.ref (κ 0 + a) :: sk) μ Q := r_getI 4 gC7 (by decide) (fun _ => rfl) (by rw [hm]; exact wF_X7_31) hd ha hk k
theorem pf_X7_31 {κ : Nat → Nat} {N d : Nat} {mi : gMI} {pc : Nat} {lv : List (Nat × Value)} {sk : List Value} {μ : gMem} {Q : rQ} {a : Nat} {v : Int32} (hm : mi.1 = RX7) (hd : decode mi.2.1 pc = .ok (.putfield 31, 3)) (ha : a < N) (hk : kd a = 7) (k : ∀ m : gMem, m = st μ a 4 v → RR κ N d mi (pc + 3) lv sk m Q) : RR κ N d mi pc lv (.int v :: .ref (κ 0 + a) :: sk) μ Q := r_putI 4 gC7 (by decide) (fun _ => rfl) ⟨rfl, rfl⟩ (by rw [hm]; exact wF_X7_31) hd ha hk k
theorem wF_X5_58 : Cond.fieldLink RX5 58 (TX7 4).1 (TX7 4).2.1 (TX7 4).2.2.1 ∈ lw_g := lw_g_of 136 (by decide +kernel) rfl
theorem gf_X5_58 {κ : Nat → Nat} {N d : Nat} {mi : gMI} {pc : Nat} {lv : List (Nat × Value)} {sk : List Value} {μ : gMem} {Q : rQ} {a : Nat} (hm : mi.1 = RX5) (hd : decode mi.2.1 pc = .ok (.getfield 58, 3)) (ha : a < N) (hk : kd a = 7) (k : RR κ N d mi (pc + 3) lv (.int (μ a 4) :: sk) μ Q) : RR κ N d mi pc lv (.ref (κ 0 + a) :: sk) μ Q := r_getI 4 gC7 (by decide) (fun _ => rfl) (by rw [hm]; exact wF_X5_58) hd ha hk k
theorem pf_X5_58 {κ : Nat → Nat} {N d : Nat} {mi : gMI} {pc : Nat} {lv : List (Nat × Value)} {sk : List Value} {μ : gMem} {Q : rQ} {a : Nat} {v : Int32} (hm : mi.1 = RX5) (hd : decode mi.2.1 pc = .ok (.putfield 58, 3)) (ha : a < N) (hk : kd a = 7) (k : ∀ m : gMem, m = st μ a 4 v → RR κ N d mi (pc + 3) lv sk m Q) : RR κ N d mi pc lv (.int v :: .ref (κ 0 + a) :: sk) μ Q := r_putI 4 gC7 (by decide) (fun _ => rfl) ⟨rfl, rfl⟩ (by rw [hm]; exact wF_X5_58) hd ha hk k
theorem wF_X1_105 : Cond.fieldLink RX1 105 (TX7 4).1 (TX7 4).2.1 (TX7 4).2.2.1 ∈ lw_g := lw_g_of 137 (by decide +kernel) rfl
theorem gf_X1_105 {κ : Nat → Nat} {N d : Nat} {mi : gMI} {pc : Nat} {lv : List (Nat × Value)} {sk : List Value} {μ : gMem} {Q : rQ} {a : Nat} (hm : mi.1 = RX1) (hd : decode mi.2.1 pc = .ok (.getfield 105, 3)) (ha : a < N) (hk : kd a = 7) (k : RR κ N d mi (pc + 3) lv (.int (μ a 4) :: sk) μ Q) : RR κ N d mi pc lv (.ref (κ 0 + a) :: sk) μ Q := r_getI 4 gC7 (by decide) (fun _ => rfl) (by rw [hm]; exact wF_X1_105) hd ha hk k
theorem pf_X1_105 {κ : Nat → Nat} {N d : Nat} {mi : gMI} {pc : Nat} {lv : List (Nat × Value)} {sk : List Value} {μ : gMem} {Q : rQ} {a : Nat} {v : Int32} (hm : mi.1 = RX1) (hd : decode mi.2.1 pc = .ok (.putfield 105, 3)) (ha : a < N) (hk : kd a = 7) (k : ∀ m : gMem, m = st μ a 4 v → RR κ N d mi (pc + 3) lv sk m Q) : RR κ N d mi pc lv (.int v :: .ref (κ 0 + a) :: sk) μ Q := r_putI 4 gC7 (by decide) (fun _ => rfl) ⟨rfl, rfl⟩ (by rw [hm]; exact wF_X1_105) hd ha hk k
theorem wF_X2_79 : Cond.fieldLink RX2 79 (TX7 4).1 (TX7 4).2.1 (TX7 4).2.2.1 ∈ lw_g := lw_g_of 138 (by decide +kernel) rfl
theorem gf_X2_79 {κ : Nat → Nat} {N d : Nat} {mi : gMI} {pc : Nat} {lv : List (Nat × Value)} {sk : List Value} {μ : gMem} {Q : rQ} {a : Nat} (hm : mi.1 = RX2) (hd : decode mi.2.1 pc = .ok (.getfield 79, 3)) (ha : a < N) (hk : kd a = 7) (k : RR κ N d mi (pc + 3) lv (.int (μ a 4) :: sk) μ Q) : RR κ N d mi pc lv (.ref (κ 0 + a) :: sk) μ Q := r_getI 4 gC7 (by decide) (fun _ => rfl) (by rw [hm]; exact wF_X2_79) hd ha hk k
theorem pf_X2_79 {κ : Nat → Nat} {N d : Nat} {mi : gMI} {pc : Nat} {lv : List (Nat × Value)} {sk : List Value} {μ : gMem} {Q : rQ} {a : Nat} {v : Int32} (hm : mi.1 = RX2) (hd : decode mi.2.1 pc = .ok (.putfield 79, 3)) (ha : a < N) (hk : kd a = 7) (k : ∀ m : gMem, m = st μ a 4 v → RR κ N d mi (pc + 3) lv sk m Q) : RR κ N d mi pc lv (.int v :: .ref (κ 0 + a) :: sk) μ Q := r_putI 4 gC7 (by decide) (fun _ => rfl) ⟨rfl, rfl⟩ (by rw [hm]; exact wF_X2_79) hd ha hk k
theorem wF_X10_280 : Cond.fieldLink RX10 280 (TX7 4).1 (TX7 4).2.1 (TX7 4).2.2.1 ∈ lw_g := lw_g_of 139 (by decide +kernel) rfl
theorem gf_X10_280 {κ : Nat → Nat} {N d : Nat} {mi : gMI} {pc : Nat} {lv : List (Nat × Value)} {sk : List Value} {μ : gMem} {Q : rQ} {a : Nat} (hm : mi.1 = RX10) (hd : decode mi.2.1 pc = .ok (.getfield 280, 3)) (ha : a < N) (hk : kd a = 7) (k : RR κ N d mi (pc + 3) lv (.int (μ a 4) :: sk) μ Q) : RR κ N d mi pc lv (.ref (κ 0 + a) :: sk) μ Q := r_getI 4 gC7 (by decide) (fun _ => rfl) (by rw [hm]; exact wF_X10_280) hd ha hk k
theorem pf_X10_280 {κ : Nat → Nat} {N d : Nat} {mi : gMI} {pc : Nat} {lv : List (Nat × Value)} {sk : List Value} {μ : gMem} {Q : rQ} {a : Nat} {v : Int32} (hm : mi.1 = RX10) (hd : decode mi.2.1 pc = .ok (.putfield 280, 3)) (ha : a < N) (hk : kd a = 7) (k : ∀ m : gMem, m = st μ a 4 v → RR κ N d mi (pc + 3) lv sk m Q) : RR κ N d mi pc lv (.int v :: .ref (κ 0 + a) :: sk) μ Q := r_putI 4 gC7 (by decide) (fun _ => rfl) ⟨rfl, rfl⟩ (by rw [hm]; exact wF_X10_280) hd ha hk k
theorem wF_X10_75 : Cond.fieldLink RX10 75 (TX7 5).1 (TX7 5).2.1 (TX7 5).2.2.1 ∈ lw_g := lw_g_of 140 (by decide +kernel) rfl
theorem gf_X10_75 {κ : Nat → Nat} {N d : Nat} {mi : gMI} {pc : Nat} {lv : List (Nat × Value)} {sk : List Value} {μ : gMem} {Q : rQ} {a : Nat} (hm : mi.1 = RX10) (hd : decode mi.2.1 pc = .ok (.getfield 75, 3)) (ha : a < N) (hk : kd a = 7) (k : RR κ N d mi (pc + 3) lv (.int (μ a 5) :: sk) μ Q) : RR κ N d mi pc lv (.ref (κ 0 + a) :: sk) μ Q := r_getI 5 gC7 (by decide) (fun _ => rfl) (by rw [hm]; exact wF_X10_75) hd ha hk k
theorem pf_X10_75 {κ : Nat → Nat} {N d : Nat} {mi : gMI} {pc : Nat} {lv : List (Nat × Value)} {sk : List Value} {μ : gMem} {Q : rQ} {a : Nat} {v : Int32} (hm : mi.1 = RX10) (hd : decode mi.2.1 pc = .ok (.putfield 75, 3)) (ha : a < N) (hk : kd a = 7) (k : ∀ m : gMem, m = st μ a 5 v → RR κ N d mi (pc + 3) lv sk m Q) : RR κ N d mi pc lv (.int v :: .ref (κ 0 + a) :: sk) μ Q := r_putI 5 gC7 (by decide) (fun _ => rfl) ⟨rfl, rfl⟩ (by rw [hm]; exact wF_X10_75) hd ha hk k
theorem wF_X7_34 : Cond.fieldLink RX7 34 (TX7 5).1 (TX7 5).2.1 (TX7 5).2.2.1 ∈ lw_g := lw_g_of 141 (by decide +kernel) rfl
theorem gf_X7_34 {κ : Nat → Nat} {N d : Nat} {mi : gMI} {pc : Nat} {lv : List (Nat × Value)} {sk : List Value} {μ : gMem} {Q : rQ} {a : Nat} (hm : mi.1 = RX7) (hd : decode mi.2.1 pc = .ok (.getfield 34, 3)) (ha : a < N) (hk : kd a = 7) (k : RR κ N d mi (pc + 3) lv (.int (μ a 5) :: sk) μ Q) : RR κ N d mi pc lv (.ref (κ 0 + a) :: sk) μ Q := r_getI 5 gC7 (by decide) (fun _ => rfl) (by rw [hm]; exact wF_X7_34) hd ha hk k
theorem pf_X7_34 {κ : Nat → Nat} {N d : Nat} {mi : gMI} {pc : Nat} {lv : List (Nat × Value)} {sk : List Value} {μ : gMem} {Q : rQ} {a : Nat} {v : Int32} (hm : mi.1 = RX7) (hd : decode mi.2.1 pc = .ok (.putfield 34, 3)) (ha : a < N) (hk : kd a = 7) (k : ∀ m : gMem, m = st μ a 5 v → RR κ N d mi (pc + 3) lv sk m Q) : RR κ N d mi pc lv (.int v :: .ref (κ 0 + a) :: sk) μ Q := r_putI 5 gC7 (by decide) (fun _ => rfl) ⟨rfl, rfl⟩ (by rw [hm]; exact wF_X7_34) hd ha hk k
theorem wF_X7_41 : Cond.fieldLink RX7 41 (TX7 6).1 (TX7 6).2.1 (TX7 6).2.2.1 ∈ lw_g := lw_g_of 142 (by decide +kernel) rfl
theorem gf_X7_41 {κ : Nat → Nat} {N d : Nat} {mi : gMI} {pc : Nat} {lv : List (Nat × Value)} {sk : List Value} {μ : gMem} {Q : rQ} {a : Nat} (hm : mi.1 = RX7) (hd : decode mi.2.1 pc = .ok (.getfield 41, 3)) (ha : a < N) (hk : kd a = 7) (k : RR κ N d mi (pc + 3) lv (.int (μ a 6) :: sk) μ Q) : RR κ N d mi pc lv (.ref (κ 0 + a) :: sk) μ Q := r_getI 6 gC7 (by decide) (fun _ => rfl) (by rw [hm]; exact wF_X7_41) hd ha hk k
theorem pf_X7_41 {κ : Nat → Nat} {N d : Nat} {mi : gMI} {pc : Nat} {lv : List (Nat × Value)} {sk : List Value} {μ : gMem} {Q : rQ} {a : Nat} {v : Int32} (hm : mi.1 = RX7) (hd : decode mi.2.1 pc = .ok (.putfield 41, 3)) (ha : a < N) (hk : kd a = 7) (k : ∀ m : gMem, m = st μ a 6 v → RR κ N d mi (pc + 3) lv sk m Q) : RR κ N d mi pc lv (.int v :: .ref (κ 0 + a) :: sk) μ Q := r_putI 6 gC7 (by decide) (fun _ => rfl) ⟨rfl, rfl⟩ (by rw [hm]; exact wF_X7_41) hd ha hk k
theorem wF_X7_44 : Cond.fieldLink RX7 44 (TX7 7).1 (TX7 7).2.1 (TX7 7).2.2.1 ∈ lw_g := lw_g_of 143 (by decide +kernel) rfl
theorem gf_X7_44 {κ : Nat → Nat} {N d : Nat} {mi : gMI} {pc : Nat} {lv : List (Nat × Value)} {sk : List Value} {μ : gMem} {Q : rQ} {a : Nat} (hm : mi.1 = RX7) (hd : decode mi.2.1 pc = .ok (.getfield 44, 3)) (ha : a < N) (hk : kd a = 7) (k : RR κ N d mi (pc + 3) lv (.int (μ a 7) :: sk) μ Q) : RR κ N d mi pc lv (.ref (κ 0 + a) :: sk) μ Q := r_getI 7 gC7 (by decide) (fun _ => rfl) (by rw [hm]; exact wF_X7_44) hd ha hk k
theorem pf_X7_44 {κ : Nat → Nat} {N d : Nat} {mi : gMI} {pc : Nat} {lv : List (Nat × Value)} {sk : List Value} {μ : gMem} {Q : rQ} {a : Nat} {v : Int32} (hm : mi.1 = RX7) (hd : decode mi.2.1 pc = .ok (.putfield 44, 3)) (ha : a < N) (hk : kd a = 7) (k : ∀ m : gMem, m = st μ a 7 v → RR κ N d mi (pc + 3) lv sk m Q) : RR κ N d mi pc lv (.int v :: .ref (κ 0 + a) :: sk) μ Q := r_putI 7 gC7 (by decide) (fun _ => rfl) ⟨rfl, rfl⟩ (by rw [hm]; exact wF_X7_44) hd ha hk k
theorem wF_X3_9 : Cond.fieldLink RX3 9 (TX3 0).1 (TX3 0).2.1 (TX3 0).2.2.1 ∈ lw_g := lw_g_of 167 (by decide +kernel) rfl
theorem gf_X3_9 {κ : Nat → Nat} {N d : Nat} {mi : gMI} {pc : Nat} {lv : List (Nat × Value)} {sk : List Value} {μ : gMem} {Q : rQ} {a : Nat} (hm : mi.1 = RX3) (hd : decode mi.2.1 pc = .ok (.getfield 9, 3)) (ha : a < N) (hk : kd a = 3) (k : RR κ N d mi (pc + 3) lv (.ref (κ 0 + 9) :: sk) μ Q) : RR κ N d mi pc lv (.ref (κ 0 + a) :: sk) μ Q := r_getR 0 9 gC3 (by decide) rfl (by rw [hm]; exact wF_X3_9) hd ha hk k
theorem wF_X3_15 : Cond.fieldLink RX3 15 (TX3 1).1 (TX3 1).2.1 (TX3 1).2.2.1 ∈ lw_g := lw_g_of 168 (by decide +kernel) rfl
theorem gf_X3_15 {κ : Nat → Nat} {N d : Nat} {mi : gMI} {pc : Nat} {lv : List (Nat × Value)} {sk : List Value} {μ : gMem} {Q : rQ} {a : Nat} (hm : mi.1 = RX3) (hd : decode mi.2.1 pc = .ok (.getfield 15, 3)) (ha : a < N) (hk : kd a = 3) (k : RR κ N d mi (pc + 3) lv (.int (μ a 1) :: sk) μ Q) : RR κ N d mi pc lv (.ref (κ 0 + a) :: sk) μ Q := r_getI 1 gC3 (by decide) (fun _ => rfl) (by rw [hm]; exact wF_X3_15) hd ha hk k
theorem pf_X3_15 {κ : Nat → Nat} {N d : Nat} {mi : gMI} {pc : Nat} {lv : List (Nat × Value)} {sk : List Value} {μ : gMem} {Q : rQ} {a : Nat} {v : Int32} (hm : mi.1 = RX3) (hd : decode mi.2.1 pc = .ok (.putfield 15, 3)) (ha : a < N) (hk : kd a = 3) (k : ∀ m : gMem, m = st μ a 1 v → RR κ N d mi (pc + 3) lv sk m Q) : RR κ N d mi pc lv (.int v :: .ref (κ 0 + a) :: sk) μ Q := r_putI 1 gC3 (by decide) (fun _ => rfl) ⟨rfl, rfl⟩ (by rw [hm]; exact wF_X3_15) hd ha hk k
theorem wF_X10_91 : Cond.fieldLink RX10 91 (TX3 1).1 (TX3 1).2.1 (TX3 1).2.2.1 ∈ lw_g := lw_g_of 169 (by decide +kernel) rfl
theorem gf_X10_91 {κ : Nat → Nat} {N d : Nat} {mi : gMI} {pc : Nat} {lv : List (Nat × Value)} {sk : List Value} {μ : gMem} {Q : rQ} {a : Nat} (hm : mi.1 = RX10) (hd : decode mi.2.1 pc = .ok (.getfield 91, 3)) (ha : a < N) (hk : kd a = 3) (k : RR κ N d mi (pc + 3) lv (.int (μ a 1) :: sk) μ Q) : RR κ N d mi pc lv (.ref (κ 0 + a) :: sk) μ Q := r_getI 1 gC3 (by decide) (fun _ => rfl) (by rw [hm]; exact wF_X10_91) hd ha hk k
theorem pf_X10_91 {κ : Nat → Nat} {N d : Nat} {mi : gMI} {pc : Nat} {lv : List (Nat × Value)} {sk : List Value} {μ : gMem} {Q : rQ} {a : Nat} {v : Int32} (hm : mi.1 = RX10) (hd : decode mi.2.1 pc = .ok (.putfield 91, 3)) (ha : a < N) (hk : kd a = 3) (k : ∀ m : gMem, m = st μ a 1 v → RR κ N d mi (pc + 3) lv sk m Q) : RR κ N d mi pc lv (.int v :: .ref (κ 0 + a) :: sk) μ Q := r_putI 1 gC3 (by decide) (fun _ => rfl) ⟨rfl, rfl⟩ (by rw [hm]; exact wF_X10_91) hd ha hk k
theorem wF_X0_56 : Cond.fieldLink RX0 56 (TX3 2).1 (TX3 2).2.1 (TX3 2).2.2.1 ∈ lw_g := lw_g_of 170 (by decide +kernel) rfl
theorem gf_X0_56 {κ : Nat → Nat} {N d : Nat} {mi : gMI} {pc : Nat} {lv : List (Nat × Value)} {sk : List Value} {μ : gMem} {Q : rQ} {a : Nat} (hm : mi.1 = RX0) (hd : decode mi.2.1 pc = .ok (.getfield 56, 3)) (ha : a < N) (hk : kd a = 3) (k : RR κ N d mi (pc + 3) lv (.int (μ a 2) :: sk) μ Q) : RR κ N d mi pc lv (.ref (κ 0 + a) :: sk) μ Q := r_getI 2 gC3 (by decide) (fun _ => rfl) (by rw [hm]; exact wF_X0_56) hd ha hk k
theorem pf_X0_56 {κ : Nat → Nat} {N d : Nat} {mi : gMI} {pc : Nat} {lv : List (Nat × Value)} {sk : List Value} {μ : gMem} {Q : rQ} {a : Nat} {v : Int32} (hm : mi.1 = RX0) (hd : decode mi.2.1 pc = .ok (.putfield 56, 3)) (ha : a < N) (hk : kd a = 3) (k : ∀ m : gMem, m = st μ a 2 v → RR κ N d mi (pc + 3) lv sk m Q) : RR κ N d mi pc lv (.int v :: .ref (κ 0 + a) :: sk) μ Q := r_putI 2 gC3 (by decide) (fun _ => rfl) ⟨rfl, rfl⟩ (by rw [hm]; exact wF_X0_56) hd ha hk k
theorem wF_X3_29 : Cond.fieldLink RX3 29 (TX3 2).1 (TX3 2).2.1 (TX3 2).2.2.1 ∈ lw_g := lw_g_of 171 (by decide +kernel) rfl
theorem gf_X3_29 {κ : Nat → Nat} {N d : Nat} {mi : gMI} {pc : Nat} {lv : List (Nat × Value)} {sk : List Value} {μ : gMem} {Q : rQ} {a : Nat} (hm : mi.1 = RX3) (hd : decode mi.2.1 pc = .ok (.getfield 29, 3)) (ha : a < N) (hk : kd a = 3) (k : RR κ N d mi (pc + 3) lv (.int (μ a 2) :: sk) μ Q) : RR κ N d mi pc lv (.ref (κ 0 + a) :: sk) μ Q := r_getI 2 gC3 (by decide) (fun _ => rfl) (by rw [hm]; exact wF_X3_29) hd ha hk k
theorem pf_X3_29 {κ : Nat → Nat} {N d : Nat} {mi : gMI} {pc : Nat} {lv : List (Nat × Value)} {sk : List Value} {μ : gMem} {Q : rQ} {a : Nat} {v : Int32} (hm : mi.1 = RX3) (hd : decode mi.2.1 pc = .ok (.putfield 29, 3)) (ha : a < N) (hk : kd a = 3) (k : ∀ m : gMem, m = st μ a 2 v → RR κ N d mi (pc + 3) lv sk m Q) : RR κ N d mi pc lv (.int v :: .ref (κ 0 + a) :: sk) μ Q := r_putI 2 gC3 (by decide) (fun _ => rfl) ⟨rfl, rfl⟩ (by rw [hm]; exact wF_X3_29) hd ha hk k
theorem wF_X0_50 : Cond.fieldLink RX0 50 (TX3 3).1 (TX3 3).2.1 (TX3 3).2.2.1 ∈ lw_g := lw_g_of 172 (by decide +kernel) rfl
theorem gf_X0_50 {κ : Nat → Nat} {N d : Nat} {mi : gMI} {pc : Nat} {lv : List (Nat × Value)} {sk : List Value} {μ : gMem} {Q : rQ} {a : Nat} (hm : mi.1 = RX0) (hd : decode mi.2.1 pc = .ok (.getfield 50, 3)) (ha : a < N) (hk : kd a = 3) (k : RR κ N d mi (pc + 3) lv (.int (μ a 3) :: sk) μ Q) : RR κ N d mi pc lv (.ref (κ 0 + a) :: sk) μ Q := r_getI 3 gC3 (by decide) (fun _ => rfl) (by rw [hm]; exact wF_X0_50) hd ha hk k
theorem pf_X0_50 {κ : Nat → Nat} {N d : Nat} {mi : gMI} {pc : Nat} {lv : List (Nat × Value)} {sk : List Value} {μ : gMem} {Q : rQ} {a : Nat} {v : Int32} (hm : mi.1 = RX0) (hd : decode mi.2.1 pc = .ok (.putfield 50, 3)) (ha : a < N) (hk : kd a = 3) (k : ∀ m : gMem, m = st μ a 3 v → RR κ N d mi (pc + 3) lv sk m Q) : RR κ N d mi pc lv (.int v :: .ref (κ 0 + a) :: sk) μ Q := r_putI 3 gC3 (by decide) (fun _ => rfl) ⟨rfl, rfl⟩ (by rw [hm]; exact wF_X0_50) hd ha hk k
theorem wF_X3_22 : Cond.fieldLink RX3 22 (TX3 3).1 (TX3 3).2.1 (TX3 3).2.2.1 ∈ lw_g := lw_g_of 173 (by decide +kernel) rfl
theorem gf_X3_22 {κ : Nat → Nat} {N d : Nat} {mi : gMI} {pc : Nat} {lv : List (Nat × Value)} {sk : List Value} {μ : gMem} {Q : rQ} {a : Nat} (hm : mi.1 = RX3) (hd : decode mi.2.1 pc = .ok (.getfield 22, 3)) (ha : a < N) (hk : kd a = 3) (k : RR κ N d mi (pc + 3) lv (.int (μ a 3) :: sk) μ Q) : RR κ N d mi pc lv (.ref (κ 0 + a) :: sk) μ Q := r_getI 3 gC3 (by decide) (fun _ => rfl) (by rw [hm]; exact wF_X3_22) hd ha hk k
theorem pf_X3_22 {κ : Nat → Nat} {N d : Nat} {mi : gMI} {pc : Nat} {lv : List (Nat × Value)} {sk : List Value} {μ : gMem} {Q : rQ} {a : Nat} {v : Int32} (hm : mi.1 = RX3) (hd : decode mi.2.1 pc = .ok (.putfield 22, 3)) (ha : a < N) (hk : kd a = 3) (k : ∀ m : gMem, m = st μ a 3 v → RR κ N d mi (pc + 3) lv sk m Q) : RR κ N d mi pc lv (.int v :: .ref (κ 0 + a) :: sk) μ Q := r_putI 3 gC3 (by decide) (fun _ => rfl) ⟨rfl, rfl⟩ (by rw [hm]; exact wF_X3_22) hd ha hk k
theorem wF_X3_19 : Cond.fieldLink RX3 19 (TX3 4).1 (TX3 4).2.1 (TX3 4).2.2.1 ∈ lw_g := lw_g_of 174 (by decide +kernel) rfl
theorem gf_X3_19 {κ : Nat → Nat} {N d : Nat} {mi : gMI} {pc : Nat} {lv : List (Nat × Value)} {sk : List Value} {μ : gMem} {Q : rQ} {a : Nat} (hm : mi.1 = RX3) (hd : decode mi.2.1 pc = .ok (.getfield 19, 3)) (ha : a < N) (hk : kd a = 3) (k : RR κ N d mi (pc + 3) lv (.int (μ a 4) :: sk) μ Q) : RR κ N d mi pc lv (.ref (κ 0 + a) :: sk) μ Q := r_getI 4 gC3 (by decide) (fun _ => rfl) (by rw [hm]; exact wF_X3_19) hd ha hk k
theorem pf_X3_19 {κ : Nat → Nat} {N d : Nat} {mi : gMI} {pc : Nat} {lv : List (Nat × Value)} {sk : List Value} {μ : gMem} {Q : rQ} {a : Nat} {v : Int32} (hm : mi.1 = RX3) (hd : decode mi.2.1 pc = .ok (.putfield 19, 3)) (ha : a < N) (hk : kd a = 3) (k : ∀ m : gMem, m = st μ a 4 v → RR κ N d mi (pc + 3) lv sk m Q) : RR κ N d mi pc lv (.int v :: .ref (κ 0 + a) :: sk) μ Q := r_putI 4 gC3 (by decide) (fun _ => rfl) ⟨rfl, rfl⟩ (by rw [hm]; exact wF_X3_19) hd ha hk k
theorem wF_X9_42 : Cond.fieldLink RX9 42 "SieveTub$Word" "$VALUES" "[LSieveTub$Word;" ∈ lw_g := lw_g_of 196 (by decide +kernel) rfl
theorem wF_X0_15 : Cond.fieldLink RX0 15 (TX0 0).1 (TX0 0).2.1 (TX0 0).2.2.1 ∈ lw_g := lw_g_of 206 (by decide +kernel) rfl
theorem gf_X0_15 {κ : Nat → Nat} {N d : Nat} {mi : gMI} {pc : Nat} {lv : List (Nat × Value)} {sk : List Value} {μ : gMem} {Q : rQ} {a : Nat} (hm : mi.1 = RX0) (hd : decode mi.2.1 pc = .ok (.getfield 15, 3)) (ha : a < N) (hk : kd a = 0) (k : RR κ N d mi (pc + 3) lv (.ref (κ 0 + 11) :: sk) μ Q) : RR κ N d mi pc lv (.ref (κ 0 + a) :: sk) μ Q := r_getR 0 11 gC0 (by decide) rfl (by rw [hm]; exact wF_X0_15) hd ha hk k
theorem wF_X0_21 : Cond.fieldLink RX0 21 (TX0 1).1 (TX0 1).2.1 (TX0 1).2.2.1 ∈ lw_g := lw_g_of 207 (by decide +kernel) rfl
theorem gf_X0_21 {κ : Nat → Nat} {N d : Nat} {mi : gMI} {pc : Nat} {lv : List (Nat × Value)} {sk : List Value} {μ : gMem} {Q : rQ} {a : Nat} (hm : mi.1 = RX0) (hd : decode mi.2.1 pc = .ok (.getfield 21, 3)) (ha : a < N) (hk : kd a = 0) (k : RR κ N d mi (pc + 3) lv (.ref (κ 0 + 12) :: sk) μ Q) : RR κ N d mi pc lv (.ref (κ 0 + a) :: sk) μ Q := r_getR 1 12 gC0 (by decide) rfl (by rw [hm]; exact wF_X0_21) hd ha hk k
theorem wF_X10_102 : Cond.fieldLink RX10 102 (TX0 1).1 (TX0 1).2.1 (TX0 1).2.2.1 ∈ lw_g := lw_g_of 208 (by decide +kernel) rfl
theorem gf_X10_102 {κ : Nat → Nat} {N d : Nat} {mi : gMI} {pc : Nat} {lv : List (Nat × Value)} {sk : List Value} {μ : gMem} {Q : rQ} {a : Nat} (hm : mi.1 = RX10) (hd : decode mi.2.1 pc = .ok (.getfield 102, 3)) (ha : a < N) (hk : kd a = 0) (k : RR κ N d mi (pc + 3) lv (.ref (κ 0 + 12) :: sk) μ Q) : RR κ N d mi pc lv (.ref (κ 0 + a) :: sk) μ Q := r_getR 1 12 gC0 (by decide) rfl (by rw [hm]; exact wF_X10_102) hd ha hk k
theorem wF_X0_25 : Cond.fieldLink RX0 25 (TX0 2).1 (TX0 2).2.1 (TX0 2).2.2.1 ∈ lw_g := lw_g_of 209 (by decide +kernel) rfl
theorem gf_X0_25 {κ : Nat → Nat} {N d : Nat} {mi : gMI} {pc : Nat} {lv : List (Nat × Value)} {sk : List Value} {μ : gMem} {Q : rQ} {a : Nat} (hm : mi.1 = RX0) (hd : decode mi.2.1 pc = .ok (.getfield 25, 3)) (ha : a < N) (hk : kd a = 0) (k : RR κ N d mi (pc + 3) lv (.ref (κ 0 + 13) :: sk) μ Q) : RR κ N d mi pc lv (.ref (κ 0 + a) :: sk) μ Q := r_getR 2 13 gC0 (by decide) rfl (by rw [hm]; exact wF_X0_25) hd ha hk k
theorem wF_X10_105 : Cond.fieldLink RX10 105 (TX0 2).1 (TX0 2).2.1 (TX0 2).2.2.1 ∈ lw_g := lw_g_of 210 (by decide +kernel) rfl
theorem gf_X10_105 {κ : Nat → Nat} {N d : Nat} {mi : gMI} {pc : Nat} {lv : List (Nat × Value)} {sk : List Value} {μ : gMem} {Q : rQ} {a : Nat} (hm : mi.1 = RX10) (hd : decode mi.2.1 pc = .ok (.getfield 105, 3)) (ha : a < N) (hk : kd a = 0) (k : RR κ N d mi (pc + 3) lv (.ref (κ 0 + 13) :: sk) μ Q) : RR κ N d mi pc lv (.ref (κ 0 + a) :: sk) μ Q := r_getR 2 13 gC0 (by decide) rfl (by rw [hm]; exact wF_X10_105) hd ha hk k
theorem wF_X0_28 : Cond.fieldLink RX0 28 (TX0 3).1 (TX0 3).2.1 (TX0 3).2.2.1 ∈ lw_g := lw_g_of 211 (by decide +kernel) rfl
theorem gf_X0_28 {κ : Nat → Nat} {N d : Nat} {mi : gMI} {pc : Nat} {lv : List (Nat × Value)} {sk : List Value} {μ : gMem} {Q : rQ} {a : Nat} (hm : mi.1 = RX0) (hd : decode mi.2.1 pc = .ok (.getfield 28, 3)) (ha : a < N) (hk : kd a = 0) (k : RR κ N d mi (pc + 3) lv (.ref (κ 0 + 14) :: sk) μ Q) : RR κ N d mi pc lv (.ref (κ 0 + a) :: sk) μ Q := r_getR 3 14 gC0 (by decide) rfl (by rw [hm]; exact wF_X0_28) hd ha hk k
theorem wF_X10_108 : Cond.fieldLink RX10 108 (TX0 3).1 (TX0 3).2.1 (TX0 3).2.2.1 ∈ lw_g := lw_g_of 212 (by decide +kernel) rfl
theorem gf_X10_108 {κ : Nat → Nat} {N d : Nat} {mi : gMI} {pc : Nat} {lv : List (Nat × Value)} {sk : List Value} {μ : gMem} {Q : rQ} {a : Nat} (hm : mi.1 = RX10) (hd : decode mi.2.1 pc = .ok (.getfield 108, 3)) (ha : a < N) (hk : kd a = 0) (k : RR κ N d mi (pc + 3) lv (.ref (κ 0 + 14) :: sk) μ Q) : RR κ N d mi pc lv (.ref (κ 0 + a) :: sk) μ Q := r_getR 3 14 gC0 (by decide) rfl (by rw [hm]; exact wF_X10_108) hd ha hk k
theorem wF_X0_31 : Cond.fieldLink RX0 31 (TX0 4).1 (TX0 4).2.1 (TX0 4).2.2.1 ∈ lw_g := lw_g_of 213 (by decide +kernel) rfl
theorem gf_X0_31 {κ : Nat → Nat} {N d : Nat} {mi : gMI} {pc : Nat} {lv : List (Nat × Value)} {sk : List Value} {μ : gMem} {Q : rQ} {a : Nat} (hm : mi.1 = RX0) (hd : decode mi.2.1 pc = .ok (.getfield 31, 3)) (ha : a < N) (hk : kd a = 0) (k : RR κ N d mi (pc + 3) lv (.ref (κ 0 + 15) :: sk) μ Q) : RR κ N d mi pc lv (.ref (κ 0 + a) :: sk) μ Q := r_getR 4 15 gC0 (by decide) rfl (by rw [hm]; exact wF_X0_31) hd ha hk k
theorem wF_X10_111 : Cond.fieldLink RX10 111 (TX0 4).1 (TX0 4).2.1 (TX0 4).2.2.1 ∈ lw_g := lw_g_of 214 (by decide +kernel) rfl
theorem gf_X10_111 {κ : Nat → Nat} {N d : Nat} {mi : gMI} {pc : Nat} {lv : List (Nat × Value)} {sk : List Value} {μ : gMem} {Q : rQ} {a : Nat} (hm : mi.1 = RX10) (hd : decode mi.2.1 pc = .ok (.getfield 111, 3)) (ha : a < N) (hk : kd a = 0) (k : RR κ N d mi (pc + 3) lv (.ref (κ 0 + 15) :: sk) μ Q) : RR κ N d mi pc lv (.ref (κ 0 + a) :: sk) μ Q := r_getR 4 15 gC0 (by decide) rfl (by rw [hm]; exact wF_X10_111) hd ha hk k
theorem wF_X0_38 : Cond.fieldLink RX0 38 (TX0 5).1 (TX0 5).2.1 (TX0 5).2.2.1 ∈ lw_g := lw_g_of 215 (by decide +kernel) rfl
theorem gf_X0_38 {κ : Nat → Nat} {N d : Nat} {mi : gMI} {pc : Nat} {lv : List (Nat × Value)} {sk : List Value} {μ : gMem} {Q : rQ} {a : Nat} (hm : mi.1 = RX0) (hd : decode mi.2.1 pc = .ok (.getfield 38, 3)) (ha : a < N) (hk : kd a = 0) (k : RR κ N d mi (pc + 3) lv (.int (μ a 5) :: sk) μ Q) : RR κ N d mi pc lv (.ref (κ 0 + a) :: sk) μ Q := r_getI 5 gC0 (by decide) (fun _ => rfl) (by rw [hm]; exact wF_X0_38) hd ha hk k
theorem pf_X0_38 {κ : Nat → Nat} {N d : Nat} {mi : gMI} {pc : Nat} {lv : List (Nat × Value)} {sk : List Value} {μ : gMem} {Q : rQ} {a : Nat} {v : Int32} (hm : mi.1 = RX0) (hd : decode mi.2.1 pc = .ok (.putfield 38, 3)) (ha : a < N) (hk : kd a = 0) (k : ∀ m : gMem, m = st μ a 5 v → RR κ N d mi (pc + 3) lv sk m Q) : RR κ N d mi pc lv (.int v :: .ref (κ 0 + a) :: sk) μ Q := r_putI 5 gC0 (by decide) (fun _ => rfl) ⟨rfl, rfl⟩ (by rw [hm]; exact wF_X0_38) hd ha hk k
theorem wF_X10_101 : Cond.fieldLink RX10 101 (TX0 5).1 (TX0 5).2.1 (TX0 5).2.2.1 ∈ lw_g := lw_g_of 216 (by decide +kernel) rfl
theorem gf_X10_101 {κ : Nat → Nat} {N d : Nat} {mi : gMI} {pc : Nat} {lv : List (Nat × Value)} {sk : List Value} {μ : gMem} {Q : rQ} {a : Nat} (hm : mi.1 = RX10) (hd : decode mi.2.1 pc = .ok (.getfield 101, 3)) (ha : a < N) (hk : kd a = 0) (k : RR κ N d mi (pc + 3) lv (.int (μ a 5) :: sk) μ Q) : RR κ N d mi pc lv (.ref (κ 0 + a) :: sk) μ Q := r_getI 5 gC0 (by decide) (fun _ => rfl) (by rw [hm]; exact wF_X10_101) hd ha hk k
theorem pf_X10_101 {κ : Nat → Nat} {N d : Nat} {mi : gMI} {pc : Nat} {lv : List (Nat × Value)} {sk : List Value} {μ : gMem} {Q : rQ} {a : Nat} {v : Int32} (hm : mi.1 = RX10) (hd : decode mi.2.1 pc = .ok (.putfield 101, 3)) (ha : a < N) (hk : kd a = 0) (k : ∀ m : gMem, m = st μ a 5 v → RR κ N d mi (pc + 3) lv sk m Q) : RR κ N d mi pc lv (.int v :: .ref (κ 0 + a) :: sk) μ Q := r_putI 5 gC0 (by decide) (fun _ => rfl) ⟨rfl, rfl⟩ (by rw [hm]; exact wF_X10_101) hd ha hk k
theorem wF_X0_34 : Cond.fieldLink RX0 34 (TX0 6).1 (TX0 6).2.1 (TX0 6).2.2.1 ∈ lw_g := lw_g_of 217 (by decide +kernel) rfl
theorem gf_X0_34 {κ : Nat → Nat} {N d : Nat} {mi : gMI} {pc : Nat} {lv : List (Nat × Value)} {sk : List Value} {μ : gMem} {Q : rQ} {a : Nat} (hm : mi.1 = RX0) (hd : decode mi.2.1 pc = .ok (.getfield 34, 3)) (ha : a < N) (hk : kd a = 0) (k : RR κ N d mi (pc + 3) lv (.int (μ a 6) :: sk) μ Q) : RR κ N d mi pc lv (.ref (κ 0 + a) :: sk) μ Q := r_getI 6 gC0 (by decide) (fun _ => rfl) (by rw [hm]; exact wF_X0_34) hd ha hk k
theorem pf_X0_34 {κ : Nat → Nat} {N d : Nat} {mi : gMI} {pc : Nat} {lv : List (Nat × Value)} {sk : List Value} {μ : gMem} {Q : rQ} {a : Nat} {v : Int32} (hm : mi.1 = RX0) (hd : decode mi.2.1 pc = .ok (.putfield 34, 3)) (ha : a < N) (hk : kd a = 0) (k : ∀ m : gMem, m = st μ a 6 v → RR κ N d mi (pc + 3) lv sk m Q) : RR κ N d mi pc lv (.int v :: .ref (κ 0 + a) :: sk) μ Q := r_putI 6 gC0 (by decide) (fun _ => rfl) ⟨rfl, rfl⟩ (by rw [hm]; exact wF_X0_34) hd ha hk k
theorem wF_X8_9 : Cond.fieldLink RX8 9 (TX8 0).1 (TX8 0).2.1 (TX8 0).2.2.1 ∈ lw_g := lw_g_of 246 (by decide +kernel) rfl
theorem gf_X8_9 {κ : Nat → Nat} {N d : Nat} {mi : gMI} {pc : Nat} {lv : List (Nat × Value)} {sk : List Value} {μ : gMem} {Q : rQ} {a : Nat} (hm : mi.1 = RX8) (hd : decode mi.2.1 pc = .ok (.getfield 9, 3)) (ha : a < N) (hk : kd a = 8) (k : RR κ N d mi (pc + 3) lv (.int (μ a 0) :: sk) μ Q) : RR κ N d mi pc lv (.ref (κ 0 + a) :: sk) μ Q := r_getI 0 gC8 (by decide) (fun _ => rfl) (by rw [hm]; exact wF_X8_9) hd ha hk k
theorem pf_X8_9 {κ : Nat → Nat} {N d : Nat} {mi : gMI} {pc : Nat} {lv : List (Nat × Value)} {sk : List Value} {μ : gMem} {Q : rQ} {a : Nat} {v : Int32} (hm : mi.1 = RX8) (hd : decode mi.2.1 pc = .ok (.putfield 9, 3)) (ha : a < N) (hk : kd a = 8) (k : ∀ m : gMem, m = st μ a 0 v → RR κ N d mi (pc + 3) lv sk m Q) : RR κ N d mi pc lv (.int v :: .ref (κ 0 + a) :: sk) μ Q := r_putI 0 gC8 (by decide) (fun _ => rfl) ⟨rfl, rfl⟩ (by rw [hm]; exact wF_X8_9) hd ha hk k
theorem wF_X1_63 : Cond.fieldLink RX1 63 (TX8 0).1 (TX8 0).2.1 (TX8 0).2.2.1 ∈ lw_g := lw_g_of 247 (by decide +kernel) rfl
theorem gf_X1_63 {κ : Nat → Nat} {N d : Nat} {mi : gMI} {pc : Nat} {lv : List (Nat × Value)} {sk : List Value} {μ : gMem} {Q : rQ} {a : Nat} (hm : mi.1 = RX1) (hd : decode mi.2.1 pc = .ok (.getfield 63, 3)) (ha : a < N) (hk : kd a = 8) (k : RR κ N d mi (pc + 3) lv (.int (μ a 0) :: sk) μ Q) : RR κ N d mi pc lv (.ref (κ 0 + a) :: sk) μ Q := r_getI 0 gC8 (by decide) (fun _ => rfl) (by rw [hm]; exact wF_X1_63) hd ha hk k
theorem pf_X1_63 {κ : Nat → Nat} {N d : Nat} {mi : gMI} {pc : Nat} {lv : List (Nat × Value)} {sk : List Value} {μ : gMem} {Q : rQ} {a : Nat} {v : Int32} (hm : mi.1 = RX1) (hd : decode mi.2.1 pc = .ok (.putfield 63, 3)) (ha : a < N) (hk : kd a = 8) (k : ∀ m : gMem, m = st μ a 0 v → RR κ N d mi (pc + 3) lv sk m Q) : RR κ N d mi pc lv (.int v :: .ref (κ 0 + a) :: sk) μ Q := r_putI 0 gC8 (by decide) (fun _ => rfl) ⟨rfl, rfl⟩ (by rw [hm]; exact wF_X1_63) hd ha hk k
theorem wF_X5_70 : Cond.fieldLink RX5 70 (TX8 0).1 (TX8 0).2.1 (TX8 0).2.2.1 ∈ lw_g := lw_g_of 248 (by decide +kernel) rfl
theorem gf_X5_70 {κ : Nat → Nat} {N d : Nat} {mi : gMI} {pc : Nat} {lv : List (Nat × Value)} {sk : List Value} {μ : gMem} {Q : rQ} {a : Nat} (hm : mi.1 = RX5) (hd : decode mi.2.1 pc = .ok (.getfield 70, 3)) (ha : a < N) (hk : kd a = 8) (k : RR κ N d mi (pc + 3) lv (.int (μ a 0) :: sk) μ Q) : RR κ N d mi pc lv (.ref (κ 0 + a) :: sk) μ Q := r_getI 0 gC8 (by decide) (fun _ => rfl) (by rw [hm]; exact wF_X5_70) hd ha hk k
theorem pf_X5_70 {κ : Nat → Nat} {N d : Nat} {mi : gMI} {pc : Nat} {lv : List (Nat × Value)} {sk : List Value} {μ : gMem} {Q : rQ} {a : Nat} {v : Int32} (hm : mi.1 = RX5) (hd : decode mi.2.1 pc = .ok (.putfield 70, 3)) (ha : a < N) (hk : kd a = 8) (k : ∀ m : gMem, m = st μ a 0 v → RR κ N d mi (pc + 3) lv sk m Q) : RR κ N d mi pc lv (.int v :: .ref (κ 0 + a) :: sk) μ Q := r_putI 0 gC8 (by decide) (fun _ => rfl) ⟨rfl, rfl⟩ (by rw [hm]; exact wF_X5_70) hd ha hk k
theorem wF_X10_152 : Cond.fieldLink RX10 152 (TX8 0).1 (TX8 0).2.1 (TX8 0).2.2.1 ∈ lw_g := lw_g_of 249 (by decide +kernel) rfl
theorem gf_X10_152 {κ : Nat → Nat} {N d : Nat} {mi : gMI} {pc : Nat} {lv : List (Nat × Value)} {sk : List Value} {μ : gMem} {Q : rQ} {a : Nat} (hm : mi.1 = RX10) (hd : decode mi.2.1 pc = .ok (.getfield 152, 3)) (ha : a < N) (hk : kd a = 8) (k : RR κ N d mi (pc + 3) lv (.int (μ a 0) :: sk) μ Q) : RR κ N d mi pc lv (.ref (κ 0 + a) :: sk) μ Q := r_getI 0 gC8 (by decide) (fun _ => rfl) (by rw [hm]; exact wF_X10_152) hd ha hk k
theorem pf_X10_152 {κ : Nat → Nat} {N d : Nat} {mi : gMI} {pc : Nat} {lv : List (Nat × Value)} {sk : List Value} {μ : gMem} {Q : rQ} {a : Nat} {v : Int32} (hm : mi.1 = RX10) (hd : decode mi.2.1 pc = .ok (.putfield 152, 3)) (ha : a < N) (hk : kd a = 8) (k : ∀ m : gMem, m = st μ a 0 v → RR κ N d mi (pc + 3) lv sk m Q) : RR κ N d mi pc lv (.int v :: .ref (κ 0 + a) :: sk) μ Q := r_putI 0 gC8 (by decide) (fun _ => rfl) ⟨rfl, rfl⟩ (by rw [hm]; exact wF_X10_152) hd ha hk k
theorem wF_X8_15 : Cond.fieldLink RX8 15 (TX8 1).1 (TX8 1).2.1 (TX8 1).2.2.1 ∈ lw_g := lw_g_of 250 (by decide +kernel) rfl
theorem gf_X8_15 {κ : Nat → Nat} {N d : Nat} {mi : gMI} {pc : Nat} {lv : List (Nat × Value)} {sk : List Value} {μ : gMem} {Q : rQ} {a : Nat} (hm : mi.1 = RX8) (hd : decode mi.2.1 pc = .ok (.getfield 15, 3)) (ha : a < N) (hk : kd a = 8) (k : RR κ N d mi (pc + 3) lv (.int (μ a 1) :: sk) μ Q) : RR κ N d mi pc lv (.ref (κ 0 + a) :: sk) μ Q := r_getI 1 gC8 (by decide) (fun _ => rfl) (by rw [hm]; exact wF_X8_15) hd ha hk k
theorem pf_X8_15 {κ : Nat → Nat} {N d : Nat} {mi : gMI} {pc : Nat} {lv : List (Nat × Value)} {sk : List Value} {μ : gMem} {Q : rQ} {a : Nat} {v : Int32} (hm : mi.1 = RX8) (hd : decode mi.2.1 pc = .ok (.putfield 15, 3)) (ha : a < N) (hk : kd a = 8) (k : ∀ m : gMem, m = st μ a 1 v → RR κ N d mi (pc + 3) lv sk m Q) : RR κ N d mi pc lv (.int v :: .ref (κ 0 + a) :: sk) μ Q := r_putI 1 gC8 (by decide) (fun _ => rfl) ⟨rfl, rfl⟩ (by rw [hm]; exact wF_X8_15) hd ha hk k
theorem wF_X10_157 : Cond.fieldLink RX10 157 (TX8 1).1 (TX8 1).2.1 (TX8 1).2.2.1 ∈ lw_g := lw_g_of 251 (by decide +kernel) rfl
theorem gf_X10_157 {κ : Nat → Nat} {N d : Nat} {mi : gMI} {pc : Nat} {lv : List (Nat × Value)} {sk : List Value} {μ : gMem} {Q : rQ} {a : Nat} (hm : mi.1 = RX10) (hd : decode mi.2.1 pc = .ok (.getfield 157, 3)) (ha : a < N) (hk : kd a = 8) (k : RR κ N d mi (pc + 3) lv (.int (μ a 1) :: sk) μ Q) : RR κ N d mi pc lv (.ref (κ 0 + a) :: sk) μ Q := r_getI 1 gC8 (by decide) (fun _ => rfl) (by rw [hm]; exact wF_X10_157) hd ha hk k
theorem pf_X10_157 {κ : Nat → Nat} {N d : Nat} {mi : gMI} {pc : Nat} {lv : List (Nat × Value)} {sk : List Value} {μ : gMem} {Q : rQ} {a : Nat} {v : Int32} (hm : mi.1 = RX10) (hd : decode mi.2.1 pc = .ok (.putfield 157, 3)) (ha : a < N) (hk : kd a = 8) (k : ∀ m : gMem, m = st μ a 1 v → RR κ N d mi (pc + 3) lv sk m Q) : RR κ N d mi pc lv (.int v :: .ref (κ 0 + a) :: sk) μ Q := r_putI 1 gC8 (by decide) (fun _ => rfl) ⟨rfl, rfl⟩ (by rw [hm]; exact wF_X10_157) hd ha hk k
theorem wF_X8_18 : Cond.fieldLink RX8 18 (TX8 2).1 (TX8 2).2.1 (TX8 2).2.2.1 ∈ lw_g := lw_g_of 252 (by decide +kernel) rfl
theorem gf_X8_18 {κ : Nat → Nat} {N d : Nat} {mi : gMI} {pc : Nat} {lv : List (Nat × Value)} {sk : List Value} {μ : gMem} {Q : rQ} {a : Nat} (hm : mi.1 = RX8) (hd : decode mi.2.1 pc = .ok (.getfield 18, 3)) (ha : a < N) (hk : kd a = 8) (k : RR κ N d mi (pc + 3) lv (.int (μ a 2) :: sk) μ Q) : RR κ N d mi pc lv (.ref (κ 0 + a) :: sk) μ Q := r_getI 2 gC8 (by decide) (fun _ => rfl) (by rw [hm]; exact wF_X8_18) hd ha hk k
theorem pf_X8_18 {κ : Nat → Nat} {N d : Nat} {mi : gMI} {pc : Nat} {lv : List (Nat × Value)} {sk : List Value} {μ : gMem} {Q : rQ} {a : Nat} {v : Int32} (hm : mi.1 = RX8) (hd : decode mi.2.1 pc = .ok (.putfield 18, 3)) (ha : a < N) (hk : kd a = 8) (k : ∀ m : gMem, m = st μ a 2 v → RR κ N d mi (pc + 3) lv sk m Q) : RR κ N d mi pc lv (.int v :: .ref (κ 0 + a) :: sk) μ Q := r_putI 2 gC8 (by decide) (fun _ => rfl) ⟨rfl, rfl⟩ (by rw [hm]; exact wF_X8_18) hd ha hk k
theorem wF_X10_160 : Cond.fieldLink RX10 160 (TX8 2).1 (TX8 2).2.1 (TX8 2).2.2.1 ∈ lw_g := lw_g_of 253 (by decide +kernel) rfl
theorem gf_X10_160 {κ : Nat → Nat} {N d : Nat} {mi : gMI} {pc : Nat} {lv : List (Nat × Value)} {sk : List Value} {μ : gMem} {Q : rQ} {a : Nat} (hm : mi.1 = RX10) (hd : decode mi.2.1 pc = .ok (.getfield 160, 3)) (ha : a < N) (hk : kd a = 8) (k : RR κ N d mi (pc + 3) lv (.int (μ a 2) :: sk) μ Q) : RR κ N d mi pc lv (.ref (κ 0 + a) :: sk) μ Q := r_getI 2 gC8 (by decide) (fun _ => rfl) (by rw [hm]; exact wF_X10_160) hd ha hk k
theorem pf_X10_160 {κ : Nat → Nat} {N d : Nat} {mi : gMI} {pc : Nat} {lv : List (Nat × Value)} {sk : List Value} {μ : gMem} {Q : rQ} {a : Nat} {v : Int32} (hm : mi.1 = RX10) (hd : decode mi.2.1 pc = .ok (.putfield 160, 3)) (ha : a < N) (hk : kd a = 8) (k : ∀ m : gMem, m = st μ a 2 v → RR κ N d mi (pc + 3) lv sk m Q) : RR κ N d mi pc lv (.int v :: .ref (κ 0 + a) :: sk) μ Q := r_putI 2 gC8 (by decide) (fun _ => rfl) ⟨rfl, rfl⟩ (by rw [hm]; exact wF_X10_160) hd ha hk k
theorem wF_X8_21 : Cond.fieldLink RX8 21 (TX8 3).1 (TX8 3).2.1 (TX8 3).2.2.1 ∈ lw_g := lw_g_of 254 (by decide +kernel) rfl
theorem gf_X8_21 {κ : Nat → Nat} {N d : Nat} {mi : gMI} {pc : Nat} {lv : List (Nat × Value)} {sk : List Value} {μ : gMem} {Q : rQ} {a : Nat} (hm : mi.1 = RX8) (hd : decode mi.2.1 pc = .ok (.getfield 21, 3)) (ha : a < N) (hk : kd a = 8) (k : RR κ N d mi (pc + 3) lv (.int (μ a 3) :: sk) μ Q) : RR κ N d mi pc lv (.ref (κ 0 + a) :: sk) μ Q := r_getI 3 gC8 (by decide) (fun _ => rfl) (by rw [hm]; exact wF_X8_21) hd ha hk k
theorem pf_X8_21 {κ : Nat → Nat} {N d : Nat} {mi : gMI} {pc : Nat} {lv : List (Nat × Value)} {sk : List Value} {μ : gMem} {Q : rQ} {a : Nat} {v : Int32} (hm : mi.1 = RX8) (hd : decode mi.2.1 pc = .ok (.putfield 21, 3)) (ha : a < N) (hk : kd a = 8) (k : ∀ m : gMem, m = st μ a 3 v → RR κ N d mi (pc + 3) lv sk m Q) : RR κ N d mi pc lv (.int v :: .ref (κ 0 + a) :: sk) μ Q := r_putI 3 gC8 (by decide) (fun _ => rfl) ⟨rfl, rfl⟩ (by rw [hm]; exact wF_X8_21) hd ha hk k
theorem wF_X10_163 : Cond.fieldLink RX10 163 (TX8 3).1 (TX8 3).2.1 (TX8 3).2.2.1 ∈ lw_g := lw_g_of 255 (by decide +kernel) rfl
theorem gf_X10_163 {κ : Nat → Nat} {N d : Nat} {mi : gMI} {pc : Nat} {lv : List (Nat × Value)} {sk : List Value} {μ : gMem} {Q : rQ} {a : Nat} (hm : mi.1 = RX10) (hd : decode mi.2.1 pc = .ok (.getfield 163, 3)) (ha : a < N) (hk : kd a = 8) (k : RR κ N d mi (pc + 3) lv (.int (μ a 3) :: sk) μ Q) : RR κ N d mi pc lv (.ref (κ 0 + a) :: sk) μ Q := r_getI 3 gC8 (by decide) (fun _ => rfl) (by rw [hm]; exact wF_X10_163) hd ha hk k
theorem pf_X10_163 {κ : Nat → Nat} {N d : Nat} {mi : gMI} {pc : Nat} {lv : List (Nat × Value)} {sk : List Value} {μ : gMem} {Q : rQ} {a : Nat} {v : Int32} (hm : mi.1 = RX10) (hd : decode mi.2.1 pc = .ok (.putfield 163, 3)) (ha : a < N) (hk : kd a = 8) (k : ∀ m : gMem, m = st μ a 3 v → RR κ N d mi (pc + 3) lv sk m Q) : RR κ N d mi pc lv (.int v :: .ref (κ 0 + a) :: sk) μ Q := r_putI 3 gC8 (by decide) (fun _ => rfl) ⟨rfl, rfl⟩ (by rw [hm]; exact wF_X10_163) hd ha hk k
theorem wF_X8_24 : Cond.fieldLink RX8 24 (TX8 4).1 (TX8 4).2.1 (TX8 4).2.2.1 ∈ lw_g := lw_g_of 256 (by decide +kernel) rfl
theorem gf_X8_24 {κ : Nat → Nat} {N d : Nat} {mi : gMI} {pc : Nat} {lv : List (Nat × Value)} {sk : List Value} {μ : gMem} {Q : rQ} {a : Nat} (hm : mi.1 = RX8) (hd : decode mi.2.1 pc = .ok (.getfield 24, 3)) (ha : a < N) (hk : kd a = 8) (k : RR κ N d mi (pc + 3) lv (.int (μ a 4) :: sk) μ Q) : RR κ N d mi pc lv (.ref (κ 0 + a) :: sk) μ Q := r_getI 4 gC8 (by decide) (fun _ => rfl) (by rw [hm]; exact wF_X8_24) hd ha hk k
theorem pf_X8_24 {κ : Nat → Nat} {N d : Nat} {mi : gMI} {pc : Nat} {lv : List (Nat × Value)} {sk : List Value} {μ : gMem} {Q : rQ} {a : Nat} {v : Int32} (hm : mi.1 = RX8) (hd : decode mi.2.1 pc = .ok (.putfield 24, 3)) (ha : a < N) (hk : kd a = 8) (k : ∀ m : gMem, m = st μ a 4 v → RR κ N d mi (pc + 3) lv sk m Q) : RR κ N d mi pc lv (.int v :: .ref (κ 0 + a) :: sk) μ Q := r_putI 4 gC8 (by decide) (fun _ => rfl) ⟨rfl, rfl⟩ (by rw [hm]; exact wF_X8_24) hd ha hk k
theorem wF_X2_57 : Cond.fieldLink RX2 57 (TX8 4).1 (TX8 4).2.1 (TX8 4).2.2.1 ∈ lw_g := lw_g_of 257 (by decide +kernel) rfl
theorem gf_X2_57 {κ : Nat → Nat} {N d : Nat} {mi : gMI} {pc : Nat} {lv : List (Nat × Value)} {sk : List Value} {μ : gMem} {Q : rQ} {a : Nat} (hm : mi.1 = RX2) (hd : decode mi.2.1 pc = .ok (.getfield 57, 3)) (ha : a < N) (hk : kd a = 8) (k : RR κ N d mi (pc + 3) lv (.int (μ a 4) :: sk) μ Q) : RR κ N d mi pc lv (.ref (κ 0 + a) :: sk) μ Q := r_getI 4 gC8 (by decide) (fun _ => rfl) (by rw [hm]; exact wF_X2_57) hd ha hk k
theorem pf_X2_57 {κ : Nat → Nat} {N d : Nat} {mi : gMI} {pc : Nat} {lv : List (Nat × Value)} {sk : List Value} {μ : gMem} {Q : rQ} {a : Nat} {v : Int32} (hm : mi.1 = RX2) (hd : decode mi.2.1 pc = .ok (.putfield 57, 3)) (ha : a < N) (hk : kd a = 8) (k : ∀ m : gMem, m = st μ a 4 v → RR κ N d mi (pc + 3) lv sk m Q) : RR κ N d mi pc lv (.int v :: .ref (κ 0 + a) :: sk) μ Q := r_putI 4 gC8 (by decide) (fun _ => rfl) ⟨rfl, rfl⟩ (by rw [hm]; exact wF_X2_57) hd ha hk k
theorem wF_X10_166 : Cond.fieldLink RX10 166 (TX8 4).1 (TX8 4).2.1 (TX8 4).2.2.1 ∈ lw_g := lw_g_of 258 (by decide +kernel) rfl
theorem gf_X10_166 {κ : Nat → Nat} {N d : Nat} {mi : gMI} {pc : Nat} {lv : List (Nat × Value)} {sk : List Value} {μ : gMem} {Q : rQ} {a : Nat} (hm : mi.1 = RX10) (hd : decode mi.2.1 pc = .ok (.getfield 166, 3)) (ha : a < N) (hk : kd a = 8) (k : RR κ N d mi (pc + 3) lv (.int (μ a 4) :: sk) μ Q) : RR κ N d mi pc lv (.ref (κ 0 + a) :: sk) μ Q := r_getI 4 gC8 (by decide) (fun _ => rfl) (by rw [hm]; exact wF_X10_166) hd ha hk k
theorem pf_X10_166 {κ : Nat → Nat} {N d : Nat} {mi : gMI} {pc : Nat} {lv : List (Nat × Value)} {sk : List Value} {μ : gMem} {Q : rQ} {a : Nat} {v : Int32} (hm : mi.1 = RX10) (hd : decode mi.2.1 pc = .ok (.putfield 166, 3)) (ha : a < N) (hk : kd a = 8) (k : ∀ m : gMem, m = st μ a 4 v → RR κ N d mi (pc + 3) lv sk m Q) : RR κ N d mi pc lv (.int v :: .ref (κ 0 + a) :: sk) μ Q := r_putI 4 gC8 (by decide) (fun _ => rfl) ⟨rfl, rfl⟩ (by rw [hm]; exact wF_X10_166) hd ha hk k
theorem wF_X5_18 : Cond.fieldLink RX5 18 (TX5 0).1 (TX5 0).2.1 (TX5 0).2.2.1 ∈ lw_g := lw_g_of 270 (by decide +kernel) rfl
theorem gf_X5_18 {κ : Nat → Nat} {N d : Nat} {mi : gMI} {pc : Nat} {lv : List (Nat × Value)} {sk : List Value} {μ : gMem} {Q : rQ} {a : Nat} (hm : mi.1 = RX5) (hd : decode mi.2.1 pc = .ok (.getfield 18, 3)) (ha : a < N) (hk : kd a = 5) (k : RR κ N d mi (pc + 3) lv (.int (μ a 0) :: sk) μ Q) : RR κ N d mi pc lv (.ref (κ 0 + a) :: sk) μ Q := r_getI 0 gC5 (by decide) (fun _ => rfl) (by rw [hm]; exact wF_X5_18) hd ha hk k
theorem pf_X5_18 {κ : Nat → Nat} {N d : Nat} {mi : gMI} {pc : Nat} {lv : List (Nat × Value)} {sk : List Value} {μ : gMem} {Q : rQ} {a : Nat} {v : Int32} (hm : mi.1 = RX5) (hd : decode mi.2.1 pc = .ok (.putfield 18, 3)) (ha : a < N) (hk : kd a = 5) (k : ∀ m : gMem, m = st μ a 0 v → RR κ N d mi (pc + 3) lv sk m Q) : RR κ N d mi pc lv (.int v :: .ref (κ 0 + a) :: sk) μ Q := r_putI 0 gC5 (by decide) (fun _ => rfl) ⟨rfl, rfl⟩ (by rw [hm]; exact wF_X5_18) hd ha hk k
theorem wF_X2_47 : Cond.fieldLink RX2 47 (TX5 0).1 (TX5 0).2.1 (TX5 0).2.2.1 ∈ lw_g := lw_g_of 271 (by decide +kernel) rfl
theorem gf_X2_47 {κ : Nat → Nat} {N d : Nat} {mi : gMI} {pc : Nat} {lv : List (Nat × Value)} {sk : List Value} {μ : gMem} {Q : rQ} {a : Nat} (hm : mi.1 = RX2) (hd : decode mi.2.1 pc = .ok (.getfield 47, 3)) (ha : a < N) (hk : kd a = 5) (k : RR κ N d mi (pc + 3) lv (.int (μ a 0) :: sk) μ Q) : RR κ N d mi pc lv (.ref (κ 0 + a) :: sk) μ Q := r_getI 0 gC5 (by decide) (fun _ => rfl) (by rw [hm]; exact wF_X2_47) hd ha hk k
theorem pf_X2_47 {κ : Nat → Nat} {N d : Nat} {mi : gMI} {pc : Nat} {lv : List (Nat × Value)} {sk : List Value} {μ : gMem} {Q : rQ} {a : Nat} {v : Int32} (hm : mi.1 = RX2) (hd : decode mi.2.1 pc = .ok (.putfield 47, 3)) (ha : a < N) (hk : kd a = 5) (k : ∀ m : gMem, m = st μ a 0 v → RR κ N d mi (pc + 3) lv sk m Q) : RR κ N d mi pc lv (.int v :: .ref (κ 0 + a) :: sk) μ Q := r_putI 0 gC5 (by decide) (fun _ => rfl) ⟨rfl, rfl⟩ (by rw [hm]; exact wF_X2_47) hd ha hk k
theorem wF_X1_86 : Cond.fieldLink RX1 86 (TX5 0).1 (TX5 0).2.1 (TX5 0).2.2.1 ∈ lw_g := lw_g_of 272 (by decide +kernel) rfl
theorem gf_X1_86 {κ : Nat → Nat} {N d : Nat} {mi : gMI} {pc : Nat} {lv : List (Nat × Value)} {sk : List Value} {μ : gMem} {Q : rQ} {a : Nat} (hm : mi.1 = RX1) (hd : decode mi.2.1 pc = .ok (.getfield 86, 3)) (ha : a < N) (hk : kd a = 5) (k : RR κ N d mi (pc + 3) lv (.int (μ a 0) :: sk) μ Q) : RR κ N d mi pc lv (.ref (κ 0 + a) :: sk) μ Q := r_getI 0 gC5 (by decide) (fun _ => rfl) (by rw [hm]; exact wF_X1_86) hd ha hk k
theorem pf_X1_86 {κ : Nat → Nat} {N d : Nat} {mi : gMI} {pc : Nat} {lv : List (Nat × Value)} {sk : List Value} {μ : gMem} {Q : rQ} {a : Nat} {v : Int32} (hm : mi.1 = RX1) (hd : decode mi.2.1 pc = .ok (.putfield 86, 3)) (ha : a < N) (hk : kd a = 5) (k : ∀ m : gMem, m = st μ a 0 v → RR κ N d mi (pc + 3) lv sk m Q) : RR κ N d mi pc lv (.int v :: .ref (κ 0 + a) :: sk) μ Q := r_putI 0 gC5 (by decide) (fun _ => rfl) ⟨rfl, rfl⟩ (by rw [hm]; exact wF_X1_86) hd ha hk k
theorem wF_X10_205 : Cond.fieldLink RX10 205 (TX5 0).1 (TX5 0).2.1 (TX5 0).2.2.1 ∈ lw_g := lw_g_of 273 (by decide +kernel) rfl
theorem gf_X10_205 {κ : Nat → Nat} {N d : Nat} {mi : gMI} {pc : Nat} {lv : List (Nat × Value)} {sk : List Value} {μ : gMem} {Q : rQ} {a : Nat} (hm : mi.1 = RX10) (hd : decode mi.2.1 pc = .ok (.getfield 205, 3)) (ha : a < N) (hk : kd a = 5) (k : RR κ N d mi (pc + 3) lv (.int (μ a 0) :: sk) μ Q) : RR κ N d mi pc lv (.ref (κ 0 + a) :: sk) μ Q := r_getI 0 gC5 (by decide) (fun _ => rfl) (by rw [hm]; exact wF_X10_205) hd ha hk k
theorem pf_X10_205 {κ : Nat → Nat} {N d : Nat} {mi : gMI} {pc : Nat} {lv : List (Nat × Value)} {sk : List Value} {μ : gMem} {Q : rQ} {a : Nat} {v : Int32} (hm : mi.1 = RX10) (hd : decode mi.2.1 pc = .ok (.putfield 205, 3)) (ha : a < N) (hk : kd a = 5) (k : ∀ m : gMem, m = st μ a 0 v → RR κ N d mi (pc + 3) lv sk m Q) : RR κ N d mi pc lv (.int v :: .ref (κ 0 + a) :: sk) μ Q := r_putI 0 gC5 (by decide) (fun _ => rfl) ⟨rfl, rfl⟩ (by rw [hm]; exact wF_X10_205) hd ha hk k
theorem wF_X1_37 : Cond.fieldLink RX1 37 (TX5 1).1 (TX5 1).2.1 (TX5 1).2.2.1 ∈ lw_g := lw_g_of 274 (by decide +kernel) rfl
theorem gf_X1_37 {κ : Nat → Nat} {N d : Nat} {mi : gMI} {pc : Nat} {lv : List (Nat × Value)} {sk : List Value} {μ : gMem} {Q : rQ} {a : Nat} (hm : mi.1 = RX1) (hd : decode mi.2.1 pc = .ok (.getfield 37, 3)) (ha : a < N) (hk : kd a = 5) (k : RR κ N d mi (pc + 3) lv (.int (μ a 1) :: sk) μ Q) : RR κ N d mi pc lv (.ref (κ 0 + a) :: sk) μ Q := r_getI 1 gC5 (by decide) (fun _ => rfl) (by rw [hm]; exact wF_X1_37) hd ha hk k
theorem pf_X1_37 {κ : Nat → Nat} {N d : Nat} {mi : gMI} {pc : Nat} {lv : List (Nat × Value)} {sk : List Value} {μ : gMem} {Q : rQ} {a : Nat} {v : Int32} (hm : mi.1 = RX1) (hd : decode mi.2.1 pc = .ok (.putfield 37, 3)) (ha : a < N) (hk : kd a = 5) (k : ∀ m : gMem, m = st μ a 1 v → RR κ N d mi (pc + 3) lv sk m Q) : RR κ N d mi pc lv (.int v :: .ref (κ 0 + a) :: sk) μ Q := r_putI 1 gC5 (by decide) (fun _ => rfl) ⟨rfl, rfl⟩ (by rw [hm]; exact wF_X1_37) hd ha hk k
theorem wF_X5_22 : Cond.fieldLink RX5 22 (TX5 1).1 (TX5 1).2.1 (TX5 1).2.2.1 ∈ lw_g := lw_g_of 275 (by decide +kernel) rfl
theorem gf_X5_22 {κ : Nat → Nat} {N d : Nat} {mi : gMI} {pc : Nat} {lv : List (Nat × Value)} {sk : List Value} {μ : gMem} {Q : rQ} {a : Nat} (hm : mi.1 = RX5) (hd : decode mi.2.1 pc = .ok (.getfield 22, 3)) (ha : a < N) (hk : kd a = 5) (k : RR κ N d mi (pc + 3) lv (.int (μ a 1) :: sk) μ Q) : RR κ N d mi pc lv (.ref (κ 0 + a) :: sk) μ Q := r_getI 1 gC5 (by decide) (fun _ => rfl) (by rw [hm]; exact wF_X5_22) hd ha hk k
theorem pf_X5_22 {κ : Nat → Nat} {N d : Nat} {mi : gMI} {pc : Nat} {lv : List (Nat × Value)} {sk : List Value} {μ : gMem} {Q : rQ} {a : Nat} {v : Int32} (hm : mi.1 = RX5) (hd : decode mi.2.1 pc = .ok (.putfield 22, 3)) (ha : a < N) (hk : kd a = 5) (k : ∀ m : gMem, m = st μ a 1 v → RR κ N d mi (pc + 3) lv sk m Q) : RR κ N d mi pc lv (.int v :: .ref (κ 0 + a) :: sk) μ Q := r_putI 1 gC5 (by decide) (fun _ => rfl) ⟨rfl, rfl⟩ (by rw [hm]; exact wF_X5_22) hd ha hk k
theorem wF_X10_211 : Cond.fieldLink RX10 211 (TX5 1).1 (TX5 1).2.1 (TX5 1).2.2.1 ∈ lw_g := lw_g_of 276 (by decide +kernel) rfl
theorem gf_X10_211 {κ : Nat → Nat} {N d : Nat} {mi : gMI} {pc : Nat} {lv : List (Nat × Value)} {sk : List Value} {μ : gMem} {Q : rQ} {a : Nat} (hm : mi.1 = RX10) (hd : decode mi.2.1 pc = .ok (.getfield 211, 3)) (ha : a < N) (hk : kd a = 5) (k : RR κ N d mi (pc + 3) lv (.int (μ a 1) :: sk) μ Q) : RR κ N d mi pc lv (.ref (κ 0 + a) :: sk) μ Q := r_getI 1 gC5 (by decide) (fun _ => rfl) (by rw [hm]; exact wF_X10_211) hd ha hk k
theorem pf_X10_211 {κ : Nat → Nat} {N d : Nat} {mi : gMI} {pc : Nat} {lv : List (Nat × Value)} {sk : List Value} {μ : gMem} {Q : rQ} {a : Nat} {v : Int32} (hm : mi.1 = RX10) (hd : decode mi.2.1 pc = .ok (.putfield 211, 3)) (ha : a < N) (hk : kd a = 5) (k : ∀ m : gMem, m = st μ a 1 v → RR κ N d mi (pc + 3) lv sk m Q) : RR κ N d mi pc lv (.int v :: .ref (κ 0 + a) :: sk) μ Q := r_putI 1 gC5 (by decide) (fun _ => rfl) ⟨rfl, rfl⟩ (by rw [hm]; exact wF_X10_211) hd ha hk k
theorem wF_X1_44 : Cond.fieldLink RX1 44 (TX5 2).1 (TX5 2).2.1 (TX5 2).2.2.1 ∈ lw_g := lw_g_of 277 (by decide +kernel) rfl
theorem gf_X1_44 {κ : Nat → Nat} {N d : Nat} {mi : gMI} {pc : Nat} {lv : List (Nat × Value)} {sk : List Value} {μ : gMem} {Q : rQ} {a : Nat} (hm : mi.1 = RX1) (hd : decode mi.2.1 pc = .ok (.getfield 44, 3)) (ha : a < N) (hk : kd a = 5) (k : RR κ N d mi (pc + 3) lv (.int (μ a 2) :: sk) μ Q) : RR κ N d mi pc lv (.ref (κ 0 + a) :: sk) μ Q := r_getI 2 gC5 (by decide) (fun _ => rfl) (by rw [hm]; exact wF_X1_44) hd ha hk k
theorem pf_X1_44 {κ : Nat → Nat} {N d : Nat} {mi : gMI} {pc : Nat} {lv : List (Nat × Value)} {sk : List Value} {μ : gMem} {Q : rQ} {a : Nat} {v : Int32} (hm : mi.1 = RX1) (hd : decode mi.2.1 pc = .ok (.putfield 44, 3)) (ha : a < N) (hk : kd a = 5) (k : ∀ m : gMem, m = st μ a 2 v → RR κ N d mi (pc + 3) lv sk m Q) : RR κ N d mi pc lv (.int v :: .ref (κ 0 + a) :: sk) μ Q := r_putI 2 gC5 (by decide) (fun _ => rfl) ⟨rfl, rfl⟩ (by rw [hm]; exact wF_X1_44) hd ha hk k
theorem wF_X5_25 : Cond.fieldLink RX5 25 (TX5 2).1 (TX5 2).2.1 (TX5 2).2.2.1 ∈ lw_g := lw_g_of 278 (by decide +kernel) rfl
theorem gf_X5_25 {κ : Nat → Nat} {N d : Nat} {mi : gMI} {pc : Nat} {lv : List (Nat × Value)} {sk : List Value} {μ : gMem} {Q : rQ} {a : Nat} (hm : mi.1 = RX5) (hd : decode mi.2.1 pc = .ok (.getfield 25, 3)) (ha : a < N) (hk : kd a = 5) (k : RR κ N d mi (pc + 3) lv (.int (μ a 2) :: sk) μ Q) : RR κ N d mi pc lv (.ref (κ 0 + a) :: sk) μ Q := r_getI 2 gC5 (by decide) (fun _ => rfl) (by rw [hm]; exact wF_X5_25) hd ha hk k
theorem pf_X5_25 {κ : Nat → Nat} {N d : Nat} {mi : gMI} {pc : Nat} {lv : List (Nat × Value)} {sk : List Value} {μ : gMem} {Q : rQ} {a : Nat} {v : Int32} (hm : mi.1 = RX5) (hd : decode mi.2.1 pc = .ok (.putfield 25, 3)) (ha : a < N) (hk : kd a = 5) (k : ∀ m : gMem, m = st μ a 2 v → RR κ N d mi (pc + 3) lv sk m Q) : RR κ N d mi pc lv (.int v :: .ref (κ 0 + a) :: sk) μ Q := r_putI 2 gC5 (by decide) (fun _ => rfl) ⟨rfl, rfl⟩ (by rw [hm]; exact wF_X5_25) hd ha hk k
theorem wF_X10_198 : Cond.fieldLink RX10 198 (TX5 2).1 (TX5 2).2.1 (TX5 2).2.2.1 ∈ lw_g := lw_g_of 279 (by decide +kernel) rfl
theorem gf_X10_198 {κ : Nat → Nat} {N d : Nat} {mi : gMI} {pc : Nat} {lv : List (Nat × Value)} {sk : List Value} {μ : gMem} {Q : rQ} {a : Nat} (hm : mi.1 = RX10) (hd : decode mi.2.1 pc = .ok (.getfield 198, 3)) (ha : a < N) (hk : kd a = 5) (k : RR κ N d mi (pc + 3) lv (.int (μ a 2) :: sk) μ Q) : RR κ N d mi pc lv (.ref (κ 0 + a) :: sk) μ Q := r_getI 2 gC5 (by decide) (fun _ => rfl) (by rw [hm]; exact wF_X10_198) hd ha hk k
theorem pf_X10_198 {κ : Nat → Nat} {N d : Nat} {mi : gMI} {pc : Nat} {lv : List (Nat × Value)} {sk : List Value} {μ : gMem} {Q : rQ} {a : Nat} {v : Int32} (hm : mi.1 = RX10) (hd : decode mi.2.1 pc = .ok (.putfield 198, 3)) (ha : a < N) (hk : kd a = 5) (k : ∀ m : gMem, m = st μ a 2 v → RR κ N d mi (pc + 3) lv sk m Q) : RR κ N d mi pc lv (.int v :: .ref (κ 0 + a) :: sk) μ Q := r_putI 2 gC5 (by decide) (fun _ => rfl) ⟨rfl, rfl⟩ (by rw [hm]; exact wF_X10_198) hd ha hk k
theorem wF_X5_28 : Cond.fieldLink RX5 28 (TX5 3).1 (TX5 3).2.1 (TX5 3).2.2.1 ∈ lw_g := lw_g_of 280 (by decide +kernel) rfl
theorem gf_X5_28 {κ : Nat → Nat} {N d : Nat} {mi : gMI} {pc : Nat} {lv : List (Nat × Value)} {sk : List Value} {μ : gMem} {Q : rQ} {a : Nat} (hm : mi.1 = RX5) (hd : decode mi.2.1 pc = .ok (.getfield 28, 3)) (ha : a < N) (hk : kd a = 5) (k : RR κ N d mi (pc + 3) lv (.int (μ a 3) :: sk) μ Q) : RR κ N d mi pc lv (.ref (κ 0 + a) :: sk) μ Q := r_getI 3 gC5 (by decide) (fun _ => rfl) (by rw [hm]; exact wF_X5_28) hd ha hk k
theorem pf_X5_28 {κ : Nat → Nat} {N d : Nat} {mi : gMI} {pc : Nat} {lv : List (Nat × Value)} {sk : List Value} {μ : gMem} {Q : rQ} {a : Nat} {v : Int32} (hm : mi.1 = RX5) (hd : decode mi.2.1 pc = .ok (.putfield 28, 3)) (ha : a < N) (hk : kd a = 5) (k : ∀ m : gMem, m = st μ a 3 v → RR κ N d mi (pc + 3) lv sk m Q) : RR κ N d mi pc lv (.int v :: .ref (κ 0 + a) :: sk) μ Q := r_putI 3 gC5 (by decide) (fun _ => rfl) ⟨rfl, rfl⟩ (by rw [hm]; exact wF_X5_28) hd ha hk k
theorem wF_X10_283 : Cond.fieldLink RX10 283 (TX5 3).1 (TX5 3).2.1 (TX5 3).2.2.1 ∈ lw_g := lw_g_of 281 (by decide +kernel) rfl
theorem gf_X10_283 {κ : Nat → Nat} {N d : Nat} {mi : gMI} {pc : Nat} {lv : List (Nat × Value)} {sk : List Value} {μ : gMem} {Q : rQ} {a : Nat} (hm : mi.1 = RX10) (hd : decode mi.2.1 pc = .ok (.getfield 283, 3)) (ha : a < N) (hk : kd a = 5) (k : RR κ N d mi (pc + 3) lv (.int (μ a 3) :: sk) μ Q) : RR κ N d mi pc lv (.ref (κ 0 + a) :: sk) μ Q := r_getI 3 gC5 (by decide) (fun _ => rfl) (by rw [hm]; exact wF_X10_283) hd ha hk k
theorem pf_X10_283 {κ : Nat → Nat} {N d : Nat} {mi : gMI} {pc : Nat} {lv : List (Nat × Value)} {sk : List Value} {μ : gMem} {Q : rQ} {a : Nat} {v : Int32} (hm : mi.1 = RX10) (hd : decode mi.2.1 pc = .ok (.putfield 283, 3)) (ha : a < N) (hk : kd a = 5) (k : ∀ m : gMem, m = st μ a 3 v → RR κ N d mi (pc + 3) lv sk m Q) : RR κ N d mi pc lv (.int v :: .ref (κ 0 + a) :: sk) μ Q := r_putI 3 gC5 (by decide) (fun _ => rfl) ⟨rfl, rfl⟩ (by rw [hm]; exact wF_X10_283) hd ha hk k
theorem wF_X5_31 : Cond.fieldLink RX5 31 (TX5 4).1 (TX5 4).2.1 (TX5 4).2.2.1 ∈ lw_g := lw_g_of 282 (by decide +kernel) rfl
theorem gf_X5_31 {κ : Nat → Nat} {N d : Nat} {mi : gMI} {pc : Nat} {lv : List (Nat × Value)} {sk : List Value} {μ : gMem} {Q : rQ} {a : Nat} (hm : mi.1 = RX5) (hd : decode mi.2.1 pc = .ok (.getfield 31, 3)) (ha : a < N) (hk : kd a = 5) (k : RR κ N d mi (pc + 3) lv (.int (μ a 4) :: sk) μ Q) : RR κ N d mi pc lv (.ref (κ 0 + a) :: sk) μ Q := r_getI 4 gC5 (by decide) (fun _ => rfl) (by rw [hm]; exact wF_X5_31) hd ha hk k
theorem pf_X5_31 {κ : Nat → Nat} {N d : Nat} {mi : gMI} {pc : Nat} {lv : List (Nat × Value)} {sk : List Value} {μ : gMem} {Q : rQ} {a : Nat} {v : Int32} (hm : mi.1 = RX5) (hd : decode mi.2.1 pc = .ok (.putfield 31, 3)) (ha : a < N) (hk : kd a = 5) (k : ∀ m : gMem, m = st μ a 4 v → RR κ N d mi (pc + 3) lv sk m Q) : RR κ N d mi pc lv (.int v :: .ref (κ 0 + a) :: sk) μ Q := r_putI 4 gC5 (by decide) (fun _ => rfl) ⟨rfl, rfl⟩ (by rw [hm]; exact wF_X5_31) hd ha hk k
theorem wF_X10_286 : Cond.fieldLink RX10 286 (TX5 4).1 (TX5 4).2.1 (TX5 4).2.2.1 ∈ lw_g := lw_g_of 283 (by decide +kernel) rfl
theorem gf_X10_286 {κ : Nat → Nat} {N d : Nat} {mi : gMI} {pc : Nat} {lv : List (Nat × Value)} {sk : List Value} {μ : gMem} {Q : rQ} {a : Nat} (hm : mi.1 = RX10) (hd : decode mi.2.1 pc = .ok (.getfield 286, 3)) (ha : a < N) (hk : kd a = 5) (k : RR κ N d mi (pc + 3) lv (.int (μ a 4) :: sk) μ Q) : RR κ N d mi pc lv (.ref (κ 0 + a) :: sk) μ Q := r_getI 4 gC5 (by decide) (fun _ => rfl) (by rw [hm]; exact wF_X10_286) hd ha hk k
theorem pf_X10_286 {κ : Nat → Nat} {N d : Nat} {mi : gMI} {pc : Nat} {lv : List (Nat × Value)} {sk : List Value} {μ : gMem} {Q : rQ} {a : Nat} {v : Int32} (hm : mi.1 = RX10) (hd : decode mi.2.1 pc = .ok (.putfield 286, 3)) (ha : a < N) (hk : kd a = 5) (k : ∀ m : gMem, m = st μ a 4 v → RR κ N d mi (pc + 3) lv sk m Q) : RR κ N d mi pc lv (.int v :: .ref (κ 0 + a) :: sk) μ Q := r_putI 4 gC5 (by decide) (fun _ => rfl) ⟨rfl, rfl⟩ (by rw [hm]; exact wF_X10_286) hd ha hk k
theorem wF_X5_11 : Cond.fieldLink RX5 11 (TX5 5).1 (TX5 5).2.1 (TX5 5).2.2.1 ∈ lw_g := lw_g_of 284 (by decide +kernel) rfl
theorem gf_X5_11 {κ : Nat → Nat} {N d : Nat} {mi : gMI} {pc : Nat} {lv : List (Nat × Value)} {sk : List Value} {μ : gMem} {Q : rQ} {a : Nat} (hm : mi.1 = RX5) (hd : decode mi.2.1 pc = .ok (.getfield 11, 3)) (ha : a < N) (hk : kd a = 5) (k : RR κ N d mi (pc + 3) lv (.ref (κ 0 + (a + 1)) :: sk) μ Q) : RR κ N d mi pc lv (.ref (κ 0 + a) :: sk) μ Q := r_getR 5 (a + 1) gC5 (by decide) rfl (by rw [hm]; exact wF_X5_11) hd ha hk k
theorem wF_X2_37 : Cond.fieldLink RX2 37 (TX5 5).1 (TX5 5).2.1 (TX5 5).2.2.1 ∈ lw_g := lw_g_of 285 (by decide +kernel) rfl
theorem gf_X2_37 {κ : Nat → Nat} {N d : Nat} {mi : gMI} {pc : Nat} {lv : List (Nat × Value)} {sk : List Value} {μ : gMem} {Q : rQ} {a : Nat} (hm : mi.1 = RX2) (hd : decode mi.2.1 pc = .ok (.getfield 37, 3)) (ha : a < N) (hk : kd a = 5) (k : RR κ N d mi (pc + 3) lv (.ref (κ 0 + (a + 1)) :: sk) μ Q) : RR κ N d mi pc lv (.ref (κ 0 + a) :: sk) μ Q := r_getR 5 (a + 1) gC5 (by decide) rfl (by rw [hm]; exact wF_X2_37) hd ha hk k
theorem wF_X1_59 : Cond.fieldLink RX1 59 (TX5 5).1 (TX5 5).2.1 (TX5 5).2.2.1 ∈ lw_g := lw_g_of 286 (by decide +kernel) rfl
theorem gf_X1_59 {κ : Nat → Nat} {N d : Nat} {mi : gMI} {pc : Nat} {lv : List (Nat × Value)} {sk : List Value} {μ : gMem} {Q : rQ} {a : Nat} (hm : mi.1 = RX1) (hd : decode mi.2.1 pc = .ok (.getfield 59, 3)) (ha : a < N) (hk : kd a = 5) (k : RR κ N d mi (pc + 3) lv (.ref (κ 0 + (a + 1)) :: sk) μ Q) : RR κ N d mi pc lv (.ref (κ 0 + a) :: sk) μ Q := r_getR 5 (a + 1) gC5 (by decide) rfl (by rw [hm]; exact wF_X1_59) hd ha hk k
theorem wF_X10_148 : Cond.fieldLink RX10 148 (TX5 5).1 (TX5 5).2.1 (TX5 5).2.2.1 ∈ lw_g := lw_g_of 287 (by decide +kernel) rfl
theorem gf_X10_148 {κ : Nat → Nat} {N d : Nat} {mi : gMI} {pc : Nat} {lv : List (Nat × Value)} {sk : List Value} {μ : gMem} {Q : rQ} {a : Nat} (hm : mi.1 = RX10) (hd : decode mi.2.1 pc = .ok (.getfield 148, 3)) (ha : a < N) (hk : kd a = 5) (k : RR κ N d mi (pc + 3) lv (.ref (κ 0 + (a + 1)) :: sk) μ Q) : RR κ N d mi pc lv (.ref (κ 0 + a) :: sk) μ Q := r_getR 5 (a + 1) gC5 (by decide) rfl (by rw [hm]; exact wF_X10_148) hd ha hk k
theorem wF_X4_11 : Cond.fieldLink RX4 11 (TX4 0).1 (TX4 0).2.1 (TX4 0).2.2.1 ∈ lw_g := lw_g_of 310 (by decide +kernel) rfl
theorem gf_X4_11 {κ : Nat → Nat} {N d : Nat} {mi : gMI} {pc : Nat} {lv : List (Nat × Value)} {sk : List Value} {μ : gMem} {Q : rQ} {a : Nat} (hm : mi.1 = RX4) (hd : decode mi.2.1 pc = .ok (.getfield 11, 3)) (ha : a < N) (hk : kd a = 4) (k : RR κ N d mi (pc + 3) lv (.ref (κ 0 + 24) :: sk) μ Q) : RR κ N d mi pc lv (.ref (κ 0 + a) :: sk) μ Q := r_getR 0 24 gC4 (by decide) rfl (by rw [hm]; exact wF_X4_11) hd ha hk k
theorem wF_X4_18 : Cond.fieldLink RX4 18 (TX4 1).1 (TX4 1).2.1 (TX4 1).2.2.1 ∈ lw_g := lw_g_of 311 (by decide +kernel) rfl
theorem gf_X4_18 {κ : Nat → Nat} {N d : Nat} {mi : gMI} {pc : Nat} {lv : List (Nat × Value)} {sk : List Value} {μ : gMem} {Q : rQ} {a : Nat} (hm : mi.1 = RX4) (hd : decode mi.2.1 pc = .ok (.getfield 18, 3)) (ha : a < N) (hk : kd a = 4) (k : RR κ N d mi (pc + 3) lv (.int (μ a 1) :: sk) μ Q) : RR κ N d mi pc lv (.ref (κ 0 + a) :: sk) μ Q := r_getI 1 gC4 (by decide) (fun _ => rfl) (by rw [hm]; exact wF_X4_18) hd ha hk k
theorem pf_X4_18 {κ : Nat → Nat} {N d : Nat} {mi : gMI} {pc : Nat} {lv : List (Nat × Value)} {sk : List Value} {μ : gMem} {Q : rQ} {a : Nat} {v : Int32} (hm : mi.1 = RX4) (hd : decode mi.2.1 pc = .ok (.putfield 18, 3)) (ha : a < N) (hk : kd a = 4) (k : ∀ m : gMem, m = st μ a 1 v → RR κ N d mi (pc + 3) lv sk m Q) : RR κ N d mi pc lv (.int v :: .ref (κ 0 + a) :: sk) μ Q := r_putI 1 gC4 (by decide) (fun _ => rfl) ⟨rfl, rfl⟩ (by rw [hm]; exact wF_X4_18) hd ha hk k
theorem wF_X4_26 : Cond.fieldLink RX4 26 (TX4 2).1 (TX4 2).2.1 (TX4 2).2.2.1 ∈ lw_g := lw_g_of 312 (by decide +kernel) rfl
theorem gf_X4_26 {κ : Nat → Nat} {N d : Nat} {mi : gMI} {pc : Nat} {lv : List (Nat × Value)} {sk : List Value} {μ : gMem} {Q : rQ} {a : Nat} (hm : mi.1 = RX4) (hd : decode mi.2.1 pc = .ok (.getfield 26, 3)) (ha : a < N) (hk : kd a = 4) (k : RR κ N d mi (pc + 3) lv (.int (μ a 2) :: sk) μ Q) : RR κ N d mi pc lv (.ref (κ 0 + a) :: sk) μ Q := r_getI 2 gC4 (by decide) (fun _ => rfl) (by rw [hm]; exact wF_X4_26) hd ha hk k
theorem pf_X4_26 {κ : Nat → Nat} {N d : Nat} {mi : gMI} {pc : Nat} {lv : List (Nat × Value)} {sk : List Value} {μ : gMem} {Q : rQ} {a : Nat} {v : Int32} (hm : mi.1 = RX4) (hd : decode mi.2.1 pc = .ok (.putfield 26, 3)) (ha : a < N) (hk : kd a = 4) (k : ∀ m : gMem, m = st μ a 2 v → RR κ N d mi (pc + 3) lv sk m Q) : RR κ N d mi pc lv (.int v :: .ref (κ 0 + a) :: sk) μ Q := r_putI 2 gC4 (by decide) (fun _ => rfl) ⟨rfl, rfl⟩ (by rw [hm]; exact wF_X4_26) hd ha hk k
theorem wF_X10_118 : Cond.fieldLink RX10 118 (TX4 2).1 (TX4 2).2.1 (TX4 2).2.2.1 ∈ lw_g := lw_g_of 313 (by decide +kernel) rfl
theorem gf_X10_118 {κ : Nat → Nat} {N d : Nat} {mi : gMI} {pc : Nat} {lv : List (Nat × Value)} {sk : List Value} {μ : gMem} {Q : rQ} {a : Nat} (hm : mi.1 = RX10) (hd : decode mi.2.1 pc = .ok (.getfield 118, 3)) (ha : a < N) (hk : kd a = 4) (k : RR κ N d mi (pc + 3) lv (.int (μ a 2) :: sk) μ Q) : RR κ N d mi pc lv (.ref (κ 0 + a) :: sk) μ Q := r_getI 2 gC4 (by decide) (fun _ => rfl) (by rw [hm]; exact wF_X10_118) hd ha hk k
theorem pf_X10_118 {κ : Nat → Nat} {N d : Nat} {mi : gMI} {pc : Nat} {lv : List (Nat × Value)} {sk : List Value} {μ : gMem} {Q : rQ} {a : Nat} {v : Int32} (hm : mi.1 = RX10) (hd : decode mi.2.1 pc = .ok (.putfield 118, 3)) (ha : a < N) (hk : kd a = 4) (k : ∀ m : gMem, m = st μ a 2 v → RR κ N d mi (pc + 3) lv sk m Q) : RR κ N d mi pc lv (.int v :: .ref (κ 0 + a) :: sk) μ Q := r_putI 2 gC4 (by decide) (fun _ => rfl) ⟨rfl, rfl⟩ (by rw [hm]; exact wF_X10_118) hd ha hk k
theorem wF_X2_9 : Cond.fieldLink RX2 9 (TX2 0).1 (TX2 0).2.1 (TX2 0).2.2.1 ∈ lw_g := lw_g_of 331 (by decide +kernel) rfl
theorem gf_X2_9 {κ : Nat → Nat} {N d : Nat} {mi : gMI} {pc : Nat} {lv : List (Nat × Value)} {sk : List Value} {μ : gMem} {Q : rQ} {a : Nat} (hm : mi.1 = RX2) (hd : decode mi.2.1 pc = .ok (.getfield 9, 3)) (ha : a < N) (hk : kd a = 2) (k : RR κ N d mi (pc + 3) lv (.ref (κ 0 + 1) :: sk) μ Q) : RR κ N d mi pc lv (.ref (κ 0 + a) :: sk) μ Q := r_getR 0 1 gC2 (by decide) rfl (by rw [hm]; exact wF_X2_9) hd ha hk k
theorem wF_X2_17 : Cond.fieldLink RX2 17 (TX2 1).1 (TX2 1).2.1 (TX2 1).2.2.1 ∈ lw_g := lw_g_of 332 (by decide +kernel) rfl
theorem gf_X2_17 {κ : Nat → Nat} {N d : Nat} {mi : gMI} {pc : Nat} {lv : List (Nat × Value)} {sk : List Value} {μ : gMem} {Q : rQ} {a : Nat} (hm : mi.1 = RX2) (hd : decode mi.2.1 pc = .ok (.getfield 17, 3)) (ha : a < N) (hk : kd a = 2) (k : RR κ N d mi (pc + 3) lv (.ref (κ 0 + 98) :: sk) μ Q) : RR κ N d mi pc lv (.ref (κ 0 + a) :: sk) μ Q := r_getR 1 98 gC2 (by decide) rfl (by rw [hm]; exact wF_X2_17) hd ha hk k
theorem wF_X2_23 : Cond.fieldLink RX2 23 (TX2 2).1 (TX2 2).2.1 (TX2 2).2.2.1 ∈ lw_g := lw_g_of 333 (by decide +kernel) rfl
theorem gf_X2_23 {κ : Nat → Nat} {N d : Nat} {mi : gMI} {pc : Nat} {lv : List (Nat × Value)} {sk : List Value} {μ : gMem} {Q : rQ} {a : Nat} (hm : mi.1 = RX2) (hd : decode mi.2.1 pc = .ok (.getfield 23, 3)) (ha : a < N) (hk : kd a = 2) (k : RR κ N d mi (pc + 3) lv (.ref (κ 0 + 104) :: sk) μ Q) : RR κ N d mi pc lv (.ref (κ 0 + a) :: sk) μ Q := r_getR 2 104 gC2 (by decide) rfl (by rw [hm]; exact wF_X2_23) hd ha hk k
theorem wF_X2_27 : Cond.fieldLink RX2 27 (TX2 3).1 (TX2 3).2.1 (TX2 3).2.2.1 ∈ lw_g := lw_g_of 334 (by decide +kernel) rfl
theorem gf_X2_27 {κ : Nat → Nat} {N d : Nat} {mi : gMI} {pc : Nat} {lv : List (Nat × Value)} {sk : List Value} {μ : gMem} {Q : rQ} {a : Nat} (hm : mi.1 = RX2) (hd : decode mi.2.1 pc = .ok (.getfield 27, 3)) (ha : a < N) (hk : kd a = 2) (k : RR κ N d mi (pc + 3) lv (.ref (κ 0 + 105) :: sk) μ Q) : RR κ N d mi pc lv (.ref (κ 0 + a) :: sk) μ Q := r_getR 3 105 gC2 (by decide) rfl (by rw [hm]; exact wF_X2_27) hd ha hk k
theorem wF_X10_229 : Cond.fieldLink RX10 229 (TX2 3).1 (TX2 3).2.1 (TX2 3).2.2.1 ∈ lw_g := lw_g_of 335 (by decide +kernel) rfl
theorem gf_X10_229 {κ : Nat → Nat} {N d : Nat} {mi : gMI} {pc : Nat} {lv : List (Nat × Value)} {sk : List Value} {μ : gMem} {Q : rQ} {a : Nat} (hm : mi.1 = RX10) (hd : decode mi.2.1 pc = .ok (.getfield 229, 3)) (ha : a < N) (hk : kd a = 2) (k : RR κ N d mi (pc + 3) lv (.ref (κ 0 + 105) :: sk) μ Q) : RR κ N d mi pc lv (.ref (κ 0 + a) :: sk) μ Q := r_getR 3 105 gC2 (by decide) rfl (by rw [hm]; exact wF_X10_229) hd ha hk k
theorem wF_X2_54 : Cond.fieldLink RX2 54 (TX2 4).1 (TX2 4).2.1 (TX2 4).2.2.1 ∈ lw_g := lw_g_of 336 (by decide +kernel) rfl
theorem gf_X2_54 {κ : Nat → Nat} {N d : Nat} {mi : gMI} {pc : Nat} {lv : List (Nat × Value)} {sk : List Value} {μ : gMem} {Q : rQ} {a : Nat} (hm : mi.1 = RX2) (hd : decode mi.2.1 pc = .ok (.getfield 54, 3)) (ha : a < N) (hk : kd a = 2) (k : RR κ N d mi (pc + 3) lv (.int (μ a 4) :: sk) μ Q) : RR κ N d mi pc lv (.ref (κ 0 + a) :: sk) μ Q := r_getI 4 gC2 (by decide) (fun _ => rfl) (by rw [hm]; exact wF_X2_54) hd ha hk k
theorem pf_X2_54 {κ : Nat → Nat} {N d : Nat} {mi : gMI} {pc : Nat} {lv : List (Nat × Value)} {sk : List Value} {μ : gMem} {Q : rQ} {a : Nat} {v : Int32} (hm : mi.1 = RX2) (hd : decode mi.2.1 pc = .ok (.putfield 54, 3)) (ha : a < N) (hk : kd a = 2) (k : ∀ m : gMem, m = st μ a 4 v → RR κ N d mi (pc + 3) lv sk m Q) : RR κ N d mi pc lv (.int v :: .ref (κ 0 + a) :: sk) μ Q := r_putI 4 gC2 (by decide) (fun _ => rfl) ⟨rfl, rfl⟩ (by rw [hm]; exact wF_X2_54) hd ha hk k
theorem wF_X10_242 : Cond.fieldLink RX10 242 (TX2 4).1 (TX2 4).2.1 (TX2 4).2.2.1 ∈ lw_g := lw_g_of 337 (by decide +kernel) rfl
theorem gf_X10_242 {κ : Nat → Nat} {N d : Nat} {mi : gMI} {pc : Nat} {lv : List (Nat × Value)} {sk : List Value} {μ : gMem} {Q : rQ} {a : Nat} (hm : mi.1 = RX10) (hd : decode mi.2.1 pc = .ok (.getfield 242, 3)) (ha : a < N) (hk : kd a = 2) (k : RR κ N d mi (pc + 3) lv (.int (μ a 4) :: sk) μ Q) : RR κ N d mi pc lv (.ref (κ 0 + a) :: sk) μ Q := r_getI 4 gC2 (by decide) (fun _ => rfl) (by rw [hm]; exact wF_X10_242) hd ha hk k
theorem pf_X10_242 {κ : Nat → Nat} {N d : Nat} {mi : gMI} {pc : Nat} {lv : List (Nat × Value)} {sk : List Value} {μ : gMem} {Q : rQ} {a : Nat} {v : Int32} (hm : mi.1 = RX10) (hd : decode mi.2.1 pc = .ok (.putfield 242, 3)) (ha : a < N) (hk : kd a = 2) (k : ∀ m : gMem, m = st μ a 4 v → RR κ N d mi (pc + 3) lv sk m Q) : RR κ N d mi pc lv (.int v :: .ref (κ 0 + a) :: sk) μ Q := r_putI 4 gC2 (by decide) (fun _ => rfl) ⟨rfl, rfl⟩ (by rw [hm]; exact wF_X10_242) hd ha hk k
theorem wF_X2_82 : Cond.fieldLink RX2 82 (TX2 5).1 (TX2 5).2.1 (TX2 5).2.2.1 ∈ lw_g := lw_g_of 338 (by decide +kernel) rfl
theorem gf_X2_82 {κ : Nat → Nat} {N d : Nat} {mi : gMI} {pc : Nat} {lv : List (Nat × Value)} {sk : List Value} {μ : gMem} {Q : rQ} {a : Nat} (hm : mi.1 = RX2) (hd : decode mi.2.1 pc = .ok (.getfield 82, 3)) (ha : a < N) (hk : kd a = 2) (k : RR κ N d mi (pc + 3) lv (.int (μ a 5) :: sk) μ Q) : RR κ N d mi pc lv (.ref (κ 0 + a) :: sk) μ Q := r_getI 5 gC2 (by decide) (fun _ => rfl) (by rw [hm]; exact wF_X2_82) hd ha hk k
theorem pf_X2_82 {κ : Nat → Nat} {N d : Nat} {mi : gMI} {pc : Nat} {lv : List (Nat × Value)} {sk : List Value} {μ : gMem} {Q : rQ} {a : Nat} {v : Int32} (hm : mi.1 = RX2) (hd : decode mi.2.1 pc = .ok (.putfield 82, 3)) (ha : a < N) (hk : kd a = 2) (k : ∀ m : gMem, m = st μ a 5 v → RR κ N d mi (pc + 3) lv sk m Q) : RR κ N d mi pc lv (.int v :: .ref (κ 0 + a) :: sk) μ Q := r_putI 5 gC2 (by decide) (fun _ => rfl) ⟨rfl, rfl⟩ (by rw [hm]; exact wF_X2_82) hd ha hk k
theorem wF_X10_232 : Cond.fieldLink RX10 232 (TX2 5).1 (TX2 5).2.1 (TX2 5).2.2.1 ∈ lw_g := lw_g_of 339 (by decide +kernel) rfl
theorem gf_X10_232 {κ : Nat → Nat} {N d : Nat} {mi : gMI} {pc : Nat} {lv : List (Nat × Value)} {sk : List Value} {μ : gMem} {Q : rQ} {a : Nat} (hm : mi.1 = RX10) (hd : decode mi.2.1 pc = .ok (.getfield 232, 3)) (ha : a < N) (hk : kd a = 2) (k : RR κ N d mi (pc + 3) lv (.int (μ a 5) :: sk) μ Q) : RR κ N d mi pc lv (.ref (κ 0 + a) :: sk) μ Q := r_getI 5 gC2 (by decide) (fun _ => rfl) (by rw [hm]; exact wF_X10_232) hd ha hk k
theorem pf_X10_232 {κ : Nat → Nat} {N d : Nat} {mi : gMI} {pc : Nat} {lv : List (Nat × Value)} {sk : List Value} {μ : gMem} {Q : rQ} {a : Nat} {v : Int32} (hm : mi.1 = RX10) (hd : decode mi.2.1 pc = .ok (.putfield 232, 3)) (ha : a < N) (hk : kd a = 2) (k : ∀ m : gMem, m = st μ a 5 v → RR κ N d mi (pc + 3) lv sk m Q) : RR κ N d mi pc lv (.int v :: .ref (κ 0 + a) :: sk) μ Q := r_putI 5 gC2 (by decide) (fun _ => rfl) ⟨rfl, rfl⟩ (by rw [hm]; exact wF_X10_232) hd ha hk k
theorem wF_X2_85 : Cond.fieldLink RX2 85 (TX2 6).1 (TX2 6).2.1 (TX2 6).2.2.1 ∈ lw_g := lw_g_of 340 (by decide +kernel) rfl
theorem gf_X2_85 {κ : Nat → Nat} {N d : Nat} {mi : gMI} {pc : Nat} {lv : List (Nat × Value)} {sk : List Value} {μ : gMem} {Q : rQ} {a : Nat} (hm : mi.1 = RX2) (hd : decode mi.2.1 pc = .ok (.getfield 85, 3)) (ha : a < N) (hk : kd a = 2) (k : RR κ N d mi (pc + 3) lv (.int (μ a 6) :: sk) μ Q) : RR κ N d mi pc lv (.ref (κ 0 + a) :: sk) μ Q := r_getI 6 gC2 (by decide) (fun _ => rfl) (by rw [hm]; exact wF_X2_85) hd ha hk k
theorem pf_X2_85 {κ : Nat → Nat} {N d : Nat} {mi : gMI} {pc : Nat} {lv : List (Nat × Value)} {sk : List Value} {μ : gMem} {Q : rQ} {a : Nat} {v : Int32} (hm : mi.1 = RX2) (hd : decode mi.2.1 pc = .ok (.putfield 85, 3)) (ha : a < N) (hk : kd a = 2) (k : ∀ m : gMem, m = st μ a 6 v → RR κ N d mi (pc + 3) lv sk m Q) : RR κ N d mi pc lv (.int v :: .ref (κ 0 + a) :: sk) μ Q := r_putI 6 gC2 (by decide) (fun _ => rfl) ⟨rfl, rfl⟩ (by rw [hm]; exact wF_X2_85) hd ha hk k
theorem wF_X10_253 : Cond.fieldLink RX10 253 (TX2 6).1 (TX2 6).2.1 (TX2 6).2.2.1 ∈ lw_g := lw_g_of 341 (by decide +kernel) rfl
theorem gf_X10_253 {κ : Nat → Nat} {N d : Nat} {mi : gMI} {pc : Nat} {lv : List (Nat × Value)} {sk : List Value} {μ : gMem} {Q : rQ} {a : Nat} (hm : mi.1 = RX10) (hd : decode mi.2.1 pc = .ok (.getfield 253, 3)) (ha : a < N) (hk : kd a = 2) (k : RR κ N d mi (pc + 3) lv (.int (μ a 6) :: sk) μ Q) : RR κ N d mi pc lv (.ref (κ 0 + a) :: sk) μ Q := r_getI 6 gC2 (by decide) (fun _ => rfl) (by rw [hm]; exact wF_X10_253) hd ha hk k
theorem pf_X10_253 {κ : Nat → Nat} {N d : Nat} {mi : gMI} {pc : Nat} {lv : List (Nat × Value)} {sk : List Value} {μ : gMem} {Q : rQ} {a : Nat} {v : Int32} (hm : mi.1 = RX10) (hd : decode mi.2.1 pc = .ok (.putfield 253, 3)) (ha : a < N) (hk : kd a = 2) (k : ∀ m : gMem, m = st μ a 6 v → RR κ N d mi (pc + 3) lv sk m Q) : RR κ N d mi pc lv (.int v :: .ref (κ 0 + a) :: sk) μ Q := r_putI 6 gC2 (by decide) (fun _ => rfl) ⟨rfl, rfl⟩ (by rw [hm]; exact wF_X10_253) hd ha hk k
theorem wF_X1_9 : Cond.fieldLink RX1 9 (TX1 0).1 (TX1 0).2.1 (TX1 0).2.2.1 ∈ lw_g := lw_g_of 367 (by decide +kernel) rfl
theorem gf_X1_9 {κ : Nat → Nat} {N d : Nat} {mi : gMI} {pc : Nat} {lv : List (Nat × Value)} {sk : List Value} {μ : gMem} {Q : rQ} {a : Nat} (hm : mi.1 = RX1) (hd : decode mi.2.1 pc = .ok (.getfield 9, 3)) (ha : a < N) (hk : kd a = 1) (k : RR κ N d mi (pc + 3) lv (.ref (κ 0 + 1) :: sk) μ Q) : RR κ N d mi pc lv (.ref (κ 0 + a) :: sk) μ Q := r_getR 0 1 gC1 (by decide) rfl (by rw [hm]; exact wF_X1_9) hd ha hk k
theorem wF_X1_17 : Cond.fieldLink RX1 17 (TX1 1).1 (TX1 1).2.1 (TX1 1).2.2.1 ∈ lw_g := lw_g_of 368 (by decide +kernel) rfl
theorem gf_X1_17 {κ : Nat → Nat} {N d : Nat} {mi : gMI} {pc : Nat} {lv : List (Nat × Value)} {sk : List Value} {μ : gMem} {Q : rQ} {a : Nat} (hm : mi.1 = RX1) (hd : decode mi.2.1 pc = .ok (.getfield 17, 3)) (ha : a < N) (hk : kd a = 1) (k : RR κ N d mi (pc + 3) lv (.ref (κ 0 + 107) :: sk) μ Q) : RR κ N d mi pc lv (.ref (κ 0 + a) :: sk) μ Q := r_getR 1 107 gC1 (by decide) rfl (by rw [hm]; exact wF_X1_17) hd ha hk k
theorem wF_X1_20 : Cond.fieldLink RX1 20 (TX1 2).1 (TX1 2).2.1 (TX1 2).2.2.1 ∈ lw_g := lw_g_of 369 (by decide +kernel) rfl
theorem gf_X1_20 {κ : Nat → Nat} {N d : Nat} {mi : gMI} {pc : Nat} {lv : List (Nat × Value)} {sk : List Value} {μ : gMem} {Q : rQ} {a : Nat} (hm : mi.1 = RX1) (hd : decode mi.2.1 pc = .ok (.getfield 20, 3)) (ha : a < N) (hk : kd a = 1) (k : RR κ N d mi (pc + 3) lv (.ref (κ 0 + 128) :: sk) μ Q) : RR κ N d mi pc lv (.ref (κ 0 + a) :: sk) μ Q := r_getR 2 128 gC1 (by decide) rfl (by rw [hm]; exact wF_X1_20) hd ha hk k
theorem wF_X1_23 : Cond.fieldLink RX1 23 (TX1 3).1 (TX1 3).2.1 (TX1 3).2.2.1 ∈ lw_g := lw_g_of 370 (by decide +kernel) rfl
theorem gf_X1_23 {κ : Nat → Nat} {N d : Nat} {mi : gMI} {pc : Nat} {lv : List (Nat × Value)} {sk : List Value} {μ : gMem} {Q : rQ} {a : Nat} (hm : mi.1 = RX1) (hd : decode mi.2.1 pc = .ok (.getfield 23, 3)) (ha : a < N) (hk : kd a = 1) (k : RR κ N d mi (pc + 3) lv (.ref (κ 0 + 135) :: sk) μ Q) : RR κ N d mi pc lv (.ref (κ 0 + a) :: sk) μ Q := r_getR 3 135 gC1 (by decide) rfl (by rw [hm]; exact wF_X1_23) hd ha hk k
theorem wF_X1_30 : Cond.fieldLink RX1 30 (TX1 4).1 (TX1 4).2.1 (TX1 4).2.2.1 ∈ lw_g := lw_g_of 371 (by decide +kernel) rfl
theorem gf_X1_30 {κ : Nat → Nat} {N d : Nat} {mi : gMI} {pc : Nat} {lv : List (Nat × Value)} {sk : List Value} {μ : gMem} {Q : rQ} {a : Nat} (hm : mi.1 = RX1) (hd : decode mi.2.1 pc = .ok (.getfield 30, 3)) (ha : a < N) (hk : kd a = 1) (k : RR κ N d mi (pc + 3) lv (.ref (κ 0 + 136) :: sk) μ Q) : RR κ N d mi pc lv (.ref (κ 0 + a) :: sk) μ Q := r_getR 4 136 gC1 (by decide) rfl (by rw [hm]; exact wF_X1_30) hd ha hk k
theorem wF_X1_34 : Cond.fieldLink RX1 34 (TX1 5).1 (TX1 5).2.1 (TX1 5).2.2.1 ∈ lw_g := lw_g_of 372 (by decide +kernel) rfl
theorem gf_X1_34 {κ : Nat → Nat} {N d : Nat} {mi : gMI} {pc : Nat} {lv : List (Nat × Value)} {sk : List Value} {μ : gMem} {Q : rQ} {a : Nat} (hm : mi.1 = RX1) (hd : decode mi.2.1 pc = .ok (.getfield 34, 3)) (ha : a < N) (hk : kd a = 1) (k : RR κ N d mi (pc + 3) lv (.ref (κ 0 + 137) :: sk) μ Q) : RR κ N d mi pc lv (.ref (κ 0 + a) :: sk) μ Q := r_getR 5 137 gC1 (by decide) rfl (by rw [hm]; exact wF_X1_34) hd ha hk k
theorem wF_X10_261 : Cond.fieldLink RX10 261 (TX1 5).1 (TX1 5).2.1 (TX1 5).2.2.1 ∈ lw_g := lw_g_of 373 (by decide +kernel) rfl
theorem gf_X10_261 {κ : Nat → Nat} {N d : Nat} {mi : gMI} {pc : Nat} {lv : List (Nat × Value)} {sk : List Value} {μ : gMem} {Q : rQ} {a : Nat} (hm : mi.1 = RX10) (hd : decode mi.2.1 pc = .ok (.getfield 261, 3)) (ha : a < N) (hk : kd a = 1) (k : RR κ N d mi (pc + 3) lv (.ref (κ 0 + 137) :: sk) μ Q) : RR κ N d mi pc lv (.ref (κ 0 + a) :: sk) μ Q := r_getR 5 137 gC1 (by decide) rfl (by rw [hm]; exact wF_X10_261) hd ha hk k
theorem wF_X1_51 : Cond.fieldLink RX1 51 (TX1 6).1 (TX1 6).2.1 (TX1 6).2.2.1 ∈ lw_g := lw_g_of 374 (by decide +kernel) rfl
theorem gf_X1_51 {κ : Nat → Nat} {N d : Nat} {mi : gMI} {pc : Nat} {lv : List (Nat × Value)} {sk : List Value} {μ : gMem} {Q : rQ} {a : Nat} (hm : mi.1 = RX1) (hd : decode mi.2.1 pc = .ok (.getfield 51, 3)) (ha : a < N) (hk : kd a = 1) (k : RR κ N d mi (pc + 3) lv (.int (μ a 6) :: sk) μ Q) : RR κ N d mi pc lv (.ref (κ 0 + a) :: sk) μ Q := r_getI 6 gC1 (by decide) (fun _ => rfl) (by rw [hm]; exact wF_X1_51) hd ha hk k
theorem pf_X1_51 {κ : Nat → Nat} {N d : Nat} {mi : gMI} {pc : Nat} {lv : List (Nat × Value)} {sk : List Value} {μ : gMem} {Q : rQ} {a : Nat} {v : Int32} (hm : mi.1 = RX1) (hd : decode mi.2.1 pc = .ok (.putfield 51, 3)) (ha : a < N) (hk : kd a = 1) (k : ∀ m : gMem, m = st μ a 6 v → RR κ N d mi (pc + 3) lv sk m Q) : RR κ N d mi pc lv (.int v :: .ref (κ 0 + a) :: sk) μ Q := r_putI 6 gC1 (by decide) (fun _ => rfl) ⟨rfl, rfl⟩ (by rw [hm]; exact wF_X1_51) hd ha hk k
theorem wF_X10_258 : Cond.fieldLink RX10 258 (TX1 6).1 (TX1 6).2.1 (TX1 6).2.2.1 ∈ lw_g := lw_g_of 375 (by decide +kernel) rfl
theorem gf_X10_258 {κ : Nat → Nat} {N d : Nat} {mi : gMI} {pc : Nat} {lv : List (Nat × Value)} {sk : List Value} {μ : gMem} {Q : rQ} {a : Nat} (hm : mi.1 = RX10) (hd : decode mi.2.1 pc = .ok (.getfield 258, 3)) (ha : a < N) (hk : kd a = 1) (k : RR κ N d mi (pc + 3) lv (.int (μ a 6) :: sk) μ Q) : RR κ N d mi pc lv (.ref (κ 0 + a) :: sk) μ Q := r_getI 6 gC1 (by decide) (fun _ => rfl) (by rw [hm]; exact wF_X10_258) hd ha hk k
theorem pf_X10_258 {κ : Nat → Nat} {N d : Nat} {mi : gMI} {pc : Nat} {lv : List (Nat × Value)} {sk : List Value} {μ : gMem} {Q : rQ} {a : Nat} {v : Int32} (hm : mi.1 = RX10) (hd : decode mi.2.1 pc = .ok (.putfield 258, 3)) (ha : a < N) (hk : kd a = 1) (k : ∀ m : gMem, m = st μ a 6 v → RR κ N d mi (pc + 3) lv sk m Q) : RR κ N d mi pc lv (.int v :: .ref (κ 0 + a) :: sk) μ Q := r_putI 6 gC1 (by decide) (fun _ => rfl) ⟨rfl, rfl⟩ (by rw [hm]; exact wF_X10_258) hd ha hk k
theorem wF_X1_43 : Cond.fieldLink RX1 43 (TX1 7).1 (TX1 7).2.1 (TX1 7).2.2.1 ∈ lw_g := lw_g_of 376 (by decide +kernel) rfl
theorem gf_X1_43 {κ : Nat → Nat} {N d : Nat} {mi : gMI} {pc : Nat} {lv : List (Nat × Value)} {sk : List Value} {μ : gMem} {Q : rQ} {a : Nat} (hm : mi.1 = RX1) (hd : decode mi.2.1 pc = .ok (.getfield 43, 3)) (ha : a < N) (hk : kd a = 1) (k : RR κ N d mi (pc + 3) lv (.int (μ a 7) :: sk) μ Q) : RR κ N d mi pc lv (.ref (κ 0 + a) :: sk) μ Q := r_getI 7 gC1 (by decide) (fun _ => rfl) (by rw [hm]; exact wF_X1_43) hd ha hk k
theorem pf_X1_43 {κ : Nat → Nat} {N d : Nat} {mi : gMI} {pc : Nat} {lv : List (Nat × Value)} {sk : List Value} {μ : gMem} {Q : rQ} {a : Nat} {v : Int32} (hm : mi.1 = RX1) (hd : decode mi.2.1 pc = .ok (.putfield 43, 3)) (ha : a < N) (hk : kd a = 1) (k : ∀ m : gMem, m = st μ a 7 v → RR κ N d mi (pc + 3) lv sk m Q) : RR κ N d mi pc lv (.int v :: .ref (κ 0 + a) :: sk) μ Q := r_putI 7 gC1 (by decide) (fun _ => rfl) ⟨rfl, rfl⟩ (by rw [hm]; exact wF_X1_43) hd ha hk k
theorem wF_X1_47 : Cond.fieldLink RX1 47 (TX1 8).1 (TX1 8).2.1 (TX1 8).2.2.1 ∈ lw_g := lw_g_of 377 (by decide +kernel) rfl
theorem gf_X1_47 {κ : Nat → Nat} {N d : Nat} {mi : gMI} {pc : Nat} {lv : List (Nat × Value)} {sk : List Value} {μ : gMem} {Q : rQ} {a : Nat} (hm : mi.1 = RX1) (hd : decode mi.2.1 pc = .ok (.getfield 47, 3)) (ha : a < N) (hk : kd a = 1) (k : RR κ N d mi (pc + 3) lv (.int (μ a 8) :: sk) μ Q) : RR κ N d mi pc lv (.ref (κ 0 + a) :: sk) μ Q := r_getI 8 gC1 (by decide) (fun _ => rfl) (by rw [hm]; exact wF_X1_47) hd ha hk k
theorem pf_X1_47 {κ : Nat → Nat} {N d : Nat} {mi : gMI} {pc : Nat} {lv : List (Nat × Value)} {sk : List Value} {μ : gMem} {Q : rQ} {a : Nat} {v : Int32} (hm : mi.1 = RX1) (hd : decode mi.2.1 pc = .ok (.putfield 47, 3)) (ha : a < N) (hk : kd a = 1) (k : ∀ m : gMem, m = st μ a 8 v → RR κ N d mi (pc + 3) lv sk m Q) : RR κ N d mi pc lv (.int v :: .ref (κ 0 + a) :: sk) μ Q := r_putI 8 gC1 (by decide) (fun _ => rfl) ⟨rfl, rfl⟩ (by rw [hm]; exact wF_X1_47) hd ha hk k
theorem wF_X1_48 : Cond.fieldLink RX1 48 (TX1 9).1 (TX1 9).2.1 (TX1 9).2.2.1 ∈ lw_g := lw_g_of 378 (by decide +kernel) rfl
theorem gf_X1_48 {κ : Nat → Nat} {N d : Nat} {mi : gMI} {pc : Nat} {lv : List (Nat × Value)} {sk : List Value} {μ : gMem} {Q : rQ} {a : Nat} (hm : mi.1 = RX1) (hd : decode mi.2.1 pc = .ok (.getfield 48, 3)) (ha : a < N) (hk : kd a = 1) (k : RR κ N d mi (pc + 3) lv (.int (μ a 9) :: sk) μ Q) : RR κ N d mi pc lv (.ref (κ 0 + a) :: sk) μ Q := r_getI 9 gC1 (by decide) (fun _ => rfl) (by rw [hm]; exact wF_X1_48) hd ha hk k
theorem pf_X1_48 {κ : Nat → Nat} {N d : Nat} {mi : gMI} {pc : Nat} {lv : List (Nat × Value)} {sk : List Value} {μ : gMem} {Q : rQ} {a : Nat} {v : Int32} (hm : mi.1 = RX1) (hd : decode mi.2.1 pc = .ok (.putfield 48, 3)) (ha : a < N) (hk : kd a = 1) (k : ∀ m : gMem, m = st μ a 9 v → RR κ N d mi (pc + 3) lv sk m Q) : RR κ N d mi pc lv (.int v :: .ref (κ 0 + a) :: sk) μ Q := r_putI 9 gC1 (by decide) (fun _ => rfl) ⟨rfl, rfl⟩ (by rw [hm]; exact wF_X1_48) hd ha hk k
theorem wF_X10_10 : Cond.fieldLink RX10 10 (TX10 0).1 (TX10 0).2.1 (TX10 0).2.2.1 ∈ lw_g := lw_g_of 412 (by decide +kernel) rfl
theorem gf_X10_10 {κ : Nat → Nat} {N d : Nat} {mi : gMI} {pc : Nat} {lv : List (Nat × Value)} {sk : List Value} {μ : gMem} {Q : rQ} {a : Nat} (hm : mi.1 = RX10) (hd : decode mi.2.1 pc = .ok (.getfield 10, 3)) (ha : a < N) (hk : kd a = 9) (k : RR κ N d mi (pc + 3) lv (.ref (κ 0 + 1) :: sk) μ Q) : RR κ N d mi pc lv (.ref (κ 0 + a) :: sk) μ Q := r_getR 0 1 gC9 (by decide) rfl (by rw [hm]; exact wF_X10_10) hd ha hk k
theorem wF_X10_19 : Cond.fieldLink RX10 19 (TX10 1).1 (TX10 1).2.1 (TX10 1).2.2.1 ∈ lw_g := lw_g_of 413 (by decide +kernel) rfl
theorem gf_X10_19 {κ : Nat → Nat} {N d : Nat} {mi : gMI} {pc : Nat} {lv : List (Nat × Value)} {sk : List Value} {μ : gMem} {Q : rQ} {a : Nat} (hm : mi.1 = RX10) (hd : decode mi.2.1 pc = .ok (.getfield 19, 3)) (ha : a < N) (hk : kd a = 9) (k : RR κ N d mi (pc + 3) lv (.ref (κ 0 + 8) :: sk) μ Q) : RR κ N d mi pc lv (.ref (κ 0 + a) :: sk) μ Q := r_getR 1 8 gC9 (by decide) rfl (by rw [hm]; exact wF_X10_19) hd ha hk k
theorem wF_X10_26 : Cond.fieldLink RX10 26 (TX10 2).1 (TX10 2).2.1 (TX10 2).2.2.1 ∈ lw_g := lw_g_of 414 (by decide +kernel) rfl
theorem gf_X10_26 {κ : Nat → Nat} {N d : Nat} {mi : gMI} {pc : Nat} {lv : List (Nat × Value)} {sk : List Value} {μ : gMem} {Q : rQ} {a : Nat} (hm : mi.1 = RX10) (hd : decode mi.2.1 pc = .ok (.getfield 26, 3)) (ha : a < N) (hk : kd a = 9) (k : RR κ N d mi (pc + 3) lv (.ref (κ 0 + 10) :: sk) μ Q) : RR κ N d mi pc lv (.ref (κ 0 + a) :: sk) μ Q := r_getR 2 10 gC9 (by decide) rfl (by rw [hm]; exact wF_X10_26) hd ha hk k
theorem wF_X10_33 : Cond.fieldLink RX10 33 (TX10 3).1 (TX10 3).2.1 (TX10 3).2.2.1 ∈ lw_g := lw_g_of 415 (by decide +kernel) rfl
theorem gf_X10_33 {κ : Nat → Nat} {N d : Nat} {mi : gMI} {pc : Nat} {lv : List (Nat × Value)} {sk : List Value} {μ : gMem} {Q : rQ} {a : Nat} (hm : mi.1 = RX10) (hd : decode mi.2.1 pc = .ok (.getfield 33, 3)) (ha : a < N) (hk : kd a = 9) (k : RR κ N d mi (pc + 3) lv (.ref (κ 0 + 16) :: sk) μ Q) : RR κ N d mi pc lv (.ref (κ 0 + a) :: sk) μ Q := r_getR 3 16 gC9 (by decide) rfl (by rw [hm]; exact wF_X10_33) hd ha hk k
theorem wF_X10_40 : Cond.fieldLink RX10 40 (TX10 4).1 (TX10 4).2.1 (TX10 4).2.2.1 ∈ lw_g := lw_g_of 416 (by decide +kernel) rfl
theorem gf_X10_40 {κ : Nat → Nat} {N d : Nat} {mi : gMI} {pc : Nat} {lv : List (Nat × Value)} {sk : List Value} {μ : gMem} {Q : rQ} {a : Nat} (hm : mi.1 = RX10) (hd : decode mi.2.1 pc = .ok (.getfield 40, 3)) (ha : a < N) (hk : kd a = 9) (k : RR κ N d mi (pc + 3) lv (.ref (κ 0 + 23) :: sk) μ Q) : RR κ N d mi pc lv (.ref (κ 0 + a) :: sk) μ Q := r_getR 4 23 gC9 (by decide) rfl (by rw [hm]; exact wF_X10_40) hd ha hk k
theorem wF_X10_44 : Cond.fieldLink RX10 44 (TX10 5).1 (TX10 5).2.1 (TX10 5).2.2.1 ∈ lw_g := lw_g_of 417 (by decide +kernel) rfl
theorem gf_X10_44 {κ : Nat → Nat} {N d : Nat} {mi : gMI} {pc : Nat} {lv : List (Nat × Value)} {sk : List Value} {μ : gMem} {Q : rQ} {a : Nat} (hm : mi.1 = RX10) (hd : decode mi.2.1 pc = .ok (.getfield 44, 3)) (ha : a < N) (hk : kd a = 9) (k : RR κ N d mi (pc + 3) lv (.ref (κ 0 + 81) :: sk) μ Q) : RR κ N d mi pc lv (.ref (κ 0 + a) :: sk) μ Q := r_getR 5 81 gC9 (by decide) rfl (by rw [hm]; exact wF_X10_44) hd ha hk k
theorem wF_X10_48 : Cond.fieldLink RX10 48 (TX10 6).1 (TX10 6).2.1 (TX10 6).2.2.1 ∈ lw_g := lw_g_of 418 (by decide +kernel) rfl
theorem gf_X10_48 {κ : Nat → Nat} {N d : Nat} {mi : gMI} {pc : Nat} {lv : List (Nat × Value)} {sk : List Value} {μ : gMem} {Q : rQ} {a : Nat} (hm : mi.1 = RX10) (hd : decode mi.2.1 pc = .ok (.getfield 48, 3)) (ha : a < N) (hk : kd a = 9) (k : RR κ N d mi (pc + 3) lv (.ref (κ 0 + 96) :: sk) μ Q) : RR κ N d mi pc lv (.ref (κ 0 + a) :: sk) μ Q := r_getR 6 96 gC9 (by decide) rfl (by rw [hm]; exact wF_X10_48) hd ha hk k
theorem wF_X10_57 : Cond.fieldLink RX10 57 (TX10 7).1 (TX10 7).2.1 (TX10 7).2.2.1 ∈ lw_g := lw_g_of 419 (by decide +kernel) rfl
theorem gf_X10_57 {κ : Nat → Nat} {N d : Nat} {mi : gMI} {pc : Nat} {lv : List (Nat × Value)} {sk : List Value} {μ : gMem} {Q : rQ} {a : Nat} (hm : mi.1 = RX10) (hd : decode mi.2.1 pc = .ok (.getfield 57, 3)) (ha : a < N) (hk : kd a = 9) (k : RR κ N d mi (pc + 3) lv (.ref (κ 0 + 97) :: sk) μ Q) : RR κ N d mi pc lv (.ref (κ 0 + a) :: sk) μ Q := r_getR 7 97 gC9 (by decide) rfl (by rw [hm]; exact wF_X10_57) hd ha hk k
theorem wF_X10_64 : Cond.fieldLink RX10 64 (TX10 8).1 (TX10 8).2.1 (TX10 8).2.2.1 ∈ lw_g := lw_g_of 420 (by decide +kernel) rfl
theorem gf_X10_64 {κ : Nat → Nat} {N d : Nat} {mi : gMI} {pc : Nat} {lv : List (Nat × Value)} {sk : List Value} {μ : gMem} {Q : rQ} {a : Nat} (hm : mi.1 = RX10) (hd : decode mi.2.1 pc = .ok (.getfield 64, 3)) (ha : a < N) (hk : kd a = 9) (k : RR κ N d mi (pc + 3) lv (.ref (κ 0 + 106) :: sk) μ Q) : RR κ N d mi pc lv (.ref (κ 0 + a) :: sk) μ Q := r_getR 8 106 gC9 (by decide) rfl (by rw [hm]; exact wF_X10_64) hd ha hk k
theorem wF_X10_68 : Cond.fieldLink RX10 68 (TX10 9).1 (TX10 9).2.1 (TX10 9).2.2.1 ∈ lw_g := lw_g_of 421 (by decide +kernel) rfl
theorem gf_X10_68 {κ : Nat → Nat} {N d : Nat} {mi : gMI} {pc : Nat} {lv : List (Nat × Value)} {sk : List Value} {μ : gMem} {Q : rQ} {a : Nat} (hm : mi.1 = RX10) (hd : decode mi.2.1 pc = .ok (.getfield 68, 3)) (ha : a < N) (hk : kd a = 9) (k : RR κ N d mi (pc + 3) lv (.ref (κ 0 + 138) :: sk) μ Q) : RR κ N d mi pc lv (.ref (κ 0 + a) :: sk) μ Q := r_getR 9 138 gC9 (by decide) rfl (by rw [hm]; exact wF_X10_68) hd ha hk k
theorem wF_X10_72 : Cond.fieldLink RX10 72 (TX10 10).1 (TX10 10).2.1 (TX10 10).2.2.1 ∈ lw_g := lw_g_of 422 (by decide +kernel) rfl
theorem gf_X10_72 {κ : Nat → Nat} {N d : Nat} {mi : gMI} {pc : Nat} {lv : List (Nat × Value)} {sk : List Value} {μ : gMem} {Q : rQ} {a : Nat} (hm : mi.1 = RX10) (hd : decode mi.2.1 pc = .ok (.getfield 72, 3)) (ha : a < N) (hk : kd a = 9) (k : RR κ N d mi (pc + 3) lv (.ref (κ 0 + 139) :: sk) μ Q) : RR κ N d mi pc lv (.ref (κ 0 + a) :: sk) μ Q := r_getR 10 139 gC9 (by decide) rfl (by rw [hm]; exact wF_X10_72) hd ha hk k
theorem wF_X10_121 : Cond.fieldLink RX10 121 (TX10 11).1 (TX10 11).2.1 (TX10 11).2.2.1 ∈ lw_g := lw_g_of 423 (by decide +kernel) rfl
theorem gf_X10_121 {κ : Nat → Nat} {N d : Nat} {mi : gMI} {pc : Nat} {lv : List (Nat × Value)} {sk : List Value} {μ : gMem} {Q : rQ} {a : Nat} (hm : mi.1 = RX10) (hd : decode mi.2.1 pc = .ok (.getfield 121, 3)) (ha : a < N) (hk : kd a = 9) (k : RR κ N d mi (pc + 3) lv (.int (μ a 11) :: sk) μ Q) : RR κ N d mi pc lv (.ref (κ 0 + a) :: sk) μ Q := r_getI 11 gC9 (by decide) (fun _ => rfl) (by rw [hm]; exact wF_X10_121) hd ha hk k
theorem pf_X10_121 {κ : Nat → Nat} {N d : Nat} {mi : gMI} {pc : Nat} {lv : List (Nat × Value)} {sk : List Value} {μ : gMem} {Q : rQ} {a : Nat} {v : Int32} (hm : mi.1 = RX10) (hd : decode mi.2.1 pc = .ok (.putfield 121, 3)) (ha : a < N) (hk : kd a = 9) (k : ∀ m : gMem, m = st μ a 11 v → RR κ N d mi (pc + 3) lv sk m Q) : RR κ N d mi pc lv (.int v :: .ref (κ 0 + a) :: sk) μ Q := r_putI 11 gC9 (by decide) (fun _ => rfl) ⟨rfl, rfl⟩ (by rw [hm]; exact wF_X10_121) hd ha hk k
theorem wF_J0_38 : Cond.fieldLink RJ0 38 "java/lang/String" "COMPACT_STRINGS" "Z" ∈ lw_g := lw_g_of 504 (by decide +kernel) rfl
theorem wF_J0_1053 : Cond.fieldLink RJ0 1053 "jdk/internal/util/Preconditions" "SIOOBE_FORMATTER" "Ljava/util/function/BiFunction;" ∈ lw_g := lw_g_of 520 (by decide +kernel) rfl
theorem wF_J2_44 : Cond.fieldLink RJ2 44 "java/lang/StringUTF16" "$assertionsDisabled" "Z" ∈ lw_g := lw_g_of 538 (by decide +kernel) rfl
theorem wF_J2_59 : Cond.fieldLink RJ2 59 "java/lang/StringUTF16" "HI_BYTE_SHIFT" "I" ∈ lw_g := lw_g_of 540 (by decide +kernel) rfl
theorem wF_J2_63 : Cond.fieldLink RJ2 63 "java/lang/StringUTF16" "LO_BYTE_SHIFT" "I" ∈ lw_g := lw_g_of 542 (by decide +kernel) rfl
theorem wF_X10_169 : Cond.fieldLink RX10 169 "SieveTub" "ABOVE_SISTER" "[I" ∈ lw_g := lw_g_of 593 (by decide +kernel) rfl
theorem wF_X10_180 : Cond.fieldLink RX10 180 "SieveTub" "ABOVE_SIEVE" "[I" ∈ lw_g := lw_g_of 609 (by decide +kernel) rfl
theorem wF_X11_7 : Cond.fieldLink RX11 7 (TX11 0).1 (TX11 0).2.1 (TX11 0).2.2.1 ∈ lw_g := lw_g_of 853 (by decide +kernel) rfl
theorem gf_X11_7 {κ : Nat → Nat} {N d : Nat} {mi : gMI} {pc : Nat} {lv : List (Nat × Value)} {sk : List Value} {μ : gMem} {Q : rQ} {a : Nat} (hm : mi.1 = RX11) (hd : decode mi.2.1 pc = .ok (.getfield 7, 3)) (ha : a < N) (hk : kd a = 10) (k : RR κ N d mi (pc + 3) lv (.ref (κ 0 + 141) :: sk) μ Q) : RR κ N d mi pc lv (.ref (κ 0 + a) :: sk) μ Q := r_getR 0 141 gC10 (by decide) rfl (by rw [hm]; exact wF_X11_7) hd ha hk k
theorem wF_X11_45 : Cond.fieldLink RX11 45 (TX11 1).1 (TX11 1).2.1 (TX11 1).2.2.1 ∈ lw_g := lw_g_of 854 (by decide +kernel) rfl
theorem gf_X11_45 {κ : Nat → Nat} {N d : Nat} {mi : gMI} {pc : Nat} {lv : List (Nat × Value)} {sk : List Value} {μ : gMem} {Q : rQ} {a : Nat} (hm : mi.1 = RX11) (hd : decode mi.2.1 pc = .ok (.getfield 45, 3)) (ha : a < N) (hk : kd a = 10) (k : RR κ N d mi (pc + 3) lv (.int (μ a 1) :: sk) μ Q) : RR κ N d mi pc lv (.ref (κ 0 + a) :: sk) μ Q := r_getI 1 gC10 (by decide) (fun _ => rfl) (by rw [hm]; exact wF_X11_45) hd ha hk k
theorem pf_X11_45 {κ : Nat → Nat} {N d : Nat} {mi : gMI} {pc : Nat} {lv : List (Nat × Value)} {sk : List Value} {μ : gMem} {Q : rQ} {a : Nat} {v : Int32} (hm : mi.1 = RX11) (hd : decode mi.2.1 pc = .ok (.putfield 45, 3)) (ha : a < N) (hk : kd a = 10) (k : ∀ m : gMem, m = st μ a 1 v → RR κ N d mi (pc + 3) lv sk m Q) : RR κ N d mi pc lv (.int v :: .ref (κ 0 + a) :: sk) μ Q := r_putI 1 gC10 (by decide) (fun _ => rfl) ⟨rfl, rfl⟩ (by rw [hm]; exact wF_X11_45) hd ha hk k
theorem wF_X11_13 : Cond.fieldLink RX11 13 (TX11 2).1 (TX11 2).2.1 (TX11 2).2.2.1 ∈ lw_g := lw_g_of 855 (by decide +kernel) rfl
theorem gf_X11_13 {κ : Nat → Nat} {N d : Nat} {mi : gMI} {pc : Nat} {lv : List (Nat × Value)} {sk : List Value} {μ : gMem} {Q : rQ} {a : Nat} (hm : mi.1 = RX11) (hd : decode mi.2.1 pc = .ok (.getfield 13, 3)) (ha : a < N) (hk : kd a = 10) (k : RR κ N d mi (pc + 3) lv (.ref (κ 0 + 142) :: sk) μ Q) : RR κ N d mi pc lv (.ref (κ 0 + a) :: sk) μ Q := r_getR 2 142 gC10 (by decide) rfl (by rw [hm]; exact wF_X11_13) hd ha hk k
theorem wF_X11_16 : Cond.fieldLink RX11 16 (TX11 3).1 (TX11 3).2.1 (TX11 3).2.2.1 ∈ lw_g := lw_g_of 856 (by decide +kernel) rfl
theorem gf_X11_16 {κ : Nat → Nat} {N d : Nat} {mi : gMI} {pc : Nat} {lv : List (Nat × Value)} {sk : List Value} {μ : gMem} {Q : rQ} {a : Nat} (hm : mi.1 = RX11) (hd : decode mi.2.1 pc = .ok (.getfield 16, 3)) (ha : a < N) (hk : kd a = 10) (k : RR κ N d mi (pc + 3) lv (.ref (κ 0 + 143) :: sk) μ Q) : RR κ N d mi pc lv (.ref (κ 0 + a) :: sk) μ Q := r_getR 3 143 gC10 (by decide) rfl (by rw [hm]; exact wF_X11_16) hd ha hk k
theorem wF_X11_55 : Cond.fieldLink RX11 55 (TX11 4).1 (TX11 4).2.1 (TX11 4).2.2.1 ∈ lw_g := lw_g_of 857 (by decide +kernel) rfl
theorem gf_X11_55 {κ : Nat → Nat} {N d : Nat} {mi : gMI} {pc : Nat} {lv : List (Nat × Value)} {sk : List Value} {μ : gMem} {Q : rQ} {a : Nat} (hm : mi.1 = RX11) (hd : decode mi.2.1 pc = .ok (.getfield 55, 3)) (ha : a < N) (hk : kd a = 10) (k : RR κ N d mi (pc + 3) lv (.int (μ a 4) :: sk) μ Q) : RR κ N d mi pc lv (.ref (κ 0 + a) :: sk) μ Q := r_getI 4 gC10 (by decide) (fun _ => rfl) (by rw [hm]; exact wF_X11_55) hd ha hk k
theorem pf_X11_55 {κ : Nat → Nat} {N d : Nat} {mi : gMI} {pc : Nat} {lv : List (Nat × Value)} {sk : List Value} {μ : gMem} {Q : rQ} {a : Nat} {v : Int32} (hm : mi.1 = RX11) (hd : decode mi.2.1 pc = .ok (.putfield 55, 3)) (ha : a < N) (hk : kd a = 10) (k : ∀ m : gMem, m = st μ a 4 v → RR κ N d mi (pc + 3) lv sk m Q) : RR κ N d mi pc lv (.int v :: .ref (κ 0 + a) :: sk) μ Q := r_putI 4 gC10 (by decide) (fun _ => rfl) ⟨rfl, rfl⟩ (by rw [hm]; exact wF_X11_55) hd ha hk k
theorem wF_X11_58 : Cond.fieldLink RX11 58 (TX11 5).1 (TX11 5).2.1 (TX11 5).2.2.1 ∈ lw_g := lw_g_of 858 (by decide +kernel) rfl
theorem gf_X11_58 {κ : Nat → Nat} {N d : Nat} {mi : gMI} {pc : Nat} {lv : List (Nat × Value)} {sk : List Value} {μ : gMem} {Q : rQ} {a : Nat} (hm : mi.1 = RX11) (hd : decode mi.2.1 pc = .ok (.getfield 58, 3)) (ha : a < N) (hk : kd a = 10) (k : RR κ N d mi (pc + 3) lv (.int (μ a 5) :: sk) μ Q) : RR κ N d mi pc lv (.ref (κ 0 + a) :: sk) μ Q := r_getI 5 gC10 (by decide) (fun _ => rfl) (by rw [hm]; exact wF_X11_58) hd ha hk k
theorem pf_X11_58 {κ : Nat → Nat} {N d : Nat} {mi : gMI} {pc : Nat} {lv : List (Nat × Value)} {sk : List Value} {μ : gMem} {Q : rQ} {a : Nat} {v : Int32} (hm : mi.1 = RX11) (hd : decode mi.2.1 pc = .ok (.putfield 58, 3)) (ha : a < N) (hk : kd a = 10) (k : ∀ m : gMem, m = st μ a 5 v → RR κ N d mi (pc + 3) lv sk m Q) : RR κ N d mi pc lv (.int v :: .ref (κ 0 + a) :: sk) μ Q := r_putI 5 gC10 (by decide) (fun _ => rfl) ⟨rfl, rfl⟩ (by rw [hm]; exact wF_X11_58) hd ha hk k
theorem wF_X11_71 : Cond.fieldLink RX11 71 (TX11 6).1 (TX11 6).2.1 (TX11 6).2.2.1 ∈ lw_g := lw_g_of 859 (by decide +kernel) rfl
theorem gf_X11_71 {κ : Nat → Nat} {N d : Nat} {mi : gMI} {pc : Nat} {lv : List (Nat × Value)} {sk : List Value} {μ : gMem} {Q : rQ} {a : Nat} (hm : mi.1 = RX11) (hd : decode mi.2.1 pc = .ok (.getfield 71, 3)) (ha : a < N) (hk : kd a = 10) (k : RR κ N d mi (pc + 3) lv (.int (μ a 6) :: sk) μ Q) : RR κ N d mi pc lv (.ref (κ 0 + a) :: sk) μ Q := r_getI 6 gC10 (by decide) (fun _ => rfl) (by rw [hm]; exact wF_X11_71) hd ha hk k
theorem pf_X11_71 {κ : Nat → Nat} {N d : Nat} {mi : gMI} {pc : Nat} {lv : List (Nat × Value)} {sk : List Value} {μ : gMem} {Q : rQ} {a : Nat} {v : Int32} (hm : mi.1 = RX11) (hd : decode mi.2.1 pc = .ok (.putfield 71, 3)) (ha : a < N) (hk : kd a = 10) (k : ∀ m : gMem, m = st μ a 6 v → RR κ N d mi (pc + 3) lv sk m Q) : RR κ N d mi pc lv (.int v :: .ref (κ 0 + a) :: sk) μ Q := r_putI 6 gC10 (by decide) (fun _ => rfl) ⟨rfl, rfl⟩ (by rw [hm]; exact wF_X11_71) hd ha hk k
theorem wF_X11_68 : Cond.fieldLink RX11 68 (TX11 7).1 (TX11 7).2.1 (TX11 7).2.2.1 ∈ lw_g := lw_g_of 860 (by decide +kernel) rfl
theorem gf_X11_68 {κ : Nat → Nat} {N d : Nat} {mi : gMI} {pc : Nat} {lv : List (Nat × Value)} {sk : List Value} {μ : gMem} {Q : rQ} {a : Nat} (hm : mi.1 = RX11) (hd : decode mi.2.1 pc = .ok (.getfield 68, 3)) (ha : a < N) (hk : kd a = 10) (k : RR κ N d mi (pc + 3) lv (.int (μ a 7) :: sk) μ Q) : RR κ N d mi pc lv (.ref (κ 0 + a) :: sk) μ Q := r_getI 7 gC10 (by decide) (fun _ => rfl) (by rw [hm]; exact wF_X11_68) hd ha hk k
theorem pf_X11_68 {κ : Nat → Nat} {N d : Nat} {mi : gMI} {pc : Nat} {lv : List (Nat × Value)} {sk : List Value} {μ : gMem} {Q : rQ} {a : Nat} {v : Int32} (hm : mi.1 = RX11) (hd : decode mi.2.1 pc = .ok (.putfield 68, 3)) (ha : a < N) (hk : kd a = 10) (k : ∀ m : gMem, m = st μ a 7 v → RR κ N d mi (pc + 3) lv sk m Q) : RR κ N d mi pc lv (.int v :: .ref (κ 0 + a) :: sk) μ Q := r_putI 7 gC10 (by decide) (fun _ => rfl) ⟨rfl, rfl⟩ (by rw [hm]; exact wF_X11_68) hd ha hk k
theorem wF_X11_65 : Cond.fieldLink RX11 65 (TX11 8).1 (TX11 8).2.1 (TX11 8).2.2.1 ∈ lw_g := lw_g_of 861 (by decide +kernel) rfl
theorem gf_X11_65 {κ : Nat → Nat} {N d : Nat} {mi : gMI} {pc : Nat} {lv : List (Nat × Value)} {sk : List Value} {μ : gMem} {Q : rQ} {a : Nat} (hm : mi.1 = RX11) (hd : decode mi.2.1 pc = .ok (.getfield 65, 3)) (ha : a < N) (hk : kd a = 10) (k : RR κ N d mi (pc + 3) lv (.int (μ a 8) :: sk) μ Q) : RR κ N d mi pc lv (.ref (κ 0 + a) :: sk) μ Q := r_getI 8 gC10 (by decide) (fun _ => rfl) (by rw [hm]; exact wF_X11_65) hd ha hk k
theorem pf_X11_65 {κ : Nat → Nat} {N d : Nat} {mi : gMI} {pc : Nat} {lv : List (Nat × Value)} {sk : List Value} {μ : gMem} {Q : rQ} {a : Nat} {v : Int32} (hm : mi.1 = RX11) (hd : decode mi.2.1 pc = .ok (.putfield 65, 3)) (ha : a < N) (hk : kd a = 10) (k : ∀ m : gMem, m = st μ a 8 v → RR κ N d mi (pc + 3) lv sk m Q) : RR κ N d mi pc lv (.int v :: .ref (κ 0 + a) :: sk) μ Q := r_putI 8 gC10 (by decide) (fun _ => rfl) ⟨rfl, rfl⟩ (by rw [hm]; exact wF_X11_65) hd ha hk k
theorem wF_X11_19 : Cond.fieldLink RX11 19 (TX11 9).1 (TX11 9).2.1 (TX11 9).2.2.1 ∈ lw_g := lw_g_of 862 (by decide +kernel) rfl
theorem gf_X11_19 {κ : Nat → Nat} {N d : Nat} {mi : gMI} {pc : Nat} {lv : List (Nat × Value)} {sk : List Value} {μ : gMem} {Q : rQ} {a : Nat} (hm : mi.1 = RX11) (hd : decode mi.2.1 pc = .ok (.getfield 19, 3)) (ha : a < N) (hk : kd a = 10) (k : RR κ N d mi (pc + 3) lv (.ref (κ 0 + 144) :: sk) μ Q) : RR κ N d mi pc lv (.ref (κ 0 + a) :: sk) μ Q := r_getR 9 144 gC10 (by decide) rfl (by rw [hm]; exact wF_X11_19) hd ha hk k
theorem wF_X11_95 : Cond.fieldLink RX11 95 (TX11 10).1 (TX11 10).2.1 (TX11 10).2.2.1 ∈ lw_g := lw_g_of 863 (by decide +kernel) rfl
theorem gf_X11_95 {κ : Nat → Nat} {N d : Nat} {mi : gMI} {pc : Nat} {lv : List (Nat × Value)} {sk : List Value} {μ : gMem} {Q : rQ} {a : Nat} (hm : mi.1 = RX11) (hd : decode mi.2.1 pc = .ok (.getfield 95, 3)) (ha : a < N) (hk : kd a = 10) (k : RR κ N d mi (pc + 3) lv (.int (μ a 10) :: sk) μ Q) : RR κ N d mi pc lv (.ref (κ 0 + a) :: sk) μ Q := r_getI 10 gC10 (by decide) (fun _ => rfl) (by rw [hm]; exact wF_X11_95) hd ha hk k
theorem pf_X11_95 {κ : Nat → Nat} {N d : Nat} {mi : gMI} {pc : Nat} {lv : List (Nat × Value)} {sk : List Value} {μ : gMem} {Q : rQ} {a : Nat} {v : Int32} (hm : mi.1 = RX11) (hd : decode mi.2.1 pc = .ok (.putfield 95, 3)) (ha : a < N) (hk : kd a = 10) (k : ∀ m : gMem, m = st μ a 10 v → RR κ N d mi (pc + 3) lv sk m Q) : RR κ N d mi pc lv (.int v :: .ref (κ 0 + a) :: sk) μ Q := r_putI 10 gC10 (by decide) (fun _ => rfl) ⟨rfl, rfl⟩ (by rw [hm]; exact wF_X11_95) hd ha hk k
theorem wF_X11_114 : Cond.fieldLink RX11 114 (TX11 11).1 (TX11 11).2.1 (TX11 11).2.2.1 ∈ lw_g := lw_g_of 864 (by decide +kernel) rfl
theorem gf_X11_114 {κ : Nat → Nat} {N d : Nat} {mi : gMI} {pc : Nat} {lv : List (Nat × Value)} {sk : List Value} {μ : gMem} {Q : rQ} {a : Nat} (hm : mi.1 = RX11) (hd : decode mi.2.1 pc = .ok (.getfield 114, 3)) (ha : a < N) (hk : kd a = 10) (k : RR κ N d mi (pc + 3) lv (.int (μ a 11) :: sk) μ Q) : RR κ N d mi pc lv (.ref (κ 0 + a) :: sk) μ Q := r_getI 11 gC10 (by decide) (fun _ => rfl) (by rw [hm]; exact wF_X11_114) hd ha hk k
theorem pf_X11_114 {κ : Nat → Nat} {N d : Nat} {mi : gMI} {pc : Nat} {lv : List (Nat × Value)} {sk : List Value} {μ : gMem} {Q : rQ} {a : Nat} {v : Int32} (hm : mi.1 = RX11) (hd : decode mi.2.1 pc = .ok (.putfield 114, 3)) (ha : a < N) (hk : kd a = 10) (k : ∀ m : gMem, m = st μ a 11 v → RR κ N d mi (pc + 3) lv sk m Q) : RR κ N d mi pc lv (.int v :: .ref (κ 0 + a) :: sk) μ Q := r_putI 11 gC10 (by decide) (fun _ => rfl) ⟨rfl, rfl⟩ (by rw [hm]; exact wF_X11_114) hd ha hk k
theorem wF_X11_22 : Cond.fieldLink RX11 22 (TX11 12).1 (TX11 12).2.1 (TX11 12).2.2.1 ∈ lw_g := lw_g_of 865 (by decide +kernel) rfl
theorem gf_X11_22 {κ : Nat → Nat} {N d : Nat} {mi : gMI} {pc : Nat} {lv : List (Nat × Value)} {sk : List Value} {μ : gMem} {Q : rQ} {a : Nat} (hm : mi.1 = RX11) (hd : decode mi.2.1 pc = .ok (.getfield 22, 3)) (ha : a < N) (hk : kd a = 10) (k : RR κ N d mi (pc + 3) lv (.ref (κ 0 + 145) :: sk) μ Q) : RR κ N d mi pc lv (.ref (κ 0 + a) :: sk) μ Q := r_getR 12 145 gC10 (by decide) rfl (by rw [hm]; exact wF_X11_22) hd ha hk k
theorem wF_X11_130 : Cond.fieldLink RX11 130 (TX11 13).1 (TX11 13).2.1 (TX11 13).2.2.1 ∈ lw_g := lw_g_of 866 (by decide +kernel) rfl
theorem gf_X11_130 {κ : Nat → Nat} {N d : Nat} {mi : gMI} {pc : Nat} {lv : List (Nat × Value)} {sk : List Value} {μ : gMem} {Q : rQ} {a : Nat} (hm : mi.1 = RX11) (hd : decode mi.2.1 pc = .ok (.getfield 130, 3)) (ha : a < N) (hk : kd a = 10) (k : RR κ N d mi (pc + 3) lv (.int (μ a 13) :: sk) μ Q) : RR κ N d mi pc lv (.ref (κ 0 + a) :: sk) μ Q := r_getI 13 gC10 (by decide) (fun _ => rfl) (by rw [hm]; exact wF_X11_130) hd ha hk k
theorem pf_X11_130 {κ : Nat → Nat} {N d : Nat} {mi : gMI} {pc : Nat} {lv : List (Nat × Value)} {sk : List Value} {μ : gMem} {Q : rQ} {a : Nat} {v : Int32} (hm : mi.1 = RX11) (hd : decode mi.2.1 pc = .ok (.putfield 130, 3)) (ha : a < N) (hk : kd a = 10) (k : ∀ m : gMem, m = st μ a 13 v → RR κ N d mi (pc + 3) lv sk m Q) : RR κ N d mi pc lv (.int v :: .ref (κ 0 + a) :: sk) μ Q := r_putI 13 gC10 (by decide) (fun _ => rfl) ⟨rfl, rfl⟩ (by rw [hm]; exact wF_X11_130) hd ha hk k
theorem wF_X11_25 : Cond.fieldLink RX11 25 (TX11 14).1 (TX11 14).2.1 (TX11 14).2.2.1 ∈ lw_g := lw_g_of 867 (by decide +kernel) rfl
theorem gf_X11_25 {κ : Nat → Nat} {N d : Nat} {mi : gMI} {pc : Nat} {lv : List (Nat × Value)} {sk : List Value} {μ : gMem} {Q : rQ} {a : Nat} (hm : mi.1 = RX11) (hd : decode mi.2.1 pc = .ok (.getfield 25, 3)) (ha : a < N) (hk : kd a = 10) (k : RR κ N d mi (pc + 3) lv (.ref (κ 0 + 146) :: sk) μ Q) : RR κ N d mi pc lv (.ref (κ 0 + a) :: sk) μ Q := r_getR 14 146 gC10 (by decide) rfl (by rw [hm]; exact wF_X11_25) hd ha hk k
theorem wF_X11_29 : Cond.fieldLink RX11 29 (TX11 15).1 (TX11 15).2.1 (TX11 15).2.2.1 ∈ lw_g := lw_g_of 868 (by decide +kernel) rfl
theorem gf_X11_29 {κ : Nat → Nat} {N d : Nat} {mi : gMI} {pc : Nat} {lv : List (Nat × Value)} {sk : List Value} {μ : gMem} {Q : rQ} {a : Nat} (hm : mi.1 = RX11) (hd : decode mi.2.1 pc = .ok (.getfield 29, 3)) (ha : a < N) (hk : kd a = 10) (k : RR κ N d mi (pc + 3) lv (.ref (κ 0 + 147) :: sk) μ Q) : RR κ N d mi pc lv (.ref (κ 0 + a) :: sk) μ Q := r_getR 15 147 gC10 (by decide) rfl (by rw [hm]; exact wF_X11_29) hd ha hk k
theorem wF_X11_32 : Cond.fieldLink RX11 32 (TX11 16).1 (TX11 16).2.1 (TX11 16).2.2.1 ∈ lw_g := lw_g_of 869 (by decide +kernel) rfl
theorem gf_X11_32 {κ : Nat → Nat} {N d : Nat} {mi : gMI} {pc : Nat} {lv : List (Nat × Value)} {sk : List Value} {μ : gMem} {Q : rQ} {a : Nat} (hm : mi.1 = RX11) (hd : decode mi.2.1 pc = .ok (.getfield 32, 3)) (ha : a < N) (hk : kd a = 10) (k : RR κ N d mi (pc + 3) lv (.ref (κ 0 + 148) :: sk) μ Q) : RR κ N d mi pc lv (.ref (κ 0 + a) :: sk) μ Q := r_getR 16 148 gC10 (by decide) rfl (by rw [hm]; exact wF_X11_32) hd ha hk k
theorem wF_X11_35 : Cond.fieldLink RX11 35 (TX11 17).1 (TX11 17).2.1 (TX11 17).2.2.1 ∈ lw_g := lw_g_of 870 (by decide +kernel) rfl
theorem gf_X11_35 {κ : Nat → Nat} {N d : Nat} {mi : gMI} {pc : Nat} {lv : List (Nat × Value)} {sk : List Value} {μ : gMem} {Q : rQ} {a : Nat} (hm : mi.1 = RX11) (hd : decode mi.2.1 pc = .ok (.getfield 35, 3)) (ha : a < N) (hk : kd a = 10) (k : RR κ N d mi (pc + 3) lv (.ref (κ 0 + 149) :: sk) μ Q) : RR κ N d mi pc lv (.ref (κ 0 + a) :: sk) μ Q := r_getR 17 149 gC10 (by decide) rfl (by rw [hm]; exact wF_X11_35) hd ha hk k
theorem wF_X11_38 : Cond.fieldLink RX11 38 (TX11 18).1 (TX11 18).2.1 (TX11 18).2.2.1 ∈ lw_g := lw_g_of 871 (by decide +kernel) rfl
theorem gf_X11_38 {κ : Nat → Nat} {N d : Nat} {mi : gMI} {pc : Nat} {lv : List (Nat × Value)} {sk : List Value} {μ : gMem} {Q : rQ} {a : Nat} (hm : mi.1 = RX11) (hd : decode mi.2.1 pc = .ok (.getfield 38, 3)) (ha : a < N) (hk : kd a = 10) (k : RR κ N d mi (pc + 3) lv (.ref (κ 0 + 150) :: sk) μ Q) : RR κ N d mi pc lv (.ref (κ 0 + a) :: sk) μ Q := r_getR 18 150 gC10 (by decide) rfl (by rw [hm]; exact wF_X11_38) hd ha hk k
theorem wF_X11_127 : Cond.fieldLink RX11 127 (TX11 19).1 (TX11 19).2.1 (TX11 19).2.2.1 ∈ lw_g := lw_g_of 872 (by decide +kernel) rfl
theorem gf_X11_127 {κ : Nat → Nat} {N d : Nat} {mi : gMI} {pc : Nat} {lv : List (Nat × Value)} {sk : List Value} {μ : gMem} {Q : rQ} {a : Nat} (hm : mi.1 = RX11) (hd : decode mi.2.1 pc = .ok (.getfield 127, 3)) (ha : a < N) (hk : kd a = 10) (k : RR κ N d mi (pc + 3) lv (.int (μ a 19) :: sk) μ Q) : RR κ N d mi pc lv (.ref (κ 0 + a) :: sk) μ Q := r_getI 19 gC10 (by decide) (fun _ => rfl) (by rw [hm]; exact wF_X11_127) hd ha hk k
theorem pf_X11_127 {κ : Nat → Nat} {N d : Nat} {mi : gMI} {pc : Nat} {lv : List (Nat × Value)} {sk : List Value} {μ : gMem} {Q : rQ} {a : Nat} {v : Int32} (hm : mi.1 = RX11) (hd : decode mi.2.1 pc = .ok (.putfield 127, 3)) (ha : a < N) (hk : kd a = 10) (k : ∀ m : gMem, m = st μ a 19 v → RR κ N d mi (pc + 3) lv sk m Q) : RR κ N d mi pc lv (.int v :: .ref (κ 0 + a) :: sk) μ Q := r_putI 19 gC10 (by decide) (fun _ => rfl) ⟨rfl, rfl⟩ (by rw [hm]; exact wF_X11_127) hd ha hk k
theorem wF_X0_96 : Cond.fieldLink RX0 96 "SieveTub$Word" "letters" "Ljava/lang/String;" ∈ lw_g := lw_g_of 1174 (by decide +kernel) rfl
theorem wF_J0_9 : Cond.fieldLink RJ0 9 "java/lang/String" "value" "[B" ∈ lw_g := lw_g_of 1175 (by decide +kernel) rfl
theorem wF_J0_15 : Cond.fieldLink RJ0 15 "java/lang/String" "coder" "B" ∈ lw_g := lw_g_of 1176 (by decide +kernel) rfl
theorem wF_X0_90 : Cond.fieldLink RX0 90 "SieveTub$Word" "deed" "I" ∈ lw_g := lw_g_of 1177 (by decide +kernel) rfl
theorem wF_X9_65 : Cond.fieldLink RX9 65 "SieveTub$Word" "deed" "I" ∈ lw_g := lw_g_of 1178 (by decide +kernel) rfl
theorem wF_X0_93 : Cond.fieldLink RX0 93 "SieveTub$Word" "kind" "I" ∈ lw_g := lw_g_of 1179 (by decide +kernel) rfl
end
section
/-! facts of the layout that the walks need -/
def gF : Nat := 5000
theorem kd_scene {a : Nat} (h : kd a = 5) : kd (a + 1) = 24 ∧ ln (a + 1) = 5 ∧ a + 7 ≤ 140 := by
  have ha : a < 151 := by
    rcases Nat.lt_or_ge a 151 with q | q
    · exact q
    · have : kd a = 99 := by
        unfold kd
        rw [List.getD_eq_getElem?_getD, List.getElem?_eq_none (by simpa [kdL] using q)]
        rfl
      omega
  have key : ∀ a, a < 151 → kd a = 5 → kd (a + 1) = 24 ∧ ln (a + 1) = 5 ∧ a + 7 ≤ 140 := by decide +kernel
  exact key a ha h
theorem kd_lt {a c : Nat} (h : kd a = c) (hc : c < 99) : a < 151 := by
  rcases Nat.lt_or_ge a 151 with q | q
  · exact q
  · have : kd a = 99 := by
      unfold kd
      rw [List.getD_eq_getElem?_getD, List.getElem?_eq_none (by simpa [kdL] using q)]
      rfl
    omega
theorem inb_lt {i : Int32} {n : Nat} (h : inb i n = true) : i.toNatClampNeg < n := by
  have hv := inb_in h
  exact Nat.not_le.mp fun q => hv (Or.inr q)
theorem kd_warr {b : Nat} (h : kd b = 24) {j : Nat} (hj : j < 5) : kd (b + 1 + j) = 8 ∧ b + 1 + j < 140 := by
  have key : ∀ b, b < 151 → kd b = 24 → ∀ j, j < 5 → kd (b + 1 + j) = 8 ∧ b + 1 + j < 140 := by decide +kernel
  exact key b (kd_lt h (by decide)) h j hj
theorem kd_obj {a c : Nat} (h : kd a = c) (hc : c = 5 ∨ c = 6 ∨ c = 8) : a < 140 := by
  have key : ∀ b, b < 151 → (kd b = 5 ∨ kd b = 6 ∨ kd b = 8) → b < 140 := by decide +kernel
  exact key a (kd_lt h (by omega)) (by rw [h]; exact hc)
theorem kd_sis {j : Nat} (hj : j < 5) : kd (2 + 1 + j) = 6 ∧ 2 + 1 + j < 140 := by
  have key : ∀ j, j < 5 → kd (2 + 1 + j) = 6 ∧ 2 + 1 + j < 140 := by decide +kernel
  exact key j hj
theorem kd_past {j : Nat} (hj : j < 8) : kd (24 + 1 + 7 * j) = 5 := by
  have key : ∀ j, j < 8 → kd (24 + 1 + 7 * j) = 5 := by decide +kernel
  exact key j hj
theorem kd_kept {j : Nat} (hj : j < 2) : kd (81 + 1 + 7 * j) = 5 := by
  have key : ∀ j, j < 2 → kd (81 + 1 + 7 * j) = 5 := by decide +kernel
  exact key j hj
theorem kd_r98 {j : Nat} (hj : j < 5) : kd (98 + 1 + j) = 20 ∧ ln (98 + 1 + j) = 99 ∧ 98 + 1 + j < 140 := by
  have key : ∀ j, j < 5 → kd (98 + 1 + j) = 20 ∧ ln (98 + 1 + j) = 99 ∧ 98 + 1 + j < 140 := by decide +kernel
  exact key j hj
theorem kd_r107 {j : Nat} (hj : j < 20) : kd (107 + 1 + j) = 20 ∧ ln (107 + 1 + j) = 40 ∧ 107 + 1 + j < 140 := by
  have key : ∀ j, j < 20 → kd (107 + 1 + j) = 20 ∧ ln (107 + 1 + j) = 40 ∧ 107 + 1 + j < 140 := by decide +kernel
  exact key j hj
theorem kd_r128 {j : Nat} (hj : j < 6) : kd (128 + 1 + j) = 20 ∧ ln (128 + 1 + j) = 40 ∧ 128 + 1 + j < 140 := by
  have key : ∀ j, j < 6 → kd (128 + 1 + j) = 20 ∧ ln (128 + 1 + j) = 40 ∧ 128 + 1 + j < 140 := by decide +kernel
  exact key j hj
theorem kd_0 : kd 0 = 9 := by decide +kernel
theorem kd_1 : kd 1 = 7 := by decide +kernel
theorem kd_2 : kd 2 = 23 := by decide +kernel
theorem ln_2 : ln 2 = 5 := by decide +kernel
theorem kd_3 : kd 3 = 6 := by decide +kernel
theorem kd_4 : kd 4 = 6 := by decide +kernel
theorem kd_5 : kd 5 = 6 := by decide +kernel
theorem kd_6 : kd 6 = 6 := by decide +kernel
theorem kd_7 : kd 7 = 6 := by decide +kernel
theorem kd_8 : kd 8 = 3 := by decide +kernel
theorem kd_9 : kd 9 = 20 := by decide +kernel
theorem ln_9 : ln 9 = 160 := by decide +kernel
theorem kd_10 : kd 10 = 0 := by decide +kernel
theorem kd_11 : kd 11 = 26 := by decide +kernel
theorem ln_11 : ln 11 = 12 := by decide +kernel
theorem kd_12 : kd 12 = 20 := by decide +kernel
theorem ln_12 : ln 12 = 14 := by decide +kernel
theorem kd_13 : kd 13 = 20 := by decide +kernel
theorem ln_13 : ln 13 = 14 := by decide +kernel
theorem kd_14 : kd 14 = 20 := by decide +kernel
theorem ln_14 : ln 14 = 14 := by decide +kernel
theorem kd_15 : kd 15 = 20 := by decide +kernel
theorem ln_15 : ln 15 = 14 := by decide +kernel
theorem kd_16 : kd 16 = 5 := by decide +kernel
theorem kd_17 : kd 17 = 24 := by decide +kernel
theorem ln_17 : ln 17 = 5 := by decide +kernel
theorem kd_18 : kd 18 = 8 := by decide +kernel
theorem kd_19 : kd 19 = 8 := by decide +kernel
theorem kd_20 : kd 20 = 8 := by decide +kernel
theorem kd_21 : kd 21 = 8 := by decide +kernel
theorem kd_22 : kd 22 = 8 := by decide +kernel
theorem kd_23 : kd 23 = 4 := by decide +kernel
theorem kd_24 : kd 24 = 22 := by decide +kernel
theorem ln_24 : ln 24 = 8 := by decide +kernel
theorem kd_25 : kd 25 = 5 := by decide +kernel
theorem kd_26 : kd 26 = 24 := by decide +kernel
theorem ln_26 : ln 26 = 5 := by decide +kernel
theorem kd_27 : kd 27 = 8 := by decide +kernel
theorem kd_28 : kd 28 = 8 := by decide +kernel
theorem kd_29 : kd 29 = 8 := by decide +kernel
theorem kd_30 : kd 30 = 8 := by decide +kernel
theorem kd_31 : kd 31 = 8 := by decide +kernel
theorem kd_32 : kd 32 = 5 := by decide +kernel
theorem kd_33 : kd 33 = 24 := by decide +kernel
theorem ln_33 : ln 33 = 5 := by decide +kernel
theorem kd_34 : kd 34 = 8 := by decide +kernel
theorem kd_35 : kd 35 = 8 := by decide +kernel
theorem kd_36 : kd 36 = 8 := by decide +kernel
theorem kd_37 : kd 37 = 8 := by decide +kernel
theorem kd_38 : kd 38 = 8 := by decide +kernel
theorem kd_39 : kd 39 = 5 := by decide +kernel
theorem kd_40 : kd 40 = 24 := by decide +kernel
theorem ln_40 : ln 40 = 5 := by decide +kernel
theorem kd_41 : kd 41 = 8 := by decide +kernel
theorem kd_42 : kd 42 = 8 := by decide +kernel
theorem kd_43 : kd 43 = 8 := by decide +kernel
theorem kd_44 : kd 44 = 8 := by decide +kernel
theorem kd_45 : kd 45 = 8 := by decide +kernel
theorem kd_46 : kd 46 = 5 := by decide +kernel
theorem kd_47 : kd 47 = 24 := by decide +kernel
theorem ln_47 : ln 47 = 5 := by decide +kernel
theorem kd_48 : kd 48 = 8 := by decide +kernel
theorem kd_49 : kd 49 = 8 := by decide +kernel
theorem kd_50 : kd 50 = 8 := by decide +kernel
theorem kd_51 : kd 51 = 8 := by decide +kernel
theorem kd_52 : kd 52 = 8 := by decide +kernel
theorem kd_53 : kd 53 = 5 := by decide +kernel
theorem kd_54 : kd 54 = 24 := by decide +kernel
theorem ln_54 : ln 54 = 5 := by decide +kernel
theorem kd_55 : kd 55 = 8 := by decide +kernel
theorem kd_56 : kd 56 = 8 := by decide +kernel
theorem kd_57 : kd 57 = 8 := by decide +kernel
theorem kd_58 : kd 58 = 8 := by decide +kernel
theorem kd_59 : kd 59 = 8 := by decide +kernel
theorem kd_60 : kd 60 = 5 := by decide +kernel
theorem kd_61 : kd 61 = 24 := by decide +kernel
theorem ln_61 : ln 61 = 5 := by decide +kernel
theorem kd_62 : kd 62 = 8 := by decide +kernel
theorem kd_63 : kd 63 = 8 := by decide +kernel
theorem kd_64 : kd 64 = 8 := by decide +kernel
theorem kd_65 : kd 65 = 8 := by decide +kernel
theorem kd_66 : kd 66 = 8 := by decide +kernel
theorem kd_67 : kd 67 = 5 := by decide +kernel
theorem kd_68 : kd 68 = 24 := by decide +kernel
theorem ln_68 : ln 68 = 5 := by decide +kernel
theorem kd_69 : kd 69 = 8 := by decide +kernel
theorem kd_70 : kd 70 = 8 := by decide +kernel
theorem kd_71 : kd 71 = 8 := by decide +kernel
theorem kd_72 : kd 72 = 8 := by decide +kernel
theorem kd_73 : kd 73 = 8 := by decide +kernel
theorem kd_74 : kd 74 = 5 := by decide +kernel
theorem kd_75 : kd 75 = 24 := by decide +kernel
theorem ln_75 : ln 75 = 5 := by decide +kernel
theorem kd_76 : kd 76 = 8 := by decide +kernel
theorem kd_77 : kd 77 = 8 := by decide +kernel
theorem kd_78 : kd 78 = 8 := by decide +kernel
theorem kd_79 : kd 79 = 8 := by decide +kernel
theorem kd_80 : kd 80 = 8 := by decide +kernel
theorem kd_81 : kd 81 = 22 := by decide +kernel
theorem ln_81 : ln 81 = 2 := by decide +kernel
theorem kd_82 : kd 82 = 5 := by decide +kernel
theorem kd_83 : kd 83 = 24 := by decide +kernel
theorem ln_83 : ln 83 = 5 := by decide +kernel
theorem kd_84 : kd 84 = 8 := by decide +kernel
theorem kd_85 : kd 85 = 8 := by decide +kernel
theorem kd_86 : kd 86 = 8 := by decide +kernel
theorem kd_87 : kd 87 = 8 := by decide +kernel
theorem kd_88 : kd 88 = 8 := by decide +kernel
theorem kd_89 : kd 89 = 5 := by decide +kernel
theorem kd_90 : kd 90 = 24 := by decide +kernel
theorem ln_90 : ln 90 = 5 := by decide +kernel
theorem kd_91 : kd 91 = 8 := by decide +kernel
theorem kd_92 : kd 92 = 8 := by decide +kernel
theorem kd_93 : kd 93 = 8 := by decide +kernel
theorem kd_94 : kd 94 = 8 := by decide +kernel
theorem kd_95 : kd 95 = 8 := by decide +kernel
theorem kd_96 : kd 96 = 21 := by decide +kernel
theorem ln_96 : ln 96 = 2 := by decide +kernel
theorem kd_97 : kd 97 = 2 := by decide +kernel
theorem kd_98 : kd 98 = 25 := by decide +kernel
theorem ln_98 : ln 98 = 5 := by decide +kernel
theorem kd_99 : kd 99 = 20 := by decide +kernel
theorem ln_99 : ln 99 = 99 := by decide +kernel
theorem kd_100 : kd 100 = 20 := by decide +kernel
theorem ln_100 : ln 100 = 99 := by decide +kernel
theorem kd_101 : kd 101 = 20 := by decide +kernel
theorem ln_101 : ln 101 = 99 := by decide +kernel
theorem kd_102 : kd 102 = 20 := by decide +kernel
theorem ln_102 : ln 102 = 99 := by decide +kernel
theorem kd_103 : kd 103 = 20 := by decide +kernel
theorem ln_103 : ln 103 = 99 := by decide +kernel
theorem kd_104 : kd 104 = 8 := by decide +kernel
theorem kd_105 : kd 105 = 20 := by decide +kernel
theorem ln_105 : ln 105 = 100 := by decide +kernel
theorem kd_106 : kd 106 = 1 := by decide +kernel
theorem kd_107 : kd 107 = 25 := by decide +kernel
theorem ln_107 : ln 107 = 20 := by decide +kernel
theorem kd_108 : kd 108 = 20 := by decide +kernel
theorem ln_108 : ln 108 = 40 := by decide +kernel
theorem kd_109 : kd 109 = 20 := by decide +kernel
theorem ln_109 : ln 109 = 40 := by decide +kernel
theorem kd_110 : kd 110 = 20 := by decide +kernel
theorem ln_110 : ln 110 = 40 := by decide +kernel
theorem kd_111 : kd 111 = 20 := by decide +kernel
theorem ln_111 : ln 111 = 40 := by decide +kernel
theorem kd_112 : kd 112 = 20 := by decide +kernel
theorem ln_112 : ln 112 = 40 := by decide +kernel
theorem kd_113 : kd 113 = 20 := by decide +kernel
theorem ln_113 : ln 113 = 40 := by decide +kernel
theorem kd_114 : kd 114 = 20 := by decide +kernel
theorem ln_114 : ln 114 = 40 := by decide +kernel
theorem kd_115 : kd 115 = 20 := by decide +kernel
theorem ln_115 : ln 115 = 40 := by decide +kernel
theorem kd_116 : kd 116 = 20 := by decide +kernel
theorem ln_116 : ln 116 = 40 := by decide +kernel
theorem kd_117 : kd 117 = 20 := by decide +kernel
theorem ln_117 : ln 117 = 40 := by decide +kernel
theorem kd_118 : kd 118 = 20 := by decide +kernel
theorem ln_118 : ln 118 = 40 := by decide +kernel
theorem kd_119 : kd 119 = 20 := by decide +kernel
theorem ln_119 : ln 119 = 40 := by decide +kernel
theorem kd_120 : kd 120 = 20 := by decide +kernel
theorem ln_120 : ln 120 = 40 := by decide +kernel
theorem kd_121 : kd 121 = 20 := by decide +kernel
theorem ln_121 : ln 121 = 40 := by decide +kernel
theorem kd_122 : kd 122 = 20 := by decide +kernel
theorem ln_122 : ln 122 = 40 := by decide +kernel
theorem kd_123 : kd 123 = 20 := by decide +kernel
theorem ln_123 : ln 123 = 40 := by decide +kernel
theorem kd_124 : kd 124 = 20 := by decide +kernel
theorem ln_124 : ln 124 = 40 := by decide +kernel
theorem kd_125 : kd 125 = 20 := by decide +kernel
theorem ln_125 : ln 125 = 40 := by decide +kernel
theorem kd_126 : kd 126 = 20 := by decide +kernel
theorem ln_126 : ln 126 = 40 := by decide +kernel
theorem kd_127 : kd 127 = 20 := by decide +kernel
theorem ln_127 : ln 127 = 40 := by decide +kernel
theorem kd_128 : kd 128 = 25 := by decide +kernel
theorem ln_128 : ln 128 = 6 := by decide +kernel
theorem kd_129 : kd 129 = 20 := by decide +kernel
theorem ln_129 : ln 129 = 40 := by decide +kernel
theorem kd_130 : kd 130 = 20 := by decide +kernel
theorem ln_130 : ln 130 = 40 := by decide +kernel
theorem kd_131 : kd 131 = 20 := by decide +kernel
theorem ln_131 : ln 131 = 40 := by decide +kernel
theorem kd_132 : kd 132 = 20 := by decide +kernel
theorem ln_132 : ln 132 = 40 := by decide +kernel
theorem kd_133 : kd 133 = 20 := by decide +kernel
theorem ln_133 : ln 133 = 40 := by decide +kernel
theorem kd_134 : kd 134 = 20 := by decide +kernel
theorem ln_134 : ln 134 = 40 := by decide +kernel
theorem kd_135 : kd 135 = 20 := by decide +kernel
theorem ln_135 : ln 135 = 5 := by decide +kernel
theorem kd_136 : kd 136 = 8 := by decide +kernel
theorem kd_137 : kd 137 = 20 := by decide +kernel
theorem ln_137 : ln 137 = 5 := by decide +kernel
theorem kd_138 : kd 138 = 20 := by decide +kernel
theorem ln_138 : ln 138 = 6 := by decide +kernel
theorem kd_139 : kd 139 = 20 := by decide +kernel
theorem ln_139 : ln 139 = 6 := by decide +kernel
theorem kd_140 : kd 140 = 10 := by decide +kernel
theorem kd_141 : kd 141 = 20 := by decide +kernel
theorem ln_141 : ln 141 = 31 := by decide +kernel
theorem kd_142 : kd 142 = 20 := by decide +kernel
theorem ln_142 : ln 142 = 35 := by decide +kernel
theorem kd_143 : kd 143 = 20 := by decide +kernel
theorem ln_143 : ln 143 = 160 := by decide +kernel
theorem kd_144 : kd 144 = 20 := by decide +kernel
theorem ln_144 : ln 144 = 31 := by decide +kernel
theorem kd_145 : kd 145 = 20 := by decide +kernel
theorem ln_145 : ln 145 = 280 := by decide +kernel
theorem kd_146 : kd 146 = 21 := by decide +kernel
theorem ln_146 : ln 146 = 2 := by decide +kernel
theorem kd_147 : kd 147 = 20 := by decide +kernel
theorem ln_147 : ln 147 = 70 := by decide +kernel
theorem kd_148 : kd 148 = 20 := by decide +kernel
theorem ln_148 : ln 148 = 35 := by decide +kernel
theorem kd_149 : kd 149 = 20 := by decide +kernel
theorem ln_149 : ln 149 = 5 := by decide +kernel
theorem kd_150 : kd 150 = 20 := by decide +kernel
theorem ln_150 : ln 150 = 12 := by decide +kernel
end
section
theorem nz_if {c : Prop} [Decidable c] {y : Int32} (e : y = if c then 1 else 0) : narrow .boolean (.int y) = .int y := by
  rw [e]
  by_cases hc : c
  · rw [if_pos hc]; rfl
  · rw [if_neg hc]; rfl
theorem nz_if' {c : Prop} [Decidable c] {y : Int32} (e : y = if c then 0 else 1) : narrow .boolean (.int y) = .int y := by
  rw [e]
  by_cases hc : c
  · rw [if_pos hc]; rfl
  · rw [if_neg hc]; rfl
/-- a word, or null -/
def wv (κ : Nat → Nat) (o : Option Nat) : Value := match o with
  | none => .null
  | some j => .ref (κ (40 + j))
def qW (κ : Nat → Nat) (o : Option Nat) (μ' : gMem) : rQ := fun v m => v = some (wv κ o) ∧ m = μ' ∧ ∀ j, o = some j → j < 12
def qC (r : Int32) (μ' : gMem) : rQ := fun v m => v = some (.int r) ∧ m = μ'
section EX
variable {κ : Nat → Nat} {N d : Nat} {mi : gMI} {pc : Nat} {lv : List (Nat × Value)} {sk : List Value} {n : Nat} {w : gWd} {cr sr : Nat} {Q : gQ} {μ μ' : gMem}
theorem g_aload_nN {j : Fin 4} {i : Nat} (hd : decode mi.2.1 pc = .ok (.aload_n j, 1)) (hj : (j : Nat) = i) (hg : gGet lv i = some .null) (k : G κ d mi (pc + 1) lv (.null :: sk) n w cr sr Q) : G κ d mi pc lv sk n w cr sr Q := by
  intro p l e R s m args below meth c H locs cells slots mc ms Z ls hX hl hw hS h1 h2 h3 h4 hE
  exact lv_aload_nN hX.1 hX.2.1 hd hj (hl.2.2 _ (gGet_mem hg)) (k p l e R s m args below meth c H locs cells slots mc ms Z ls hX hl hw hS h1 h2 h3 h4 hE)
theorem g_astore_nN {j : Fin 4} {i : Nat} (lv' : List (Nat × Value)) (hd : decode mi.2.1 pc = .ok (.astore_n j, 1)) (hj : (j : Nat) = i) (hn : i < mi.2.2.1) (hl' : gPut lv i .null = lv') (k : G κ d mi (pc + 1) lv' sk n w cr sr Q) : G κ d mi pc lv (.null :: sk) n w cr sr Q := by
  intro p l e R s m args below meth c H locs cells slots mc ms Z ls hX hl hw hS h1 h2 h3 h4 hE
  refine lv_astore_nN hX.1 hX.2.1 hd hj hl hn rfl (fun ls2 hl2 => k p l e R s m args below meth c H locs cells slots mc ms Z ls2 hX (hl2.le ?_) hw hS h1 h2 h3 h4 hE)
  rw [← hl']
  exact gPut_le
theorem r_wret {j : Nat} {o : Option Nat} {rt : FieldType} (hd : decode mi.2.1 pc = .ok (.areturn, 1)) (hr : mi.2.2.2.2 = some rt) (ho : ∃ n, rt = .object n) (hj : j < 12) (h1 : some j = o) (h2 : μ = μ') : RR κ N d mi pc lv [.ref (κ (40 + j))] μ (qW κ o μ') := g_aret hd hr (Or.inl ho) ⟨μ, rfl, rfl, by rw [← h1]; rfl, h2, fun i hi => by rw [← h1] at hi; cases hi; exact hj⟩
theorem r_nret {o : Option Nat} {rt : FieldType} (hd : decode mi.2.1 pc = .ok (.areturn, 1)) (hr : mi.2.2.2.2 = some rt) (ho : ∃ n, rt = .object n) (h1 : none = o) (h2 : μ = μ') : RR κ N d mi pc lv [.null] μ (qW κ o μ') := g_aretN hd hr (Or.inl ho) ⟨μ, rfl, rfl, by rw [← h1]; rfl, h2, fun i hi => by rw [← h1] at hi; cases hi⟩
end EX
theorem gRcW {κ : Nat → Nat} {U : State} {H : Heap} {j : Nat} (h : gT κ U H) (hj : j < 12) : ∃ cell : Cell, H[κ (40 + j)]? = some cell ∧ cell.vm.isStatics = false ∧ U.vm.findClass "SieveTub$Word" = some cell.cls := by
  obtain ⟨cell, h1, h2, h3, -⟩ := (h.2.2.2.1 j hj).1
  exact ⟨cell, h1, h2, h3⟩
theorem gRcS {κ : Nat → Nat} {U : State} {H : Heap} {j : Nat} (h : gT κ U H) (hj : j < 12) : ∃ cell : Cell, H[κ (70 + j)]? = some cell ∧ cell.vm.isStatics = false ∧ U.vm.findClass "java/lang/String" = some cell.cls := by
  obtain ⟨cell, h1, h2, h3, -⟩ := (h.2.2.2.2.1.1 j hj).1
  exact ⟨cell, h1, h2, h3⟩
theorem gStr_c {κ : Nat → Nat} {j : Nat} (hj : j < 12) : ∀ U H, gT κ U H → va_OF "java/lang/String" "coder" "B" (.int 0) (κ (70 + j)) (gA κ) U H := fun _ _ h => (h.2.2.2.2.1.1 j hj).2.1
theorem gStr_v {κ : Nat → Nat} {j : Nat} (hj : j < 12) : ∀ U H, gT κ U H → va_OF "java/lang/String" "value" "[B" (.ref (κ (90 + j))) (κ (70 + j)) (gA κ) U H := fun _ _ h => (h.2.2.2.2.1.1 j hj).2.2.1
theorem gStr_b {κ : Nat → Nat} {j : Nat} (hj : j < 12) : ∀ U H, gT κ U H → va_T .byte (κ (90 + j)) (gLen.getD j 0) (fun q => .int ((gByt.getD j []).getD q 0)) (gA κ) U H := fun _ _ h => (h.2.2.2.2.1.1 j hj).2.2.2
theorem gStr_z {κ : Nat → Nat} : ∀ U H, gT κ U H → va_Z "java/lang/String" "COMPACT_STRINGS" "Z" (.int 1) (gA κ) U H := fun _ _ h => h.2.2.2.2.2.1
theorem gStr_f {κ : Nat → Nat} : ∀ U H, gT κ U H → va_Z "jdk/internal/util/Preconditions" "SIOOBE_FORMATTER" "Ljava/util/function/BiFunction;" (gFm κ) (gA κ) U H := fun _ _ h => h.2.2.2.2.2.2
theorem pJ0_coder_7d493 : (parseMethodDescriptor yJ0_coder_7d493.desc).map (fun d => d.parameters.length) = some 0 := by decide +kernel
theorem pJ0_isLatin1_aae02 : (parseMethodDescriptor yJ0_isLatin1_aae02.desc).map (fun d => d.parameters.length) = some 0 := by decide +kernel
theorem pJ0_checkIndex_df160 : (parseMethodDescriptor yJ0_checkIndex_df160.desc).map (fun d => d.parameters.length) = some 2 := by decide +kernel
theorem pJ1_charAt_3b067 : (parseMethodDescriptor yJ1_charAt_3b067.desc).map (fun d => d.parameters.length) = some 2 := by decide +kernel
theorem pJ3_checkIndex_8e157 : (parseMethodDescriptor yJ3_checkIndex_8e157.desc).map (fun d => d.parameters.length) = some 3 := by decide +kernel
theorem c_J0_coder {κ : Nat → Nat} {N : Nat} {j : Nat} (hj : j < 12) (μ : gMem) : CT2 κ N 1 yJ0_coder_7d493 iJ0_coder_7d493 [.ref (κ (70 + j))] μ (qI 0 μ) := by
  refine CT2.of (by decide) rfl rfl (Nat.le_of_ble_eq_true rfl) ?_
  show RR κ N 1 iJ0_coder_7d493 0 [(0, .ref (κ (70 + j)))] [] μ _
  refine g_gets (pc := 0) dJ0_coder_7d493_0 gStr_z wF_J0_38 ?_
  refine g_if_eq (pc := 3) 13 dJ0_coder_7d493_3 (by decide) (fun z => absurd z (by decide)) (fun _ => ?_)
  refine g_aload_n (pc := 6) dJ0_coder_7d493_6 rfl rfl ?_
  refine g_getO (pc := 7) dJ0_coder_7d493_7 (gStr_c hj) wF_J0_15 ?_
  refine g_goto (pc := 10) 14 dJ0_coder_7d493_10 (by decide) ?_
  exact g_xret dJ0_coder_7d493_14 rfl rfl ⟨μ, rfl, rfl, rfl, rfl⟩
theorem c_J0_isLatin1 {κ : Nat → Nat} {N : Nat} {j : Nat} (hj : j < 12) (μ : gMem) : CT2 κ N 1 yJ0_isLatin1_aae02 iJ0_isLatin1_aae02 [.ref (κ (70 + j))] μ (qI 1 μ) := by
  refine CT2.of (by decide) rfl rfl (Nat.le_of_ble_eq_true rfl) ?_
  show RR κ N 1 iJ0_isLatin1_aae02 0 [(0, .ref (κ (70 + j)))] [] μ _
  refine g_gets (pc := 0) dJ0_isLatin1_aae02_0 gStr_z wF_J0_38 ?_
  refine g_if_eq (pc := 3) 17 dJ0_isLatin1_aae02_3 (by decide) (fun z => absurd z (by decide)) (fun _ => ?_)
  refine g_aload_n (pc := 6) dJ0_isLatin1_aae02_6 rfl rfl ?_
  refine g_getO (pc := 7) dJ0_isLatin1_aae02_7 (gStr_c hj) wF_J0_15 ?_
  refine g_if_ne (pc := 10) 17 dJ0_isLatin1_aae02_10 (by decide) (fun z => absurd rfl z) (fun _ => ?_)
  refine g_iconst (pc := 13) (v := (1 : Int32)) dJ0_isLatin1_aae02_13 rfl ?_
  refine g_goto (pc := 14) 18 dJ0_isLatin1_aae02_14 (by decide) ?_
  exact g_xret dJ0_isLatin1_aae02_18 rfl rfl ⟨μ, rfl, rfl, rfl, rfl⟩
theorem c_J3_check {κ : Nat → Nat} {N : Nat} {i x : Int32} {u : Value} (hu : u = .null ∨ ∃ a, u = .ref a) (h0 : ¬ i < 0) (h1 : i < x) (μ : gMem) : CT2 κ N 1 yJ3_checkIndex_8e157 iJ3_checkIndex_8e157 [.int i, .int x, u] μ (qI i μ) := by
  have e : (lg_sl [.int i, .int x, u]).length ≤ 3 ∧ lv_args 0 [.int i, .int x, u] = [(0, .int i), (1, .int x), (2, u)] := by
    rcases hu with rfl | ⟨a, rfl⟩
    · exact ⟨Nat.le_of_ble_eq_true rfl, rfl⟩
    · exact ⟨Nat.le_of_ble_eq_true rfl, rfl⟩
  refine CT2.of (by decide) rfl rfl e.1 ?_
  rw [e.2]
  refine g_iload_n (pc := 0) dJ3_checkIndex_8e157_0 rfl rfl ?_
  refine g_if_lt (pc := 1) 9 dJ3_checkIndex_8e157_1 (by decide) (fun z => absurd z h0) (fun _ => ?_)
  refine g_iload_n (pc := 4) dJ3_checkIndex_8e157_4 rfl rfl ?_
  refine g_iload_n (pc := 5) dJ3_checkIndex_8e157_5 rfl rfl ?_
  refine g_icmp_lt (pc := 6) 16 dJ3_checkIndex_8e157_6 (by decide) (fun _ => ?_) (fun z => absurd h1 z)
  refine g_iload_n (pc := 16) dJ3_checkIndex_8e157_16 rfl rfl ?_
  exact g_iret dJ3_checkIndex_8e157_17 rfl ⟨μ, rfl, rfl, rfl, rfl⟩
theorem c_J0_check {κ : Nat → Nat} {N : Nat} {i x : Int32} (h0 : ¬ i < 0) (h1 : i < x) (μ : gMem) : CT2 κ N 2 yJ0_checkIndex_df160 iJ0_checkIndex_df160 [.int i, .int x] μ (qV μ) := by
  have hu : gFm κ = .null ∨ ∃ a, gFm κ = .ref a := by
    unfold gFm
    split
    · exact Or.inl rfl
    · exact Or.inr ⟨_, rfl⟩
  refine CT2.of (by decide) rfl rfl (Nat.le_of_ble_eq_true rfl) ?_
  show RR κ N 2 iJ0_checkIndex_df160 0 [(0, .int i), (1, .int x)] [] μ _
  refine g_iload_n (pc := 0) dJ0_checkIndex_df160_0 rfl rfl ?_
  refine g_iload_n (pc := 1) dJ0_checkIndex_df160_1 rfl rfl ?_
  refine g_gets (pc := 2) dJ0_checkIndex_df160_2 gStr_f wF_J0_1053 ?_
  refine r_callS (pc := 5) (c_J3_check hu h0 h1 μ) yS_J3_checkIndex_8e157 pJ3_checkIndex_8e157 mL_J0_1059 dJ0_checkIndex_df160_5 (by decide) (Nat.le_of_ble_eq_true rfl) rfl (rK_i ?_)
  refine g_pop (pc := 8) dJ0_checkIndex_df160_8 rfl ?_
  exact r_vret dJ0_checkIndex_df160_9 rfl rfl
/-- the char of word j at k -/
def gCh (j : Nat) (k : Nat) : Int32 := (gByt.getD j []).getD k 0
theorem gCh_ok : ∀ j, j < 12 → ∀ k, k < gLen.getD j 0 → ((gCh j k &&& 255).toUInt32 % 65536).toInt32 = gCh j k ∧ narrow .char (.int (gCh j k)) = .int (gCh j k) := by decide +kernel
theorem gLen_lt : ∀ j, j < 12 → gLen.getD j 0 < 8 := by decide +kernel
theorem c_J1_charAt {κ : Nat → Nat} {N : Nat} {j : Nat} (hj : j < 12) {i : Int32} (hin : inb i (gLen.getD j 0) = true) (μ : gMem) : CT2 κ N 3 yJ1_charAt_3b067 iJ1_charAt_3b067 [.ref (κ (90 + j)), .int i] μ (qI (gCh j i.toNatClampNeg) μ) := by
  have hv := inb_in hin
  have hlt := inb_lt hin
  have h8 := gLen_lt j hj
  have h0 : ¬ i < 0 := fun z => hv (Or.inl z)
  have h1 : i < Int32.ofNat (gLen.getD j 0) := by
    obtain ⟨q, hq, rfl⟩ := vp_in_of hv (by omega)
    exact nI_lt hq (by omega)
  have hc := gCh_ok j hj _ hlt
  refine CT2.of (by decide) rfl rfl (Nat.le_of_ble_eq_true rfl) ?_
  show RR κ N 3 iJ1_charAt_3b067 0 [(0, .ref (κ (90 + j))), (1, .int i)] [] μ _
  refine g_iload_n (pc := 0) dJ1_charAt_3b067_0 rfl rfl ?_
  refine g_aload_n (pc := 1) dJ1_charAt_3b067_1 rfl rfl ?_
  refine g_tlen (pc := 2) dJ1_charAt_3b067_2 (gStr_b hj) ?_
  refine r_callS (pc := 3) (c_J0_check h0 h1 μ) yS_J0_checkIndex_df160 pJ0_checkIndex_df160 mL_J1_9 dJ1_charAt_3b067_3 (by decide) (Nat.le_of_ble_eq_true rfl) rfl (rK_v ?_)
  refine g_aload_n (pc := 6) dJ1_charAt_3b067_6 rfl rfl ?_
  refine g_iload_n (pc := 7) dJ1_charAt_3b067_7 rfl rfl ?_
  refine g_bald (pc := 8) (v := .int (gCh j i.toNatClampNeg)) dJ1_charAt_3b067_8 (gStr_b hj) hv rfl ?_
  refine g_sipush (pc := 9) (v := (255 : Int32)) dJ1_charAt_3b067_9 rfl ?_
  refine g_iand (pc := 12) dJ1_charAt_3b067_12 ?_
  refine g_i2c (pc := 13) dJ1_charAt_3b067_13 ?_
  rw [hc.1]
  exact g_xret dJ1_charAt_3b067_14 rfl hc.2 ⟨μ, rfl, rfl, rfl, rfl⟩
def f_J0_length_8abf5 (j : Nat) (μ : gMem) : Option (Int32 × gMem) := some (Int32.ofNat (gLen.getD j 0), μ)
def f_J0_charAt_5068e (j : Nat) (i : Int32) (μ : gMem) : Option (Int32 × gMem) := if inb i (gLen.getD j 0) = true then some (gCh j i.toNatClampNeg, μ) else none
theorem pJ0_length_8abf5 : (parseMethodDescriptor yJ0_length_8abf5.desc).map (fun d => d.parameters.length) = some 0 := by decide +kernel
theorem pJ0_charAt_5068e : (parseMethodDescriptor yJ0_charAt_5068e.desc).map (fun d => d.parameters.length) = some 1 := by decide +kernel
theorem c_J0_length_8abf5 {κ : Nat → Nat} {N : Nat} (hN : 140 ≤ N) (j : Nat) (hj : j < 12) (μ : gMem) {r : Int32} {μ' : gMem} (h : f_J0_length_8abf5 j μ = some (r, μ')) : CT2 κ N 2 yJ0_length_8abf5 iJ0_length_8abf5 [.ref (κ (70 + j))] μ (qI r μ') := by
  cases h
  refine CT2.of (by decide) rfl rfl (Nat.le_of_ble_eq_true rfl) ?_
  show RR κ N 2 iJ0_length_8abf5 0 [(0, .ref (κ (70 + j)))] [] μ _
  refine g_aload_n (pc := 0) dJ0_length_8abf5_0 rfl rfl ?_
  refine g_getO (pc := 1) dJ0_length_8abf5_1 (gStr_v hj) wF_J0_9 ?_
  refine g_tlen (pc := 4) dJ0_length_8abf5_4 (gStr_b hj) ?_
  refine g_aload_n (pc := 5) dJ0_length_8abf5_5 rfl rfl ?_
  refine r_callVT (pc := 6) (c_J0_coder hj μ) yV_J0_coder_7d493 (fun _ _ z => gRcS z hj) pJ0_coder_7d493 mL_J0_335 dJ0_length_8abf5_6 (by decide) (Nat.le_of_ble_eq_true rfl) rfl (rK_i ?_)
  refine g_ishr (pc := 9) dJ0_length_8abf5_9 ?_
  have e : Int32.ofNat (gLen.getD j 0) >>> ((0 : Int32) &&& 31) = Int32.ofNat (gLen.getD j 0) := sb_shr0 _
  rw [e]
  exact r_iret dJ0_length_8abf5_10 rfl rfl rfl
theorem c_J0_charAt_5068e {κ : Nat → Nat} {N : Nat} (hN : 140 ≤ N) (j : Nat) (i : Int32) (hj : j < 12) (μ : gMem) {r : Int32} {μ' : gMem} (h : f_J0_charAt_5068e j i μ = some (r, μ')) : CT2 κ N 4 yJ0_charAt_5068e iJ0_charAt_5068e [.ref (κ (70 + j)), .int i] μ (qI r μ') := by
  unfold f_J0_charAt_5068e at h
  obtain ⟨hin, h⟩ := gd_some h
  cases h
  have hc := gCh_ok j hj _ (inb_lt hin)
  refine CT2.of (by decide) rfl rfl (Nat.le_of_ble_eq_true rfl) ?_
  show RR κ N 4 iJ0_charAt_5068e 0 [(0, .ref (κ (70 + j))), (1, .int i)] [] μ _
  refine g_aload_n (pc := 0) dJ0_charAt_5068e_0 rfl rfl ?_
  refine r_callVT (pc := 1) (c_J0_isLatin1 hj μ) yV_J0_isLatin1_aae02 (fun _ _ z => gRcS z hj) pJ0_isLatin1_aae02 mL_J0_492 dJ0_charAt_5068e_1 (by decide) (Nat.le_of_ble_eq_true rfl) rfl (rK_i ?_)
  refine g_if_eq (pc := 4) 16 dJ0_charAt_5068e_4 (by decide) (fun z => absurd z (by decide)) (fun _ => ?_)
  refine g_aload_n (pc := 7) dJ0_charAt_5068e_7 rfl rfl ?_
  refine g_getO (pc := 8) dJ0_charAt_5068e_8 (gStr_v hj) wF_J0_9 ?_
  refine g_iload_n (pc := 11) dJ0_charAt_5068e_11 rfl rfl ?_
  refine r_callS (pc := 12) (c_J1_charAt hj hin μ) yS_J1_charAt_3b067 pJ1_charAt_3b067 mL_J0_495 dJ0_charAt_5068e_12 (by decide) (Nat.le_of_ble_eq_true rfl) rfl (rK_i ?_)
  exact g_xret dJ0_charAt_5068e_15 rfl hc.2 ⟨_, rfl, rfl, rfl, rfl⟩
end
