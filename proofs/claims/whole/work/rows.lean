section
-- ===== PART A: goes FIRST, ahead of the names: the tables' words, and 'selects' of the private methods out of them =====
/-- a private method of a class that the tables say can be made, by its rows of tables_1 -/
def lw_okq (q : MethodName × Nat) : Prop := (q.1.cls ≠ "java/lang/invoke/MethodHandle" ∧ q.1.cls ≠ "java/lang/invoke/VarHandle") ∧ Cond.instantiable q.1.cls q.2 ∈ tables_1 ∧ Cond.privateMethod q.1 ∈ tables_1 ∧ Cond.instanceMethod q.1 ∈ tables_1
theorem lw_p0 : lw_okq (⟨"RowBank$Past", "forget", "()V"⟩, 12) := ⟨⟨by decide +kernel, by decide +kernel⟩, List.mem_of_getElem? (i := 32) (by decide +kernel), List.mem_of_getElem? (i := 38) (by decide +kernel), List.mem_of_getElem? (i := 39) (by decide +kernel)⟩
theorem lw_p1 : lw_okq (⟨"RowBank", "passTick", "()I"⟩, 16) := ⟨⟨by decide +kernel, by decide +kernel⟩, List.mem_of_getElem? (i := 24) (by decide +kernel), List.mem_of_getElem? (i := 503) (by decide +kernel), List.mem_of_getElem? (i := 504) (by decide +kernel)⟩
theorem lw_p2 : lw_okq (⟨"RowBank", "owedThisTick", "()I"⟩, 16) := ⟨⟨by decide +kernel, by decide +kernel⟩, List.mem_of_getElem? (i := 24) (by decide +kernel), List.mem_of_getElem? (i := 507) (by decide +kernel), List.mem_of_getElem? (i := 508) (by decide +kernel)⟩
theorem lw_p3 : lw_okq (⟨"RowBank$Queue", "unlink", "(LRowBank$Ask;LRowBank$Ask;)V"⟩, 11) := ⟨⟨by decide +kernel, by decide +kernel⟩, List.mem_of_getElem? (i := 144) (by decide +kernel), List.mem_of_getElem? (i := 515) (by decide +kernel), List.mem_of_getElem? (i := 516) (by decide +kernel)⟩
theorem lw_p4 : lw_okq (⟨"RowBank", "choose", "(I)I"⟩, 16) := ⟨⟨by decide +kernel, by decide +kernel⟩, List.mem_of_getElem? (i := 24) (by decide +kernel), List.mem_of_getElem? (i := 519) (by decide +kernel), List.mem_of_getElem? (i := 520) (by decide +kernel)⟩
theorem lw_p5 : lw_okq (⟨"RowBank", "chooseForRefresh", "()I"⟩, 16) := ⟨⟨by decide +kernel, by decide +kernel⟩, List.mem_of_getElem? (i := 24) (by decide +kernel), List.mem_of_getElem? (i := 523) (by decide +kernel), List.mem_of_getElem? (i := 524) (by decide +kernel)⟩
theorem lw_p6 : lw_okq (⟨"RowBank", "canGo", "(II)Z"⟩, 16) := ⟨⟨by decide +kernel, by decide +kernel⟩, List.mem_of_getElem? (i := 24) (by decide +kernel), List.mem_of_getElem? (i := 527) (by decide +kernel), List.mem_of_getElem? (i := 528) (by decide +kernel)⟩
theorem lw_p7 : lw_okq (⟨"RowBank$Memory", "areAllShut", "()Z"⟩, 2) := ⟨⟨by decide +kernel, by decide +kernel⟩, List.mem_of_getElem? (i := 128) (by decide +kernel), List.mem_of_getElem? (i := 535) (by decide +kernel), List.mem_of_getElem? (i := 536) (by decide +kernel)⟩
theorem lw_p8 : lw_okq (⟨"RowBank$Past", "countedFrom", "(III)I"⟩, 12) := ⟨⟨by decide +kernel, by decide +kernel⟩, List.mem_of_getElem? (i := 32) (by decide +kernel), List.mem_of_getElem? (i := 543) (by decide +kernel), List.mem_of_getElem? (i := 544) (by decide +kernel)⟩
theorem lw_p9 : lw_okq (⟨"RowBank", "chooseForAsks", "()I"⟩, 16) := ⟨⟨by decide +kernel, by decide +kernel⟩, List.mem_of_getElem? (i := 24) (by decide +kernel), List.mem_of_getElem? (i := 550) (by decide +kernel), List.mem_of_getElem? (i := 551) (by decide +kernel)⟩
theorem lw_p10 : lw_okq (⟨"RowBank$Queue", "rankOf", "(LRowBank$Ask;ILRowBank$Memory;)I"⟩, 11) := ⟨⟨by decide +kernel, by decide +kernel⟩, List.mem_of_getElem? (i := 144) (by decide +kernel), List.mem_of_getElem? (i := 558) (by decide +kernel), List.mem_of_getElem? (i := 559) (by decide +kernel)⟩
theorem lw_p11 : lw_okq (⟨"RowBank", "carryOut", "(IILRowBank$Ask;)V"⟩, 16) := ⟨⟨by decide +kernel, by decide +kernel⟩, List.mem_of_getElem? (i := 24) (by decide +kernel), List.mem_of_getElem? (i := 594) (by decide +kernel), List.mem_of_getElem? (i := 595) (by decide +kernel)⟩
theorem lw_p12 : lw_okq (⟨"RowBank$Past", "rememberOpen", "(II)V"⟩, 12) := ⟨⟨by decide +kernel, by decide +kernel⟩, List.mem_of_getElem? (i := 32) (by decide +kernel), List.mem_of_getElem? (i := 602) (by decide +kernel), List.mem_of_getElem? (i := 603) (by decide +kernel)⟩
theorem lw_p13 : lw_okq (⟨"RowBank", "findShelf", "(I)LRowBank$Shelf;"⟩, 16) := ⟨⟨by decide +kernel, by decide +kernel⟩, List.mem_of_getElem? (i := 24) (by decide +kernel), List.mem_of_getElem? (i := 747) (by decide +kernel), List.mem_of_getElem? (i := 748) (by decide +kernel)⟩
theorem lw_p14 : lw_okq (⟨"RowBank", "keepBytes", "(LRowBank$Shelf;I)I"⟩, 16) := ⟨⟨by decide +kernel, by decide +kernel⟩, List.mem_of_getElem? (i := 24) (by decide +kernel), List.mem_of_getElem? (i := 758) (by decide +kernel), List.mem_of_getElem? (i := 759) (by decide +kernel)⟩
theorem lw_p15 : lw_okq (⟨"java/lang/Throwable", "fillInStackTrace", "(I)Ljava/lang/Throwable;"⟩, 6) := ⟨⟨by decide +kernel, by decide +kernel⟩, List.mem_of_getElem? (i := 879) (by decide +kernel), List.mem_of_getElem? (i := 877) (by decide +kernel), List.mem_of_getElem? (i := 878) (by decide +kernel)⟩
def lw_privs_1 : List (MethodName × Nat) := [(⟨"RowBank$Past", "forget", "()V"⟩, 12), (⟨"RowBank", "passTick", "()I"⟩, 16), (⟨"RowBank", "owedThisTick", "()I"⟩, 16), (⟨"RowBank$Queue", "unlink", "(LRowBank$Ask;LRowBank$Ask;)V"⟩, 11), (⟨"RowBank", "choose", "(I)I"⟩, 16), (⟨"RowBank", "chooseForRefresh", "()I"⟩, 16), (⟨"RowBank", "canGo", "(II)Z"⟩, 16), (⟨"RowBank$Memory", "areAllShut", "()Z"⟩, 2), (⟨"RowBank$Past", "countedFrom", "(III)I"⟩, 12), (⟨"RowBank", "chooseForAsks", "()I"⟩, 16), (⟨"RowBank$Queue", "rankOf", "(LRowBank$Ask;ILRowBank$Memory;)I"⟩, 11), (⟨"RowBank", "carryOut", "(IILRowBank$Ask;)V"⟩, 16), (⟨"RowBank$Past", "rememberOpen", "(II)V"⟩, 12), (⟨"RowBank", "findShelf", "(I)LRowBank$Shelf;"⟩, 16), (⟨"RowBank", "keepBytes", "(LRowBank$Shelf;I)I"⟩, 16), (⟨"java/lang/Throwable", "fillInStackTrace", "(I)Ljava/lang/Throwable;"⟩, 6)]
theorem lw_r1 : ∀ q ∈ lw_privs_1, lw_okq q := List.forall_mem_cons.mpr ⟨lw_p0, List.forall_mem_cons.mpr ⟨lw_p1, List.forall_mem_cons.mpr ⟨lw_p2, List.forall_mem_cons.mpr ⟨lw_p3, List.forall_mem_cons.mpr ⟨lw_p4, List.forall_mem_cons.mpr ⟨lw_p5, List.forall_mem_cons.mpr ⟨lw_p6, List.forall_mem_cons.mpr ⟨lw_p7, List.forall_mem_cons.mpr ⟨lw_p8, List.forall_mem_cons.mpr ⟨lw_p9, List.forall_mem_cons.mpr ⟨lw_p10, List.forall_mem_cons.mpr ⟨lw_p11, List.forall_mem_cons.mpr ⟨lw_p12, List.forall_mem_cons.mpr ⟨lw_p13, List.forall_mem_cons.mpr ⟨lw_p14, List.forall_mem_cons.mpr ⟨lw_p15, fun _ h => absurd h List.not_mem_nil⟩⟩⟩⟩⟩⟩⟩⟩⟩⟩⟩⟩⟩⟩⟩⟩
theorem lw_p16 : lw_okq (⟨"RowBankModel", "added", "(IIIII)I"⟩, 50) := ⟨⟨by decide +kernel, by decide +kernel⟩, List.mem_of_getElem? (i := 951) (by decide +kernel), List.mem_of_getElem? (i := 1143) (by decide +kernel), List.mem_of_getElem? (i := 1144) (by decide +kernel)⟩
theorem lw_p17 : lw_okq (⟨"RowBankModel", "findOldest", "()V"⟩, 50) := ⟨⟨by decide +kernel, by decide +kernel⟩, List.mem_of_getElem? (i := 951) (by decide +kernel), List.mem_of_getElem? (i := 1147) (by decide +kernel), List.mem_of_getElem? (i := 1148) (by decide +kernel)⟩
theorem lw_p18 : lw_okq (⟨"RowBankModel", "tick", "()V"⟩, 50) := ⟨⟨by decide +kernel, by decide +kernel⟩, List.mem_of_getElem? (i := 951) (by decide +kernel), List.mem_of_getElem? (i := 1172) (by decide +kernel), List.mem_of_getElem? (i := 1173) (by decide +kernel)⟩
theorem lw_p19 : lw_okq (⟨"RowBankModel", "begin", "()V"⟩, 50) := ⟨⟨by decide +kernel, by decide +kernel⟩, List.mem_of_getElem? (i := 951) (by decide +kernel), List.mem_of_getElem? (i := 1176) (by decide +kernel), List.mem_of_getElem? (i := 1177) (by decide +kernel)⟩
theorem lw_p20 : lw_okq (⟨"RowBankModel", "waits", "(I)Z"⟩, 50) := ⟨⟨by decide +kernel, by decide +kernel⟩, List.mem_of_getElem? (i := 951) (by decide +kernel), List.mem_of_getElem? (i := 1180) (by decide +kernel), List.mem_of_getElem? (i := 1181) (by decide +kernel)⟩
theorem lw_p21 : lw_okq (⟨"RowBankModel", "isBehind", "(I)Z"⟩, 50) := ⟨⟨by decide +kernel, by decide +kernel⟩, List.mem_of_getElem? (i := 951) (by decide +kernel), List.mem_of_getElem? (i := 1184) (by decide +kernel), List.mem_of_getElem? (i := 1185) (by decide +kernel)⟩
theorem lw_p22 : lw_okq (⟨"RowBankModel", "finish", "(I)V"⟩, 50) := ⟨⟨by decide +kernel, by decide +kernel⟩, List.mem_of_getElem? (i := 951) (by decide +kernel), List.mem_of_getElem? (i := 1188) (by decide +kernel), List.mem_of_getElem? (i := 1189) (by decide +kernel)⟩
theorem lw_p23 : lw_okq (⟨"RowBankModel", "find", "()V"⟩, 50) := ⟨⟨by decide +kernel, by decide +kernel⟩, List.mem_of_getElem? (i := 951) (by decide +kernel), List.mem_of_getElem? (i := 1192) (by decide +kernel), List.mem_of_getElem? (i := 1193) (by decide +kernel)⟩
theorem lw_p24 : lw_okq (⟨"RowBankModel", "choose", "(III)V"⟩, 50) := ⟨⟨by decide +kernel, by decide +kernel⟩, List.mem_of_getElem? (i := 951) (by decide +kernel), List.mem_of_getElem? (i := 1196) (by decide +kernel), List.mem_of_getElem? (i := 1197) (by decide +kernel)⟩
theorem lw_p25 : lw_okq (⟨"RowBankModel", "plainWaiting", "()I"⟩, 50) := ⟨⟨by decide +kernel, by decide +kernel⟩, List.mem_of_getElem? (i := 951) (by decide +kernel), List.mem_of_getElem? (i := 1200) (by decide +kernel), List.mem_of_getElem? (i := 1201) (by decide +kernel)⟩
theorem lw_p26 : lw_okq (⟨"RowBankModel", "canGo", "(II)Z"⟩, 50) := ⟨⟨by decide +kernel, by decide +kernel⟩, List.mem_of_getElem? (i := 951) (by decide +kernel), List.mem_of_getElem? (i := 1204) (by decide +kernel), List.mem_of_getElem? (i := 1205) (by decide +kernel)⟩
theorem lw_p27 : lw_okq (⟨"RowBankModel", "stands", "(II)Z"⟩, 50) := ⟨⟨by decide +kernel, by decide +kernel⟩, List.mem_of_getElem? (i := 951) (by decide +kernel), List.mem_of_getElem? (i := 1208) (by decide +kernel), List.mem_of_getElem? (i := 1209) (by decide +kernel)⟩
theorem lw_p28 : lw_okq (⟨"RowBankModel", "allShut", "()Z"⟩, 50) := ⟨⟨by decide +kernel, by decide +kernel⟩, List.mem_of_getElem? (i := 951) (by decide +kernel), List.mem_of_getElem? (i := 1212) (by decide +kernel), List.mem_of_getElem? (i := 1213) (by decide +kernel)⟩
theorem lw_p29 : lw_okq (⟨"RowBankModel", "fits", "(III)Z"⟩, 50) := ⟨⟨by decide +kernel, by decide +kernel⟩, List.mem_of_getElem? (i := 951) (by decide +kernel), List.mem_of_getElem? (i := 1216) (by decide +kernel), List.mem_of_getElem? (i := 1217) (by decide +kernel)⟩
theorem lw_p30 : lw_okq (⟨"RowBankModel", "asked", "(IIIII)I"⟩, 50) := ⟨⟨by decide +kernel, by decide +kernel⟩, List.mem_of_getElem? (i := 951) (by decide +kernel), List.mem_of_getElem? (i := 1220) (by decide +kernel), List.mem_of_getElem? (i := 1221) (by decide +kernel)⟩
theorem lw_p31 : lw_okq (⟨"RowBankModel", "findOrder", "()V"⟩, 50) := ⟨⟨by decide +kernel, by decide +kernel⟩, List.mem_of_getElem? (i := 951) (by decide +kernel), List.mem_of_getElem? (i := 1224) (by decide +kernel), List.mem_of_getElem? (i := 1225) (by decide +kernel)⟩
def lw_privs_2 : List (MethodName × Nat) := [(⟨"RowBankModel", "added", "(IIIII)I"⟩, 50), (⟨"RowBankModel", "findOldest", "()V"⟩, 50), (⟨"RowBankModel", "tick", "()V"⟩, 50), (⟨"RowBankModel", "begin", "()V"⟩, 50), (⟨"RowBankModel", "waits", "(I)Z"⟩, 50), (⟨"RowBankModel", "isBehind", "(I)Z"⟩, 50), (⟨"RowBankModel", "finish", "(I)V"⟩, 50), (⟨"RowBankModel", "find", "()V"⟩, 50), (⟨"RowBankModel", "choose", "(III)V"⟩, 50), (⟨"RowBankModel", "plainWaiting", "()I"⟩, 50), (⟨"RowBankModel", "canGo", "(II)Z"⟩, 50), (⟨"RowBankModel", "stands", "(II)Z"⟩, 50), (⟨"RowBankModel", "allShut", "()Z"⟩, 50), (⟨"RowBankModel", "fits", "(III)Z"⟩, 50), (⟨"RowBankModel", "asked", "(IIIII)I"⟩, 50), (⟨"RowBankModel", "findOrder", "()V"⟩, 50)]
theorem lw_r2 : ∀ q ∈ lw_privs_2, lw_okq q := List.forall_mem_cons.mpr ⟨lw_p16, List.forall_mem_cons.mpr ⟨lw_p17, List.forall_mem_cons.mpr ⟨lw_p18, List.forall_mem_cons.mpr ⟨lw_p19, List.forall_mem_cons.mpr ⟨lw_p20, List.forall_mem_cons.mpr ⟨lw_p21, List.forall_mem_cons.mpr ⟨lw_p22, List.forall_mem_cons.mpr ⟨lw_p23, List.forall_mem_cons.mpr ⟨lw_p24, List.forall_mem_cons.mpr ⟨lw_p25, List.forall_mem_cons.mpr ⟨lw_p26, List.forall_mem_cons.mpr ⟨lw_p27, List.forall_mem_cons.mpr ⟨lw_p28, List.forall_mem_cons.mpr ⟨lw_p29, List.forall_mem_cons.mpr ⟨lw_p30, List.forall_mem_cons.mpr ⟨lw_p31, fun _ h => absurd h List.not_mem_nil⟩⟩⟩⟩⟩⟩⟩⟩⟩⟩⟩⟩⟩⟩⟩⟩
theorem lw_p32 : lw_okq (⟨"RowBankModel", "rank", "(I)I"⟩, 50) := ⟨⟨by decide +kernel, by decide +kernel⟩, List.mem_of_getElem? (i := 951) (by decide +kernel), List.mem_of_getElem? (i := 1228) (by decide +kernel), List.mem_of_getElem? (i := 1229) (by decide +kernel)⟩
theorem lw_p33 : lw_okq (⟨"RowBankModel", "isOpen", "(I)Z"⟩, 50) := ⟨⟨by decide +kernel, by decide +kernel⟩, List.mem_of_getElem? (i := 951) (by decide +kernel), List.mem_of_getElem? (i := 1232) (by decide +kernel), List.mem_of_getElem? (i := 1233) (by decide +kernel)⟩
theorem lw_p34 : lw_okq (⟨"RowBankModel", "commandOf", "(I)I"⟩, 50) := ⟨⟨by decide +kernel, by decide +kernel⟩, List.mem_of_getElem? (i := 951) (by decide +kernel), List.mem_of_getElem? (i := 1242) (by decide +kernel), List.mem_of_getElem? (i := 1243) (by decide +kernel)⟩
theorem lw_p35 : lw_okq (⟨"RowBankModel", "isHeld", "(I)Z"⟩, 50) := ⟨⟨by decide +kernel, by decide +kernel⟩, List.mem_of_getElem? (i := 951) (by decide +kernel), List.mem_of_getElem? (i := 1246) (by decide +kernel), List.mem_of_getElem? (i := 1247) (by decide +kernel)⟩
theorem lw_p36 : lw_okq (⟨"RowBankModel", "isFirst", "(I)Z"⟩, 50) := ⟨⟨by decide +kernel, by decide +kernel⟩, List.mem_of_getElem? (i := 951) (by decide +kernel), List.mem_of_getElem? (i := 1250) (by decide +kernel), List.mem_of_getElem? (i := 1251) (by decide +kernel)⟩
theorem lw_p37 : lw_okq (⟨"RowBankModel", "go", "()V"⟩, 50) := ⟨⟨by decide +kernel, by decide +kernel⟩, List.mem_of_getElem? (i := 951) (by decide +kernel), List.mem_of_getElem? (i := 1254) (by decide +kernel), List.mem_of_getElem? (i := 1255) (by decide +kernel)⟩
theorem lw_p38 : lw_okq (⟨"RowBankModel", "write", "()V"⟩, 50) := ⟨⟨by decide +kernel, by decide +kernel⟩, List.mem_of_getElem? (i := 951) (by decide +kernel), List.mem_of_getElem? (i := 1258) (by decide +kernel), List.mem_of_getElem? (i := 1259) (by decide +kernel)⟩
theorem lw_p39 : lw_okq (⟨"RowBankModel", "access", "(I)V"⟩, 50) := ⟨⟨by decide +kernel, by decide +kernel⟩, List.mem_of_getElem? (i := 951) (by decide +kernel), List.mem_of_getElem? (i := 1262) (by decide +kernel), List.mem_of_getElem? (i := 1263) (by decide +kernel)⟩
theorem lw_p40 : lw_okq (⟨"RowBankModel", "isAsk", "(I)Z"⟩, 50) := ⟨⟨by decide +kernel, by decide +kernel⟩, List.mem_of_getElem? (i := 951) (by decide +kernel), List.mem_of_getElem? (i := 1278) (by decide +kernel), List.mem_of_getElem? (i := 1279) (by decide +kernel)⟩
theorem lw_p41 : lw_okq (⟨"RowBankModel", "isLogged", "(I)Z"⟩, 50) := ⟨⟨by decide +kernel, by decide +kernel⟩, List.mem_of_getElem? (i := 951) (by decide +kernel), List.mem_of_getElem? (i := 1304) (by decide +kernel), List.mem_of_getElem? (i := 1305) (by decide +kernel)⟩
theorem lw_p42 : lw_okq (⟨"RowBankModel", "breaks", "(I)I"⟩, 50) := ⟨⟨by decide +kernel, by decide +kernel⟩, List.mem_of_getElem? (i := 951) (by decide +kernel), List.mem_of_getElem? (i := 1317) (by decide +kernel), List.mem_of_getElem? (i := 1318) (by decide +kernel)⟩
theorem lw_p43 : lw_okq (⟨"RowBankModel", "addressOf", "(III)I"⟩, 50) := ⟨⟨by decide +kernel, by decide +kernel⟩, List.mem_of_getElem? (i := 951) (by decide +kernel), List.mem_of_getElem? (i := 1346) (by decide +kernel), List.mem_of_getElem? (i := 1347) (by decide +kernel)⟩
theorem lw_p44 : lw_okq (⟨"RowBankModel", "hasPlaces", "(III)Z"⟩, 50) := ⟨⟨by decide +kernel, by decide +kernel⟩, List.mem_of_getElem? (i := 951) (by decide +kernel), List.mem_of_getElem? (i := 1362) (by decide +kernel), List.mem_of_getElem? (i := 1363) (by decide +kernel)⟩
theorem lw_p45 : lw_okq (⟨"RowBankModel", "denied", "(I)I"⟩, 50) := ⟨⟨by decide +kernel, by decide +kernel⟩, List.mem_of_getElem? (i := 951) (by decide +kernel), List.mem_of_getElem? (i := 1370) (by decide +kernel), List.mem_of_getElem? (i := 1371) (by decide +kernel)⟩
def lw_privs_3 : List (MethodName × Nat) := [(⟨"RowBankModel", "rank", "(I)I"⟩, 50), (⟨"RowBankModel", "isOpen", "(I)Z"⟩, 50), (⟨"RowBankModel", "commandOf", "(I)I"⟩, 50), (⟨"RowBankModel", "isHeld", "(I)Z"⟩, 50), (⟨"RowBankModel", "isFirst", "(I)Z"⟩, 50), (⟨"RowBankModel", "go", "()V"⟩, 50), (⟨"RowBankModel", "write", "()V"⟩, 50), (⟨"RowBankModel", "access", "(I)V"⟩, 50), (⟨"RowBankModel", "isAsk", "(I)Z"⟩, 50), (⟨"RowBankModel", "isLogged", "(I)Z"⟩, 50), (⟨"RowBankModel", "breaks", "(I)I"⟩, 50), (⟨"RowBankModel", "addressOf", "(III)I"⟩, 50), (⟨"RowBankModel", "hasPlaces", "(III)Z"⟩, 50), (⟨"RowBankModel", "denied", "(I)I"⟩, 50)]
theorem lw_r3 : ∀ q ∈ lw_privs_3, lw_okq q := List.forall_mem_cons.mpr ⟨lw_p32, List.forall_mem_cons.mpr ⟨lw_p33, List.forall_mem_cons.mpr ⟨lw_p34, List.forall_mem_cons.mpr ⟨lw_p35, List.forall_mem_cons.mpr ⟨lw_p36, List.forall_mem_cons.mpr ⟨lw_p37, List.forall_mem_cons.mpr ⟨lw_p38, List.forall_mem_cons.mpr ⟨lw_p39, List.forall_mem_cons.mpr ⟨lw_p40, List.forall_mem_cons.mpr ⟨lw_p41, List.forall_mem_cons.mpr ⟨lw_p42, List.forall_mem_cons.mpr ⟨lw_p43, List.forall_mem_cons.mpr ⟨lw_p44, List.forall_mem_cons.mpr ⟨lw_p45, fun _ h => absurd h List.not_mem_nil⟩⟩⟩⟩⟩⟩⟩⟩⟩⟩⟩⟩⟩⟩
def lw_privs : List (MethodName × Nat) := lw_privs_1 ++ (lw_privs_2 ++ (lw_privs_3))
def lw_tbl : List Cond := k2_sels lw_privs ++ tables_1
theorem lw_privs_ok : ∀ q ∈ lw_privs, lw_okq q := by
  show ∀ q ∈ lw_privs_1 ++ (lw_privs_2 ++ (lw_privs_3)), lw_okq q
  exact List.forall_mem_append.mpr ⟨lw_r1, List.forall_mem_append.mpr ⟨lw_r2, lw_r3⟩⟩
end
section
def RX0 : String := "RowBank$Ask"
def TX0 : u_T := fun k => match k with
  | _ => ("", "", "", false)
def tyX0 : Nat → FieldType := fun k => match k with
  | _ => .int
abbrev wsX00 : List Cond := u_ws RX0 TX0 0
theorem nmX0 : ∀ a, a < 0 → ∀ b, b < 0 → a ≠ b → (TX0 a).2.1 ≠ (TX0 b).2.1 := by decide +kernel
theorem tyX0_ok : ∀ k, k < 0 → parseFieldDescriptor (TX0 k).2.2.1 = some (tyX0 k) := by decide +kernel
abbrev cX0_init : ByteArray := prog_2_method_1_code
def yX0_init : MethodName := ⟨RX0, "<init>", "(IIII)V"⟩
abbrev cX0_heft : ByteArray := prog_2_method_3_code
def yX0_heft : MethodName := ⟨RX0, "heft", "()I"⟩
abbrev cX0_doneBy : ByteArray := prog_2_method_4_code
def yX0_doneBy : MethodName := ⟨RX0, "doneBy", "()I"⟩
abbrev cX0_answerFrom : ByteArray := prog_2_method_5_code
def yX0_answerFrom : MethodName := ⟨RX0, "answerFrom", "(I)I"⟩
abbrev cX0_octetAfter : ByteArray := prog_2_method_6_code
def yX0_octetAfter : MethodName := ⟨RX0, "octetAfter", "(I)I"⟩
abbrev cX0_fail : ByteArray := prog_2_method_7_code
def yX0_fail : MethodName := ⟨RX0, "fail", "()V"⟩
abbrev cX0_isFence : ByteArray := prog_2_method_8_code
def yX0_isFence : MethodName := ⟨RX0, "isFence", "()Z"⟩
abbrev cX0_clashesWith : ByteArray := prog_2_method_9_code
def yX0_clashesWith : MethodName := ⟨RX0, "clashesWith", "(LRowBank$Ask;)Z"⟩
def RX1 : String := "RowBank$CommandLog"
def TX1 : u_T := fun k => match k with
  | 0 => ("RowBank$CommandLog", "ticks", "[I", true)
  | 1 => ("RowBank$CommandLog", "forged", "[I", true)
  | 2 => ("RowBank$CommandLog", "which", "[I", true)
  | 3 => ("RowBank$CommandLog", "banks", "[I", true)
  | 4 => ("RowBank$CommandLog", "wheres", "[I", true)
  | 5 => ("RowBank$CommandLog", "asks", "[I", true)
  | 6 => ("RowBank$CommandLog", "checked", "LRowBank$Past;", true)
  | 7 => ("RowBank$CommandLog", "size", "I", false)
  | _ => ("RowBank$CommandLog", "faultyRule", "I", false)
def tyX1 : Nat → FieldType := fun k => match k with
  | 0 => .array .int
  | 1 => .array .int
  | 2 => .array .int
  | 3 => .array .int
  | 4 => .array .int
  | 5 => .array .int
  | 6 => .object "RowBank$Past"
  | 7 => .int
  | _ => .int
abbrev wsX10 : List Cond := u_ws RX1 TX1 9
theorem nmX1 : ∀ a, a < 9 → ∀ b, b < 9 → a ≠ b → (TX1 a).2.1 ≠ (TX1 b).2.1 := by decide +kernel
theorem tyX1_ok : ∀ k, k < 9 → parseFieldDescriptor (TX1 k).2.2.1 = some (tyX1 k) := by decide +kernel
abbrev cX1_init : ByteArray := prog_3_method_1_code
def yX1_init : MethodName := ⟨RX1, "<init>", "()V"⟩
abbrev cX1_has : ByteArray := prog_3_method_2_code
def yX1_has : MethodName := ⟨RX1, "has", "(I)Z"⟩
abbrev cX1_add : ByteArray := prog_3_method_3_code
def yX1_add : MethodName := ⟨RX1, "add", "(IILRowBank$Ask;I)V"⟩
abbrev cX1_whereOf : ByteArray := prog_3_method_4_code
def yX1_whereOf : MethodName := ⟨RX1, "whereOf", "(ILRowBank$Ask;)I"⟩
abbrev cX1_findFault : ByteArray := prog_3_method_5_code
def yX1_findFault : MethodName := ⟨RX1, "findFault", "([I)I"⟩
def RX2 : String := "RowBank$FenceAsk"
def TX2 : u_T := fun k => match k with
  | 0 => ("RowBank$Ask", "number", "I", true)
  | 1 => ("RowBank$Ask", "asker", "I", true)
  | 2 => ("RowBank$Ask", "address", "I", true)
  | 3 => ("RowBank$Ask", "bank", "I", true)
  | 4 => ("RowBank$Ask", "inRow", "I", true)
  | 5 => ("RowBank$Ask", "came", "I", true)
  | 6 => ("RowBank$Ask", "done", "I", false)
  | 7 => ("RowBank$Ask", "answer", "I", false)
  | 8 => ("RowBank$Ask", "later", "LRowBank$Ask;", false)
  | 9 => ("RowBank$Ask", "behind", "LRowBank$Ask;", false)
  | _ => ("RowBank$Ask", "rank", "I", false)
def tyX2 : Nat → FieldType := fun k => match k with
  | 0 => .int
  | 1 => .int
  | 2 => .int
  | 3 => .int
  | 4 => .int
  | 5 => .int
  | 6 => .int
  | 7 => .int
  | 8 => .object "RowBank$Ask"
  | 9 => .object "RowBank$Ask"
  | _ => .int
abbrev wsX20 : List Cond := u_ws RX2 TX2 11
theorem nmX2 : ∀ a, a < 11 → ∀ b, b < 11 → a ≠ b → (TX2 a).2.1 ≠ (TX2 b).2.1 := by decide +kernel
theorem tyX2_ok : ∀ k, k < 11 → parseFieldDescriptor (TX2 k).2.2.1 = some (tyX2 k) := by decide +kernel
abbrev cX2_init : ByteArray := prog_4_method_1_code
def yX2_init : MethodName := ⟨RX2, "<init>", "(III)V"⟩
abbrev cX2_kind : ByteArray := prog_4_method_2_code
def yX2_kind : MethodName := ⟨RX2, "kind", "()I"⟩
abbrev cX2_heft : ByteArray := prog_4_method_3_code
def yX2_heft : MethodName := ⟨RX2, "heft", "()I"⟩
def RX3 : String := "RowBank$MaskedAsk"
def TX3 : u_T := fun k => match k with
  | 0 => ("RowBank$WriteAsk", "v", "I", true)
  | 1 => ("RowBank$Ask", "number", "I", true)
  | 2 => ("RowBank$Ask", "asker", "I", true)
  | 3 => ("RowBank$Ask", "address", "I", true)
  | 4 => ("RowBank$Ask", "bank", "I", true)
  | 5 => ("RowBank$Ask", "inRow", "I", true)
  | 6 => ("RowBank$Ask", "came", "I", true)
  | 7 => ("RowBank$Ask", "done", "I", false)
  | 8 => ("RowBank$Ask", "answer", "I", false)
  | 9 => ("RowBank$Ask", "later", "LRowBank$Ask;", false)
  | 10 => ("RowBank$Ask", "behind", "LRowBank$Ask;", false)
  | 11 => ("RowBank$Ask", "rank", "I", false)
  | _ => ("RowBank$MaskedAsk", "bits", "I", true)
def tyX3 : Nat → FieldType := fun k => match k with
  | 0 => .int
  | 1 => .int
  | 2 => .int
  | 3 => .int
  | 4 => .int
  | 5 => .int
  | 6 => .int
  | 7 => .int
  | 8 => .int
  | 9 => .object "RowBank$Ask"
  | 10 => .object "RowBank$Ask"
  | 11 => .int
  | _ => .int
abbrev wsX30 : List Cond := u_ws RX3 TX3 13
theorem nmX3 : ∀ a, a < 13 → ∀ b, b < 13 → a ≠ b → (TX3 a).2.1 ≠ (TX3 b).2.1 := by decide +kernel
theorem tyX3_ok : ∀ k, k < 13 → parseFieldDescriptor (TX3 k).2.2.1 = some (tyX3 k) := by decide +kernel
abbrev cX3_init : ByteArray := prog_5_method_1_code
def yX3_init : MethodName := ⟨RX3, "<init>", "(IIIIII)V"⟩
abbrev cX3_kind : ByteArray := prog_5_method_2_code
def yX3_kind : MethodName := ⟨RX3, "kind", "()I"⟩
abbrev cX3_heft : ByteArray := prog_5_method_3_code
def yX3_heft : MethodName := ⟨RX3, "heft", "()I"⟩
abbrev cX3_octetAfter : ByteArray := prog_5_method_4_code
def yX3_octetAfter : MethodName := ⟨RX3, "octetAfter", "(I)I"⟩
def RX4 : String := "RowBank$Memory"
def TX4 : u_T := fun k => match k with
  | 0 => ("RowBank$Memory", "octets", "[I", true)
  | _ => ("RowBank$Memory", "openRows", "[I", true)
def tyX4 : Nat → FieldType := fun k => match k with
  | 0 => .array .int
  | _ => .array .int
abbrev wsX40 : List Cond := u_ws RX4 TX4 2
theorem nmX4 : ∀ a, a < 2 → ∀ b, b < 2 → a ≠ b → (TX4 a).2.1 ≠ (TX4 b).2.1 := by decide +kernel
theorem tyX4_ok : ∀ k, k < 2 → parseFieldDescriptor (TX4 k).2.2.1 = some (tyX4 k) := by decide +kernel
abbrev cX4_init : ByteArray := prog_6_method_1_code
def yX4_init : MethodName := ⟨RX4, "<init>", "()V"⟩
abbrev cX4_rowOf : ByteArray := prog_6_method_2_code
def yX4_rowOf : MethodName := ⟨RX4, "rowOf", "(I)I"⟩
abbrev cX4_bankOf : ByteArray := prog_6_method_3_code
def yX4_bankOf : MethodName := ⟨RX4, "bankOf", "(I)I"⟩
abbrev cX4_allows : ByteArray := prog_6_method_4_code
def yX4_allows : MethodName := ⟨RX4, "allows", "(II)Z"⟩
abbrev cX4_areAllShut : ByteArray := prog_6_method_5_code
def yX4_areAllShut : MethodName := ⟨RX4, "areAllShut", "()Z"⟩
abbrev cX4_stepToward : ByteArray := prog_6_method_6_code
def yX4_stepToward : MethodName := ⟨RX4, "stepToward", "(LRowBank$Ask;)I"⟩
abbrev cX4_openRow : ByteArray := prog_6_method_7_code
def yX4_openRow : MethodName := ⟨RX4, "openRow", "(II)V"⟩
abbrev cX4_shutRow : ByteArray := prog_6_method_8_code
def yX4_shutRow : MethodName := ⟨RX4, "shutRow", "(I)V"⟩
abbrev cX4_serve : ByteArray := prog_6_method_9_code
def yX4_serve : MethodName := ⟨RX4, "serve", "(LRowBank$Ask;)V"⟩
abbrev cX4_signedRow : ByteArray := prog_6_method_10_code
def yX4_signedRow : MethodName := ⟨RX4, "signedRow", "(II)[I"⟩
def RX5 : String := "RowBank$Past"
def TX5 : u_T := fun k => match k with
  | 0 => ("RowBank$Past", "opens", "[I", true)
  | 1 => ("RowBank$Past", "opensBeside", "[I", true)
  | 2 => ("RowBank$Past", "shuts", "[I", true)
  | 3 => ("RowBank$Past", "reads", "[I", true)
  | 4 => ("RowBank$Past", "writes", "[I", true)
  | 5 => ("RowBank$Past", "columnsOfGroups", "[I", true)
  | 6 => ("RowBank$Past", "fourOpens", "[I", true)
  | 7 => ("RowBank$Past", "opensInAll", "I", false)
  | 8 => ("RowBank$Past", "anyShut", "I", false)
  | 9 => ("RowBank$Past", "anyRead", "I", false)
  | 10 => ("RowBank$Past", "anyWrite", "I", false)
  | _ => ("RowBank$Past", "refreshed", "I", false)
def tyX5 : Nat → FieldType := fun k => match k with
  | 0 => .array .int
  | 1 => .array .int
  | 2 => .array .int
  | 3 => .array .int
  | 4 => .array .int
  | 5 => .array .int
  | 6 => .array .int
  | 7 => .int
  | 8 => .int
  | 9 => .int
  | 10 => .int
  | _ => .int
abbrev wsX50 : List Cond := u_ws RX5 TX5 12
theorem nmX5 : ∀ a, a < 12 → ∀ b, b < 12 → a ≠ b → (TX5 a).2.1 ≠ (TX5 b).2.1 := by decide +kernel
theorem tyX5_ok : ∀ k, k < 12 → parseFieldDescriptor (TX5 k).2.2.1 = some (tyX5 k) := by decide +kernel
abbrev cX5_init : ByteArray := prog_7_method_1_code
def yX5_init : MethodName := ⟨RX5, "<init>", "()V"⟩
abbrev cX5_forget : ByteArray := prog_7_method_2_code
def yX5_forget : MethodName := ⟨RX5, "forget", "()V"⟩
abbrev cX5_remember : ByteArray := prog_7_method_3_code
def yX5_remember : MethodName := ⟨RX5, "remember", "(III)V"⟩
abbrev cX5_rememberOpen : ByteArray := prog_7_method_4_code
def yX5_rememberOpen : MethodName := ⟨RX5, "rememberOpen", "(II)V"⟩
abbrev cX5_leastTick : ByteArray := prog_7_method_5_code
def yX5_leastTick : MethodName := ⟨RX5, "leastTick", "([III)I"⟩
abbrev cX5_leastBroken : ByteArray := prog_7_method_6_code
def yX5_leastBroken : MethodName := ⟨RX5, "leastBroken", "([IIII)I"⟩
abbrev cX5_countedFrom : ByteArray := prog_7_method_7_code
def yX5_countedFrom : MethodName := ⟨RX5, "countedFrom", "(III)I"⟩
def RX6 : String := "RowBank$PlainAsk"
def TX6 : u_T := fun k => match k with
  | 0 => ("RowBank$Ask", "number", "I", true)
  | 1 => ("RowBank$Ask", "asker", "I", true)
  | 2 => ("RowBank$Ask", "address", "I", true)
  | 3 => ("RowBank$Ask", "bank", "I", true)
  | 4 => ("RowBank$Ask", "inRow", "I", true)
  | 5 => ("RowBank$Ask", "came", "I", true)
  | 6 => ("RowBank$Ask", "done", "I", false)
  | 7 => ("RowBank$Ask", "answer", "I", false)
  | 8 => ("RowBank$Ask", "later", "LRowBank$Ask;", false)
  | 9 => ("RowBank$Ask", "behind", "LRowBank$Ask;", false)
  | _ => ("RowBank$Ask", "rank", "I", false)
def tyX6 : Nat → FieldType := fun k => match k with
  | 0 => .int
  | 1 => .int
  | 2 => .int
  | 3 => .int
  | 4 => .int
  | 5 => .int
  | 6 => .int
  | 7 => .int
  | 8 => .object "RowBank$Ask"
  | 9 => .object "RowBank$Ask"
  | _ => .int
abbrev wsX60 : List Cond := u_ws RX6 TX6 11
theorem nmX6 : ∀ a, a < 11 → ∀ b, b < 11 → a ≠ b → (TX6 a).2.1 ≠ (TX6 b).2.1 := by decide +kernel
theorem tyX6_ok : ∀ k, k < 11 → parseFieldDescriptor (TX6 k).2.2.1 = some (tyX6 k) := by decide +kernel
abbrev cX6_init : ByteArray := prog_8_method_1_code
def yX6_init : MethodName := ⟨RX6, "<init>", "(IIII)V"⟩
abbrev cX6_kind : ByteArray := prog_8_method_2_code
def yX6_kind : MethodName := ⟨RX6, "kind", "()I"⟩
abbrev cX6_doneBy : ByteArray := prog_8_method_3_code
def yX6_doneBy : MethodName := ⟨RX6, "doneBy", "()I"⟩
abbrev cX6_answerFrom : ByteArray := prog_8_method_4_code
def yX6_answerFrom : MethodName := ⟨RX6, "answerFrom", "(I)I"⟩
abbrev cX6_fail : ByteArray := prog_8_method_5_code
def yX6_fail : MethodName := ⟨RX6, "fail", "()V"⟩
def RX7 : String := "RowBank$Queue"
def TX7 : u_T := fun k => match k with
  | 0 => ("RowBank$Queue", "all", "[LRowBank$Ask;", true)
  | 1 => ("RowBank$Queue", "plainOctets", "[I", true)
  | 2 => ("RowBank$Queue", "doneOf", "[I", true)
  | 3 => ("RowBank$Queue", "worstWaits", "[I", true)
  | 4 => ("RowBank$Queue", "oldest", "LRowBank$Ask;", false)
  | 5 => ("RowBank$Queue", "newest", "LRowBank$Ask;", false)
  | 6 => ("RowBank$Queue", "came", "I", false)
  | 7 => ("RowBank$Queue", "waiting", "I", false)
  | 8 => ("RowBank$Queue", "fencesWaiting", "I", false)
  | 9 => ("RowBank$Queue", "columns", "I", false)
  | _ => ("RowBank$Queue", "columnsBefore", "I", false)
def tyX7 : Nat → FieldType := fun k => match k with
  | 0 => .array (.object "RowBank$Ask")
  | 1 => .array .int
  | 2 => .array .int
  | 3 => .array .int
  | 4 => .object "RowBank$Ask"
  | 5 => .object "RowBank$Ask"
  | 6 => .int
  | 7 => .int
  | 8 => .int
  | 9 => .int
  | _ => .int
abbrev wsX70 : List Cond := u_ws RX7 TX7 11
theorem nmX7 : ∀ a, a < 11 → ∀ b, b < 11 → a ≠ b → (TX7 a).2.1 ≠ (TX7 b).2.1 := by decide +kernel
theorem tyX7_ok : ∀ k, k < 11 → parseFieldDescriptor (TX7 k).2.2.1 = some (tyX7 k) := by decide +kernel
abbrev cX7_init : ByteArray := prog_9_method_1_code
def yX7_init : MethodName := ⟨RX7, "<init>", "()V"⟩
abbrev cX7_add : ByteArray := prog_9_method_2_code
def yX7_add : MethodName := ⟨RX7, "add", "(LRowBank$Ask;)I"⟩
abbrev cX7_find : ByteArray := prog_9_method_3_code
def yX7_find : MethodName := ⟨RX7, "find", "(I)LRowBank$Ask;"⟩
abbrev cX7_finishFences : ByteArray := prog_9_method_4_code
def yX7_finishFences : MethodName := ⟨RX7, "finishFences", "(I)V"⟩
abbrev cX7_finish : ByteArray := prog_9_method_5_code
def yX7_finish : MethodName := ⟨RX7, "finish", "(LRowBank$Ask;I)V"⟩
abbrev cX7_unlink : ByteArray := prog_9_method_6_code
def yX7_unlink : MethodName := ⟨RX7, "unlink", "(LRowBank$Ask;LRowBank$Ask;)V"⟩
abbrev cX7_isHeld : ByteArray := prog_9_method_7_code
def yX7_isHeld : MethodName := ⟨RX7, "isHeld", "(LRowBank$Ask;Z)Z"⟩
abbrev cX7_arrange : ByteArray := prog_9_method_8_code
def yX7_arrange : MethodName := ⟨RX7, "arrange", "(IILRowBank$Memory;)LRowBank$Ask;"⟩
abbrev cX7_rankOf : ByteArray := prog_9_method_9_code
def yX7_rankOf : MethodName := ⟨RX7, "rankOf", "(LRowBank$Ask;ILRowBank$Memory;)I"⟩
abbrev cX7_insert : ByteArray := prog_9_method_10_code
def yX7_insert : MethodName := ⟨RX7, "insert", "(LRowBank$Ask;LRowBank$Ask;)LRowBank$Ask;"⟩
abbrev cX7_isAsIfInTurn : ByteArray := prog_9_method_11_code
def yX7_isAsIfInTurn : MethodName := ⟨RX7, "isAsIfInTurn", "([I)Z"⟩
def RX8 : String := "RowBank$Shelf"
def TX8 : u_T := fun k => match k with
  | 0 => ("RowBank$Shelf", "ask", "LRowBank$Ask;", false)
  | 1 => ("RowBank$Shelf", "elements", "[I", false)
  | _ => ("RowBank$Shelf", "ofBytes", "Z", false)
def tyX8 : Nat → FieldType := fun k => match k with
  | 0 => .object "RowBank$Ask"
  | 1 => .array .int
  | _ => .boolean
abbrev wsX80 : List Cond := u_ws RX8 TX8 3
theorem nmX8 : ∀ a, a < 3 → ∀ b, b < 3 → a ≠ b → (TX8 a).2.1 ≠ (TX8 b).2.1 := by decide +kernel
theorem tyX8_ok : ∀ k, k < 3 → parseFieldDescriptor (TX8 k).2.2.1 = some (tyX8 k) := by decide +kernel
abbrev cX8_init : ByteArray := prog_10_method_1_code
def yX8_init : MethodName := ⟨RX8, "<init>", "()V"⟩
abbrev cX8_hold : ByteArray := prog_10_method_2_code
def yX8_hold : MethodName := ⟨RX8, "hold", "(LRowBank$Ask;[IZ)V"⟩
abbrev cX8_isEmpty : ByteArray := prog_10_method_3_code
def yX8_isEmpty : MethodName := ⟨RX8, "isEmpty", "()Z"⟩
abbrev cX8_refusalWithoutAsk : ByteArray := prog_10_method_4_code
def yX8_refusalWithoutAsk : MethodName := ⟨RX8, "refusalWithoutAsk", "()I"⟩
def RX9 : String := "RowBank$SwapAsk"
def TX9 : u_T := fun k => match k with
  | 0 => ("RowBank$WriteAsk", "v", "I", true)
  | 1 => ("RowBank$Ask", "number", "I", true)
  | 2 => ("RowBank$Ask", "asker", "I", true)
  | 3 => ("RowBank$Ask", "address", "I", true)
  | 4 => ("RowBank$Ask", "bank", "I", true)
  | 5 => ("RowBank$Ask", "inRow", "I", true)
  | 6 => ("RowBank$Ask", "came", "I", true)
  | 7 => ("RowBank$Ask", "done", "I", false)
  | 8 => ("RowBank$Ask", "answer", "I", false)
  | 9 => ("RowBank$Ask", "later", "LRowBank$Ask;", false)
  | 10 => ("RowBank$Ask", "behind", "LRowBank$Ask;", false)
  | _ => ("RowBank$Ask", "rank", "I", false)
def tyX9 : Nat → FieldType := fun k => match k with
  | 0 => .int
  | 1 => .int
  | 2 => .int
  | 3 => .int
  | 4 => .int
  | 5 => .int
  | 6 => .int
  | 7 => .int
  | 8 => .int
  | 9 => .object "RowBank$Ask"
  | 10 => .object "RowBank$Ask"
  | _ => .int
abbrev wsX90 : List Cond := u_ws RX9 TX9 12
theorem nmX9 : ∀ a, a < 12 → ∀ b, b < 12 → a ≠ b → (TX9 a).2.1 ≠ (TX9 b).2.1 := by decide +kernel
theorem tyX9_ok : ∀ k, k < 12 → parseFieldDescriptor (TX9 k).2.2.1 = some (tyX9 k) := by decide +kernel
abbrev cX9_init : ByteArray := prog_11_method_1_code
def yX9_init : MethodName := ⟨RX9, "<init>", "(IIIII)V"⟩
abbrev cX9_kind : ByteArray := prog_11_method_2_code
def yX9_kind : MethodName := ⟨RX9, "kind", "()I"⟩
abbrev cX9_heft : ByteArray := prog_11_method_3_code
def yX9_heft : MethodName := ⟨RX9, "heft", "()I"⟩
abbrev cX9_answerFrom : ByteArray := prog_11_method_4_code
def yX9_answerFrom : MethodName := ⟨RX9, "answerFrom", "(I)I"⟩
def RX10 : String := "RowBank$WriteAsk"
def TX10 : u_T := fun k => match k with
  | 0 => ("RowBank$Ask", "number", "I", true)
  | 1 => ("RowBank$Ask", "asker", "I", true)
  | 2 => ("RowBank$Ask", "address", "I", true)
  | 3 => ("RowBank$Ask", "bank", "I", true)
  | 4 => ("RowBank$Ask", "inRow", "I", true)
  | 5 => ("RowBank$Ask", "came", "I", true)
  | 6 => ("RowBank$Ask", "done", "I", false)
  | 7 => ("RowBank$Ask", "answer", "I", false)
  | 8 => ("RowBank$Ask", "later", "LRowBank$Ask;", false)
  | 9 => ("RowBank$Ask", "behind", "LRowBank$Ask;", false)
  | 10 => ("RowBank$Ask", "rank", "I", false)
  | _ => ("RowBank$WriteAsk", "v", "I", true)
def tyX10 : Nat → FieldType := fun k => match k with
  | 0 => .int
  | 1 => .int
  | 2 => .int
  | 3 => .int
  | 4 => .int
  | 5 => .int
  | 6 => .int
  | 7 => .int
  | 8 => .object "RowBank$Ask"
  | 9 => .object "RowBank$Ask"
  | 10 => .int
  | _ => .int
abbrev wsX100 : List Cond := u_ws RX10 TX10 12
theorem nmX10 : ∀ a, a < 12 → ∀ b, b < 12 → a ≠ b → (TX10 a).2.1 ≠ (TX10 b).2.1 := by decide +kernel
theorem tyX10_ok : ∀ k, k < 12 → parseFieldDescriptor (TX10 k).2.2.1 = some (tyX10 k) := by decide +kernel
abbrev cX10_init : ByteArray := prog_12_method_1_code
def yX10_init : MethodName := ⟨RX10, "<init>", "(IIIII)V"⟩
abbrev cX10_kind : ByteArray := prog_12_method_2_code
def yX10_kind : MethodName := ⟨RX10, "kind", "()I"⟩
abbrev cX10_heft : ByteArray := prog_12_method_3_code
def yX10_heft : MethodName := ⟨RX10, "heft", "()I"⟩
abbrev cX10_octetAfter : ByteArray := prog_12_method_4_code
def yX10_octetAfter : MethodName := ⟨RX10, "octetAfter", "(I)I"⟩
def RX11 : String := "RowBank"
def TX11 : u_T := fun k => match k with
  | 0 => ("RowBank", "times", "[I", true)
  | 1 => ("RowBank", "past", "LRowBank$Past;", true)
  | 2 => ("RowBank", "commandLog", "LRowBank$CommandLog;", true)
  | 3 => ("RowBank", "memory", "LRowBank$Memory;", true)
  | 4 => ("RowBank", "queue", "LRowBank$Queue;", true)
  | 5 => ("RowBank", "shelves", "[LRowBank$Shelf;", true)
  | 6 => ("RowBank", "tick", "I", false)
  | 7 => ("RowBank", "every", "I", false)
  | 8 => ("RowBank", "due", "I", false)
  | 9 => ("RowBank", "owed", "I", false)
  | 10 => ("RowBank", "theOrder", "I", false)
  | 11 => ("RowBank", "limit", "I", false)
  | 12 => ("RowBank", "commands", "I", false)
  | 13 => ("RowBank", "refreshes", "I", false)
  | 14 => ("RowBank", "chosenBank", "I", false)
  | _ => ("RowBank", "chosenAsk", "LRowBank$Ask;", false)
def tyX11 : Nat → FieldType := fun k => match k with
  | 0 => .array .int
  | 1 => .object "RowBank$Past"
  | 2 => .object "RowBank$CommandLog"
  | 3 => .object "RowBank$Memory"
  | 4 => .object "RowBank$Queue"
  | 5 => .array (.object "RowBank$Shelf")
  | 6 => .int
  | 7 => .int
  | 8 => .int
  | 9 => .int
  | 10 => .int
  | 11 => .int
  | 12 => .int
  | 13 => .int
  | 14 => .int
  | _ => .object "RowBank$Ask"
abbrev wsX110 : List Cond := u_ws RX11 TX11 16
theorem nmX11 : ∀ a, a < 16 → ∀ b, b < 16 → a ≠ b → (TX11 a).2.1 ≠ (TX11 b).2.1 := by decide +kernel
theorem tyX11_ok : ∀ k, k < 16 → parseFieldDescriptor (TX11 k).2.2.1 = some (tyX11 k) := by decide +kernel
abbrev cX11_init : ByteArray := prog_1_method_1_code
def yX11_init : MethodName := ⟨RX11, "<init>", "()V"⟩
abbrev cX11_time : ByteArray := prog_1_method_2_code
def yX11_time : MethodName := ⟨RX11, "time", "(II)I"⟩
abbrev cX11_refresh : ByteArray := prog_1_method_3_code
def yX11_refresh : MethodName := ⟨RX11, "refresh", "(II)I"⟩
abbrev cX11_order : ByteArray := prog_1_method_4_code
def yX11_order : MethodName := ⟨RX11, "order", "(II)I"⟩
abbrev cX11_ask : ByteArray := prog_1_method_5_code
def yX11_ask : MethodName := ⟨RX11, "ask", "(II)I"⟩
abbrev cX11_write : ByteArray := prog_1_method_6_code
def yX11_write : MethodName := ⟨RX11, "write", "(III)I"⟩
abbrev cX11_mask : ByteArray := prog_1_method_7_code
def yX11_mask : MethodName := ⟨RX11, "mask", "(IIII)I"⟩
abbrev cX11_swap : ByteArray := prog_1_method_8_code
def yX11_swap : MethodName := ⟨RX11, "swap", "(III)I"⟩
abbrev cX11_fence : ByteArray := prog_1_method_9_code
def yX11_fence : MethodName := ⟨RX11, "fence", "(I)I"⟩
abbrev cX11_run : ByteArray := prog_1_method_10_code
def yX11_run : MethodName := ⟨RX11, "run", "(I)I"⟩
abbrev cX11_drain : ByteArray := prog_1_method_11_code
def yX11_drain : MethodName := ⟨RX11, "drain", "(I)I"⟩
abbrev cX11_next : ByteArray := prog_1_method_12_code
def yX11_next : MethodName := ⟨RX11, "next", "()I"⟩
abbrev cX11_passTick : ByteArray := prog_1_method_13_code
def yX11_passTick : MethodName := ⟨RX11, "passTick", "()I"⟩
abbrev cX11_owedThisTick : ByteArray := prog_1_method_14_code
def yX11_owedThisTick : MethodName := ⟨RX11, "owedThisTick", "()I"⟩
abbrev cX11_choose : ByteArray := prog_1_method_15_code
def yX11_choose : MethodName := ⟨RX11, "choose", "(I)I"⟩
abbrev cX11_chooseForRefresh : ByteArray := prog_1_method_16_code
def yX11_chooseForRefresh : MethodName := ⟨RX11, "chooseForRefresh", "()I"⟩
abbrev cX11_chooseForAsks : ByteArray := prog_1_method_17_code
def yX11_chooseForAsks : MethodName := ⟨RX11, "chooseForAsks", "()I"⟩
abbrev cX11_canGo : ByteArray := prog_1_method_18_code
def yX11_canGo : MethodName := ⟨RX11, "canGo", "(II)Z"⟩
abbrev cX11_carryOut : ByteArray := prog_1_method_19_code
def yX11_carryOut : MethodName := ⟨RX11, "carryOut", "(IILRowBank$Ask;)V"⟩
abbrev cX11_look : ByteArray := prog_1_method_20_code
def yX11_look : MethodName := ⟨RX11, "look", "(II)I"⟩
abbrev cX11_at : ByteArray := prog_1_method_21_code
def yX11_at : MethodName := ⟨RX11, "at", "(I)I"⟩
abbrev cX11_soonest : ByteArray := prog_1_method_22_code
def yX11_soonest : MethodName := ⟨RX11, "soonest", "(II)I"⟩
abbrev cX11_row : ByteArray := prog_1_method_23_code
def yX11_row : MethodName := ⟨RX11, "row", "(I)I"⟩
abbrev cX11_octet : ByteArray := prog_1_method_24_code
def yX11_octet : MethodName := ⟨RX11, "octet", "(I)I"⟩
abbrev cX11_log : ByteArray := prog_1_method_25_code
def yX11_log : MethodName := ⟨RX11, "log", "(II)I"⟩
abbrev cX11_forge : ByteArray := prog_1_method_26_code
def yX11_forge : MethodName := ⟨RX11, "forge", "(II)I"⟩
abbrev cX11_check : ByteArray := prog_1_method_27_code
def yX11_check : MethodName := ⟨RX11, "check", "()I"⟩
abbrev cX11_broken : ByteArray := prog_1_method_28_code
def yX11_broken : MethodName := ⟨RX11, "broken", "()I"⟩
abbrev cX11_worst : ByteArray := prog_1_method_29_code
def yX11_worst : MethodName := ⟨RX11, "worst", "(I)I"⟩
abbrev cX11_beside : ByteArray := prog_1_method_30_code
def yX11_beside : MethodName := ⟨RX11, "beside", "()I"⟩
abbrev cX11_count : ByteArray := prog_1_method_31_code
def yX11_count : MethodName := ⟨RX11, "count", "(I)I"⟩
abbrev cX11_keep : ByteArray := prog_1_method_32_code
def yX11_keep : MethodName := ⟨RX11, "keep", "(III)I"⟩
abbrev cX11_keepAsk : ByteArray := prog_1_method_33_code
def yX11_keepAsk : MethodName := ⟨RX11, "keepAsk", "(LRowBank$Shelf;LRowBank$Ask;)I"⟩
abbrev cX11_keepBytes : ByteArray := prog_1_method_34_code
def yX11_keepBytes : MethodName := ⟨RX11, "keepBytes", "(LRowBank$Shelf;I)I"⟩
abbrev cX11_make : ByteArray := prog_1_method_35_code
def yX11_make : MethodName := ⟨RX11, "make", "(III)I"⟩
abbrev cX11_element : ByteArray := prog_1_method_36_code
def yX11_element : MethodName := ⟨RX11, "element", "(II)J"⟩
abbrev cX11_copy : ByteArray := prog_1_method_37_code
def yX11_copy : MethodName := ⟨RX11, "copy", "(IIIII)I"⟩
abbrev cX11_weight : ByteArray := prog_1_method_38_code
def yX11_weight : MethodName := ⟨RX11, "weight", "(I)I"⟩
abbrev cX11_toss : ByteArray := prog_1_method_39_code
def yX11_toss : MethodName := ⟨RX11, "toss", "(I)I"⟩
abbrev cX11_findShelf : ByteArray := prog_1_method_40_code
def yX11_findShelf : MethodName := ⟨RX11, "findShelf", "(I)LRowBank$Shelf;"⟩
abbrev cX11_isWithin : ByteArray := prog_1_method_41_code
def yX11_isWithin : MethodName := ⟨RX11, "isWithin", "(III)Z"⟩
abbrev cX11_isAsker : ByteArray := prog_1_method_42_code
def yX11_isAsker : MethodName := ⟨RX11, "isAsker", "(I)Z"⟩
abbrev cX11_isBank : ByteArray := prog_1_method_43_code
def yX11_isBank : MethodName := ⟨RX11, "isBank", "(I)Z"⟩
abbrev cX11_isAddress : ByteArray := prog_1_method_44_code
def yX11_isAddress : MethodName := ⟨RX11, "isAddress", "(I)Z"⟩
abbrev cX11_isOctet : ByteArray := prog_1_method_45_code
def yX11_isOctet : MethodName := ⟨RX11, "isOctet", "(I)Z"⟩
abbrev cX11_hasSpan : ByteArray := prog_1_method_46_code
def yX11_hasSpan : MethodName := ⟨RX11, "hasSpan", "([III)Z"⟩
def RX12 : String := "RowBankModel"
def TX12 : u_T := fun k => match k with
  | 0 => ("RowBankModel", "thrown", "I", false)
  | 1 => ("RowBankModel", "time", "[I", true)
  | 2 => ("RowBankModel", "every", "I", false)
  | 3 => ("RowBankModel", "due", "I", false)
  | 4 => ("RowBankModel", "order", "I", false)
  | 5 => ("RowBankModel", "limit", "I", false)
  | 6 => ("RowBankModel", "open", "I", false)
  | 7 => ("RowBankModel", "owed", "I", false)
  | 8 => ("RowBankModel", "refreshes", "I", false)
  | 9 => ("RowBankModel", "commands", "I", false)
  | 10 => ("RowBankModel", "opens", "I", false)
  | 11 => ("RowBankModel", "row", "[I", true)
  | 12 => ("RowBankModel", "memory", "[I", true)
  | 13 => ("RowBankModel", "asks", "I", false)
  | 14 => ("RowBankModel", "waiting", "I", false)
  | 15 => ("RowBankModel", "kind", "[I", true)
  | 16 => ("RowBankModel", "asker", "[I", true)
  | 17 => ("RowBankModel", "address", "[I", true)
  | 18 => ("RowBankModel", "value", "[I", true)
  | 19 => ("RowBankModel", "bits", "[I", true)
  | 20 => ("RowBankModel", "came", "[I", true)
  | 21 => ("RowBankModel", "done", "[I", true)
  | 22 => ("RowBankModel", "answer", "[I", true)
  | 23 => ("RowBankModel", "doneOf", "[I", true)
  | 24 => ("RowBankModel", "oldest", "I", false)
  | 25 => ("RowBankModel", "since", "I", false)
  | 26 => ("RowBankModel", "recent", "I", false)
  | 27 => ("RowBankModel", "recentTick", "[I", true)
  | 28 => ("RowBankModel", "recentWhat", "[I", true)
  | 29 => ("RowBankModel", "recentBank", "[I", true)
  | 30 => ("RowBankModel", "logged", "I", false)
  | 31 => ("RowBankModel", "logTick", "[I", true)
  | 32 => ("RowBankModel", "logForged", "[I", true)
  | 33 => ("RowBankModel", "logWhat", "[I", true)
  | 34 => ("RowBankModel", "logBank", "[I", true)
  | 35 => ("RowBankModel", "logPlace", "[I", true)
  | 36 => ("RowBankModel", "logAsk", "[I", true)
  | 37 => ("RowBankModel", "broken", "I", false)
  | 38 => ("RowBankModel", "row0", "[I", true)
  | 39 => ("RowBankModel", "ordered", "I", false)
  | 40 => ("RowBankModel", "what", "I", false)
  | 41 => ("RowBankModel", "whatBank", "I", false)
  | 42 => ("RowBankModel", "whatAsk", "I", false)
  | 43 => ("RowBankModel", "kept", "[I", true)
  | 44 => ("RowBankModel", "plain", "[I", true)
  | 45 => ("RowBankModel", "shelf", "[I", true)
  | 46 => ("RowBankModel", "shelfSize", "[I", true)
  | 47 => ("RowBankModel", "shelfAsk", "[I", true)
  | 48 => ("RowBankModel", "shelfRow", "[I", true)
  | _ => ("RowBankModel", "between", "[I", true)
def tyX12 : Nat → FieldType := fun k => match k with
  | 0 => .int
  | 1 => .array .int
  | 2 => .int
  | 3 => .int
  | 4 => .int
  | 5 => .int
  | 6 => .int
  | 7 => .int
  | 8 => .int
  | 9 => .int
  | 10 => .int
  | 11 => .array .int
  | 12 => .array .int
  | 13 => .int
  | 14 => .int
  | 15 => .array .int
  | 16 => .array .int
  | 17 => .array .int
  | 18 => .array .int
  | 19 => .array .int
  | 20 => .array .int
  | 21 => .array .int
  | 22 => .array .int
  | 23 => .array .int
  | 24 => .int
  | 25 => .int
  | 26 => .int
  | 27 => .array .int
  | 28 => .array .int
  | 29 => .array .int
  | 30 => .int
  | 31 => .array .int
  | 32 => .array .int
  | 33 => .array .int
  | 34 => .array .int
  | 35 => .array .int
  | 36 => .array .int
  | 37 => .int
  | 38 => .array .int
  | 39 => .int
  | 40 => .int
  | 41 => .int
  | 42 => .int
  | 43 => .array .int
  | 44 => .array .int
  | 45 => .array .int
  | 46 => .array .int
  | 47 => .array .int
  | 48 => .array .int
  | _ => .array .int
abbrev wsX120 : List Cond := u_ws RX12 TX12 50
theorem nmX12 : ∀ a, a < 50 → ∀ b, b < 50 → a ≠ b → (TX12 a).2.1 ≠ (TX12 b).2.1 := by decide +kernel
theorem tyX12_ok : ∀ k, k < 50 → parseFieldDescriptor (TX12 k).2.2.1 = some (tyX12 k) := by decide +kernel
abbrev cX12_init : ByteArray := prog_14_method_1_code
def yX12_init : MethodName := ⟨RX12, "<init>", "()V"⟩
abbrev cX12_thrown : ByteArray := prog_14_method_2_code
def yX12_thrown : MethodName := ⟨RX12, "thrown", "()I"⟩
abbrev cX12_isIn : ByteArray := prog_14_method_3_code
def yX12_isIn : MethodName := ⟨RX12, "isIn", "(JJJ)Z"⟩
abbrev cX12_time : ByteArray := prog_14_method_4_code
def yX12_time : MethodName := ⟨RX12, "time", "(II)I"⟩
abbrev cX12_refresh : ByteArray := prog_14_method_5_code
def yX12_refresh : MethodName := ⟨RX12, "refresh", "(II)I"⟩
abbrev cX12_order : ByteArray := prog_14_method_6_code
def yX12_order : MethodName := ⟨RX12, "order", "(II)I"⟩
abbrev cX12_rowOf : ByteArray := prog_14_method_7_code
def yX12_rowOf : MethodName := ⟨RX12, "rowOf", "(I)I"⟩
abbrev cX12_bankOf : ByteArray := prog_14_method_8_code
def yX12_bankOf : MethodName := ⟨RX12, "bankOf", "(I)I"⟩
abbrev cX12_added : ByteArray := prog_14_method_9_code
def yX12_added : MethodName := ⟨RX12, "added", "(IIIII)I"⟩
abbrev cX12_findOldest : ByteArray := prog_14_method_10_code
def yX12_findOldest : MethodName := ⟨RX12, "findOldest", "()V"⟩
abbrev cX12_isRight : ByteArray := prog_14_method_11_code
def yX12_isRight : MethodName := ⟨RX12, "isRight", "(IIII)Z"⟩
abbrev cX12_ask : ByteArray := prog_14_method_12_code
def yX12_ask : MethodName := ⟨RX12, "ask", "(II)I"⟩
abbrev cX12_write : ByteArray := prog_14_method_13_code
def yX12_write : MethodName := ⟨RX12, "write", "(III)I"⟩
abbrev cX12_mask : ByteArray := prog_14_method_14_code
def yX12_mask : MethodName := ⟨RX12, "mask", "(IIII)I"⟩
abbrev cX12_swap : ByteArray := prog_14_method_15_code
def yX12_swap : MethodName := ⟨RX12, "swap", "(III)I"⟩
abbrev cX12_fence : ByteArray := prog_14_method_16_code
def yX12_fence : MethodName := ⟨RX12, "fence", "(I)I"⟩
abbrev cX12_waits : ByteArray := prog_14_method_17_code
def yX12_waits : MethodName := ⟨RX12, "waits", "(I)Z"⟩
abbrev cX12_isHeld : ByteArray := prog_14_method_18_code
def yX12_isHeld : MethodName := ⟨RX12, "isHeld", "(I)Z"⟩
abbrev cX12_isOpen : ByteArray := prog_14_method_19_code
def yX12_isOpen : MethodName := ⟨RX12, "isOpen", "(I)Z"⟩
abbrev cX12_rank : ByteArray := prog_14_method_20_code
def yX12_rank : MethodName := ⟨RX12, "rank", "(I)I"⟩
abbrev cX12_findOrder : ByteArray := prog_14_method_21_code
def yX12_findOrder : MethodName := ⟨RX12, "findOrder", "()V"⟩
abbrev cX12_asked : ByteArray := prog_14_method_22_code
def yX12_asked : MethodName := ⟨RX12, "asked", "(IIIII)I"⟩
abbrev cX12_fits : ByteArray := prog_14_method_23_code
def yX12_fits : MethodName := ⟨RX12, "fits", "(III)Z"⟩
abbrev cX12_allShut : ByteArray := prog_14_method_24_code
def yX12_allShut : MethodName := ⟨RX12, "allShut", "()Z"⟩
abbrev cX12_stands : ByteArray := prog_14_method_25_code
def yX12_stands : MethodName := ⟨RX12, "stands", "(II)Z"⟩
abbrev cX12_canGo : ByteArray := prog_14_method_26_code
def yX12_canGo : MethodName := ⟨RX12, "canGo", "(II)Z"⟩
abbrev cX12_choose : ByteArray := prog_14_method_27_code
def yX12_choose : MethodName := ⟨RX12, "choose", "(III)V"⟩
abbrev cX12_commandOf : ByteArray := prog_14_method_28_code
def yX12_commandOf : MethodName := ⟨RX12, "commandOf", "(I)I"⟩
abbrev cX12_isFirst : ByteArray := prog_14_method_29_code
def yX12_isFirst : MethodName := ⟨RX12, "isFirst", "(I)Z"⟩
abbrev cX12_plainWaiting : ByteArray := prog_14_method_30_code
def yX12_plainWaiting : MethodName := ⟨RX12, "plainWaiting", "()I"⟩
abbrev cX12_find : ByteArray := prog_14_method_31_code
def yX12_find : MethodName := ⟨RX12, "find", "()V"⟩
abbrev cX12_finish : ByteArray := prog_14_method_32_code
def yX12_finish : MethodName := ⟨RX12, "finish", "(I)V"⟩
abbrev cX12_access : ByteArray := prog_14_method_33_code
def yX12_access : MethodName := ⟨RX12, "access", "(I)V"⟩
abbrev cX12_write_ : ByteArray := prog_14_method_34_code
def yX12_write_ : MethodName := ⟨RX12, "write", "()V"⟩
abbrev cX12_go : ByteArray := prog_14_method_35_code
def yX12_go : MethodName := ⟨RX12, "go", "()V"⟩
abbrev cX12_isBehind : ByteArray := prog_14_method_36_code
def yX12_isBehind : MethodName := ⟨RX12, "isBehind", "(I)Z"⟩
abbrev cX12_begin : ByteArray := prog_14_method_37_code
def yX12_begin : MethodName := ⟨RX12, "begin", "()V"⟩
abbrev cX12_tick : ByteArray := prog_14_method_38_code
def yX12_tick : MethodName := ⟨RX12, "tick", "()V"⟩
abbrev cX12_run : ByteArray := prog_14_method_39_code
def yX12_run : MethodName := ⟨RX12, "run", "(I)I"⟩
abbrev cX12_drain : ByteArray := prog_14_method_40_code
def yX12_drain : MethodName := ⟨RX12, "drain", "(I)I"⟩
abbrev cX12_next : ByteArray := prog_14_method_41_code
def yX12_next : MethodName := ⟨RX12, "next", "()I"⟩
abbrev cX12_isAsk : ByteArray := prog_14_method_42_code
def yX12_isAsk : MethodName := ⟨RX12, "isAsk", "(I)Z"⟩
abbrev cX12_look : ByteArray := prog_14_method_43_code
def yX12_look : MethodName := ⟨RX12, "look", "(II)I"⟩
abbrev cX12_at : ByteArray := prog_14_method_44_code
def yX12_at : MethodName := ⟨RX12, "at", "(I)I"⟩
abbrev cX12_soonest : ByteArray := prog_14_method_45_code
def yX12_soonest : MethodName := ⟨RX12, "soonest", "(II)I"⟩
abbrev cX12_row : ByteArray := prog_14_method_46_code
def yX12_row : MethodName := ⟨RX12, "row", "(I)I"⟩
abbrev cX12_octet : ByteArray := prog_14_method_47_code
def yX12_octet : MethodName := ⟨RX12, "octet", "(I)I"⟩
abbrev cX12_isLogged : ByteArray := prog_14_method_48_code
def yX12_isLogged : MethodName := ⟨RX12, "isLogged", "(I)Z"⟩
abbrev cX12_log : ByteArray := prog_14_method_49_code
def yX12_log : MethodName := ⟨RX12, "log", "(II)I"⟩
abbrev cX12_forge : ByteArray := prog_14_method_50_code
def yX12_forge : MethodName := ⟨RX12, "forge", "(II)I"⟩
abbrev cX12_breaks : ByteArray := prog_14_method_51_code
def yX12_breaks : MethodName := ⟨RX12, "breaks", "(I)I"⟩
abbrev cX12_check : ByteArray := prog_14_method_52_code
def yX12_check : MethodName := ⟨RX12, "check", "()I"⟩
abbrev cX12_broken : ByteArray := prog_14_method_53_code
def yX12_broken : MethodName := ⟨RX12, "broken", "()I"⟩
abbrev cX12_worst : ByteArray := prog_14_method_54_code
def yX12_worst : MethodName := ⟨RX12, "worst", "(I)I"⟩
abbrev cX12_beside : ByteArray := prog_14_method_55_code
def yX12_beside : MethodName := ⟨RX12, "beside", "()I"⟩
abbrev cX12_count : ByteArray := prog_14_method_56_code
def yX12_count : MethodName := ⟨RX12, "count", "(I)I"⟩
abbrev cX12_isShelf : ByteArray := prog_14_method_57_code
def yX12_isShelf : MethodName := ⟨RX12, "isShelf", "(I)Z"⟩
abbrev cX12_addressOf : ByteArray := prog_14_method_58_code
def yX12_addressOf : MethodName := ⟨RX12, "addressOf", "(III)I"⟩
abbrev cX12_keep : ByteArray := prog_14_method_59_code
def yX12_keep : MethodName := ⟨RX12, "keep", "(III)I"⟩
abbrev cX12_make : ByteArray := prog_14_method_60_code
def yX12_make : MethodName := ⟨RX12, "make", "(III)I"⟩
abbrev cX12_element : ByteArray := prog_14_method_61_code
def yX12_element : MethodName := ⟨RX12, "element", "(II)J"⟩
abbrev cX12_hasPlaces : ByteArray := prog_14_method_62_code
def yX12_hasPlaces : MethodName := ⟨RX12, "hasPlaces", "(III)Z"⟩
abbrev cX12_copy : ByteArray := prog_14_method_63_code
def yX12_copy : MethodName := ⟨RX12, "copy", "(IIIII)I"⟩
abbrev cX12_denied : ByteArray := prog_14_method_64_code
def yX12_denied : MethodName := ⟨RX12, "denied", "(I)I"⟩
abbrev cX12_weight : ByteArray := prog_14_method_65_code
def yX12_weight : MethodName := ⟨RX12, "weight", "(I)I"⟩
abbrev cX12_toss : ByteArray := prog_14_method_66_code
def yX12_toss : MethodName := ⟨RX12, "toss", "(I)I"⟩
def RJ9 : String := "java/lang/Math"
abbrev cJ9_max_7cf53 : ByteArray := prog_19_method_65_code
def yJ9_max_7cf53 : MethodName := ⟨RJ9, "max", "(II)I"⟩
abbrev cJ9_min_7cf53 : ByteArray := prog_19_method_69_code
def yJ9_min_7cf53 : MethodName := ⟨RJ9, "min", "(II)I"⟩
def RJ0 : String := "java/lang/String"
def RJ10 : String := "java/lang/System"
def RJ7 : String := "java/util/Arrays"
abbrev cJ7_fill_53178 : ByteArray := prog_25_method_103_code
def yJ7_fill_53178 : MethodName := ⟨RJ7, "fill", "([II)V"⟩
abbrev cJ7_copyOf_59c91 : ByteArray := prog_25_method_123_code
def yJ7_copyOf_59c91 : MethodName := ⟨RJ7, "copyOf", "([II)[I"⟩
def RL : String := "RowBankLaw"
abbrev cL_element : ByteArray := method_3_code
def yL_element : MethodName := ⟨RL, "element", "(LRowBank;II[J)I"⟩
abbrev cL_law : ByteArray := code
def yL_law : MethodName := ⟨RL, "law", "([I)Z"⟩
abbrev vwCl : List vw_C := [(RX1, TX1, 9), (RX2, TX2, 11), (RX3, TX3, 13), (RX4, TX4, 2), (RX5, TX5, 12), (RX6, TX6, 11), (RX7, TX7, 11), (RX8, TX8, 3), (RX9, TX9, 12), (RX10, TX10, 12), (RX11, TX11, 16), (RX12, TX12, 50)]
end
section
theorem dX0_init_0 : decode cX0_init 0 = .ok (.aload_n 0, 1) := by decide +kernel
theorem dX0_init_1 : decode cX0_init 1 = .ok (.invokespecial 3, 3) := by decide +kernel
theorem dX0_init_4 : decode cX0_init 4 = .ok (.aload_n 0, 1) := by decide +kernel
theorem dX0_init_5 : decode cX0_init 5 = .ok (.iconst 0, 1) := by decide +kernel
theorem dX0_init_6 : decode cX0_init 6 = .ok (.putfield 9, 3) := by decide +kernel
theorem dX0_init_9 : decode cX0_init 9 = .ok (.aload_n 0, 1) := by decide +kernel
theorem dX0_init_10 : decode cX0_init 10 = .ok (.bipush (-2), 2) := by decide +kernel
theorem dX0_init_12 : decode cX0_init 12 = .ok (.putfield 15, 3) := by decide +kernel
theorem dX0_init_15 : decode cX0_init 15 = .ok (.aload_n 0, 1) := by decide +kernel
theorem dX0_init_16 : decode cX0_init 16 = .ok (.aconst_null, 1) := by decide +kernel
theorem dX0_init_17 : decode cX0_init 17 = .ok (.putfield 18, 3) := by decide +kernel
theorem dX0_init_20 : decode cX0_init 20 = .ok (.aload_n 0, 1) := by decide +kernel
theorem dX0_init_21 : decode cX0_init 21 = .ok (.aconst_null, 1) := by decide +kernel
theorem dX0_init_22 : decode cX0_init 22 = .ok (.putfield 22, 3) := by decide +kernel
theorem dX0_init_25 : decode cX0_init 25 = .ok (.aload_n 0, 1) := by decide +kernel
theorem dX0_init_26 : decode cX0_init 26 = .ok (.iconst 0, 1) := by decide +kernel
theorem dX0_init_27 : decode cX0_init 27 = .ok (.putfield 25, 3) := by decide +kernel
theorem dX0_init_30 : decode cX0_init 30 = .ok (.aload_n 0, 1) := by decide +kernel
theorem dX0_init_31 : decode cX0_init 31 = .ok (.iload_n 1, 1) := by decide +kernel
theorem dX0_init_32 : decode cX0_init 32 = .ok (.putfield 28, 3) := by decide +kernel
theorem dX0_init_35 : decode cX0_init 35 = .ok (.aload_n 0, 1) := by decide +kernel
theorem dX0_init_36 : decode cX0_init 36 = .ok (.iload_n 2, 1) := by decide +kernel
theorem dX0_init_37 : decode cX0_init 37 = .ok (.putfield 31, 3) := by decide +kernel
theorem dX0_init_40 : decode cX0_init 40 = .ok (.aload_n 0, 1) := by decide +kernel
theorem dX0_init_41 : decode cX0_init 41 = .ok (.iload_n 3, 1) := by decide +kernel
theorem dX0_init_42 : decode cX0_init 42 = .ok (.putfield 34, 3) := by decide +kernel
theorem dX0_init_45 : decode cX0_init 45 = .ok (.aload_n 0, 1) := by decide +kernel
theorem dX0_init_46 : decode cX0_init 46 = .ok (.iload_n 3, 1) := by decide +kernel
theorem dX0_init_47 : decode cX0_init 47 = .ok (.invokestatic 37, 3) := by decide +kernel
theorem dX0_init_50 : decode cX0_init 50 = .ok (.putfield 43, 3) := by decide +kernel
theorem dX0_init_53 : decode cX0_init 53 = .ok (.aload_n 0, 1) := by decide +kernel
theorem dX0_init_54 : decode cX0_init 54 = .ok (.iload_n 3, 1) := by decide +kernel
theorem dX0_init_55 : decode cX0_init 55 = .ok (.invokestatic 46, 3) := by decide +kernel
theorem dX0_init_58 : decode cX0_init 58 = .ok (.putfield 49, 3) := by decide +kernel
theorem dX0_init_61 : decode cX0_init 61 = .ok (.aload_n 0, 1) := by decide +kernel
theorem dX0_init_62 : decode cX0_init 62 = .ok (.iload 4, 2) := by decide +kernel
theorem dX0_init_64 : decode cX0_init 64 = .ok (.putfield 52, 3) := by decide +kernel
theorem dX0_init_67 : decode cX0_init 67 = .ok (.return_, 1) := by decide +kernel
theorem dX0_heft_0 : decode cX0_heft 0 = .ok (.iconst 5, 1) := by decide +kernel
theorem dX0_heft_1 : decode cX0_heft 1 = .ok (.aload_n 0, 1) := by decide +kernel
theorem dX0_heft_2 : decode cX0_heft 2 = .ok (.getfield 31, 3) := by decide +kernel
theorem dX0_heft_5 : decode cX0_heft 5 = .ok (.iadd, 1) := by decide +kernel
theorem dX0_heft_6 : decode cX0_heft 6 = .ok (.ireturn, 1) := by decide +kernel
theorem dX0_doneBy_0 : decode cX0_doneBy 0 = .ok (.iconst 3, 1) := by decide +kernel
theorem dX0_doneBy_1 : decode cX0_doneBy 1 = .ok (.ireturn, 1) := by decide +kernel
theorem dX0_answerFrom_0 : decode cX0_answerFrom 0 = .ok (.bipush (-2), 2) := by decide +kernel
theorem dX0_answerFrom_2 : decode cX0_answerFrom 2 = .ok (.ireturn, 1) := by decide +kernel
theorem dX0_octetAfter_0 : decode cX0_octetAfter 0 = .ok (.iload_n 1, 1) := by decide +kernel
theorem dX0_octetAfter_1 : decode cX0_octetAfter 1 = .ok (.ireturn, 1) := by decide +kernel
theorem dX0_fail_0 : decode cX0_fail 0 = .ok (.new 55, 3) := by decide +kernel
theorem dX0_fail_3 : decode cX0_fail 3 = .ok (.dup, 1) := by decide +kernel
theorem dX0_fail_4 : decode cX0_fail 4 = .ok (.ldc 57, 2) := by decide +kernel
theorem dX0_fail_6 : decode cX0_fail 6 = .ok (.invokespecial 59, 3) := by decide +kernel
theorem dX0_fail_9 : decode cX0_fail 9 = .ok (.athrow, 1) := by decide +kernel
theorem dX0_isFence_0 : decode cX0_isFence 0 = .ok (.aload_n 0, 1) := by decide +kernel
theorem dX0_isFence_1 : decode cX0_isFence 1 = .ok (.invokevirtual 62, 3) := by decide +kernel
theorem dX0_isFence_4 : decode cX0_isFence 4 = .ok (.iconst 4, 1) := by decide +kernel
theorem dX0_isFence_5 : decode cX0_isFence 5 = .ok (.if_icmp .ne 7, 3) := by decide +kernel
theorem dX0_isFence_8 : decode cX0_isFence 8 = .ok (.iconst 1, 1) := by decide +kernel
theorem dX0_isFence_9 : decode cX0_isFence 9 = .ok (.goto 4, 3) := by decide +kernel
theorem dX0_isFence_12 : decode cX0_isFence 12 = .ok (.iconst 0, 1) := by decide +kernel
theorem dX0_isFence_13 : decode cX0_isFence 13 = .ok (.ireturn, 1) := by decide +kernel
theorem dX0_clashesWith_0 : decode cX0_clashesWith 0 = .ok (.aload_n 0, 1) := by decide +kernel
theorem dX0_clashesWith_1 : decode cX0_clashesWith 1 = .ok (.invokevirtual 66, 3) := by decide +kernel
theorem dX0_clashesWith_4 : decode cX0_clashesWith 4 = .ok (.ifCond .ne 32, 3) := by decide +kernel
theorem dX0_clashesWith_7 : decode cX0_clashesWith 7 = .ok (.aload_n 0, 1) := by decide +kernel
theorem dX0_clashesWith_8 : decode cX0_clashesWith 8 = .ok (.getfield 34, 3) := by decide +kernel
theorem dX0_clashesWith_11 : decode cX0_clashesWith 11 = .ok (.aload_n 1, 1) := by decide +kernel
theorem dX0_clashesWith_12 : decode cX0_clashesWith 12 = .ok (.getfield 34, 3) := by decide +kernel
theorem dX0_clashesWith_15 : decode cX0_clashesWith 15 = .ok (.if_icmp .ne 21, 3) := by decide +kernel
theorem dX0_clashesWith_18 : decode cX0_clashesWith 18 = .ok (.aload_n 0, 1) := by decide +kernel
theorem dX0_clashesWith_19 : decode cX0_clashesWith 19 = .ok (.invokevirtual 62, 3) := by decide +kernel
theorem dX0_clashesWith_22 : decode cX0_clashesWith 22 = .ok (.ifCond .ne 10, 3) := by decide +kernel
theorem dX0_clashesWith_25 : decode cX0_clashesWith 25 = .ok (.aload_n 1, 1) := by decide +kernel
theorem dX0_clashesWith_26 : decode cX0_clashesWith 26 = .ok (.invokevirtual 62, 3) := by decide +kernel
theorem dX0_clashesWith_29 : decode cX0_clashesWith 29 = .ok (.ifCond .eq 7, 3) := by decide +kernel
theorem dX0_clashesWith_32 : decode cX0_clashesWith 32 = .ok (.iconst 1, 1) := by decide +kernel
theorem dX0_clashesWith_33 : decode cX0_clashesWith 33 = .ok (.goto 4, 3) := by decide +kernel
theorem dX0_clashesWith_36 : decode cX0_clashesWith 36 = .ok (.iconst 0, 1) := by decide +kernel
theorem dX0_clashesWith_37 : decode cX0_clashesWith 37 = .ok (.ireturn, 1) := by decide +kernel
theorem dX1_init_0 : decode cX1_init 0 = .ok (.aload_n 0, 1) := by decide +kernel
theorem dX1_init_1 : decode cX1_init 1 = .ok (.invokespecial 3, 3) := by decide +kernel
theorem dX1_init_4 : decode cX1_init 4 = .ok (.aload_n 0, 1) := by decide +kernel
theorem dX1_init_5 : decode cX1_init 5 = .ok (.sipush 400, 3) := by decide +kernel
theorem dX1_init_8 : decode cX1_init 8 = .ok (.newarray .int, 2) := by decide +kernel
theorem dX1_init_10 : decode cX1_init 10 = .ok (.putfield 9, 3) := by decide +kernel
theorem dX1_init_13 : decode cX1_init 13 = .ok (.aload_n 0, 1) := by decide +kernel
theorem dX1_init_14 : decode cX1_init 14 = .ok (.sipush 400, 3) := by decide +kernel
theorem dX1_init_17 : decode cX1_init 17 = .ok (.newarray .int, 2) := by decide +kernel
theorem dX1_init_19 : decode cX1_init 19 = .ok (.putfield 15, 3) := by decide +kernel
theorem dX1_init_22 : decode cX1_init 22 = .ok (.aload_n 0, 1) := by decide +kernel
theorem dX1_init_23 : decode cX1_init 23 = .ok (.sipush 400, 3) := by decide +kernel
theorem dX1_init_26 : decode cX1_init 26 = .ok (.newarray .int, 2) := by decide +kernel
theorem dX1_init_28 : decode cX1_init 28 = .ok (.putfield 18, 3) := by decide +kernel
theorem dX1_init_31 : decode cX1_init 31 = .ok (.aload_n 0, 1) := by decide +kernel
theorem dX1_init_32 : decode cX1_init 32 = .ok (.sipush 400, 3) := by decide +kernel
theorem dX1_init_35 : decode cX1_init 35 = .ok (.newarray .int, 2) := by decide +kernel
theorem dX1_init_37 : decode cX1_init 37 = .ok (.putfield 21, 3) := by decide +kernel
theorem dX1_init_40 : decode cX1_init 40 = .ok (.aload_n 0, 1) := by decide +kernel
theorem dX1_init_41 : decode cX1_init 41 = .ok (.sipush 400, 3) := by decide +kernel
theorem dX1_init_44 : decode cX1_init 44 = .ok (.newarray .int, 2) := by decide +kernel
theorem dX1_init_46 : decode cX1_init 46 = .ok (.putfield 24, 3) := by decide +kernel
theorem dX1_init_49 : decode cX1_init 49 = .ok (.aload_n 0, 1) := by decide +kernel
theorem dX1_init_50 : decode cX1_init 50 = .ok (.sipush 400, 3) := by decide +kernel
theorem dX1_init_53 : decode cX1_init 53 = .ok (.newarray .int, 2) := by decide +kernel
theorem dX1_init_55 : decode cX1_init 55 = .ok (.putfield 27, 3) := by decide +kernel
theorem dX1_init_58 : decode cX1_init 58 = .ok (.aload_n 0, 1) := by decide +kernel
theorem dX1_init_59 : decode cX1_init 59 = .ok (.new 30, 3) := by decide +kernel
theorem dX1_init_62 : decode cX1_init 62 = .ok (.dup, 1) := by decide +kernel
theorem dX1_init_63 : decode cX1_init 63 = .ok (.invokespecial 32, 3) := by decide +kernel
theorem dX1_init_66 : decode cX1_init 66 = .ok (.putfield 33, 3) := by decide +kernel
theorem dX1_init_69 : decode cX1_init 69 = .ok (.aload_n 0, 1) := by decide +kernel
theorem dX1_init_70 : decode cX1_init 70 = .ok (.iconst 0, 1) := by decide +kernel
theorem dX1_init_71 : decode cX1_init 71 = .ok (.putfield 37, 3) := by decide +kernel
theorem dX1_init_74 : decode cX1_init 74 = .ok (.aload_n 0, 1) := by decide +kernel
theorem dX1_init_75 : decode cX1_init 75 = .ok (.bipush (-2), 2) := by decide +kernel
theorem dX1_init_77 : decode cX1_init 77 = .ok (.putfield 41, 3) := by decide +kernel
theorem dX1_init_80 : decode cX1_init 80 = .ok (.return_, 1) := by decide +kernel
theorem dX1_has_0 : decode cX1_has 0 = .ok (.iload_n 1, 1) := by decide +kernel
theorem dX1_has_1 : decode cX1_has 1 = .ok (.ifCond .lt 15, 3) := by decide +kernel
theorem dX1_has_4 : decode cX1_has 4 = .ok (.iload_n 1, 1) := by decide +kernel
theorem dX1_has_5 : decode cX1_has 5 = .ok (.aload_n 0, 1) := by decide +kernel
theorem dX1_has_6 : decode cX1_has 6 = .ok (.getfield 37, 3) := by decide +kernel
theorem dX1_has_9 : decode cX1_has 9 = .ok (.if_icmp .ge 7, 3) := by decide +kernel
theorem dX1_has_12 : decode cX1_has 12 = .ok (.iconst 1, 1) := by decide +kernel
theorem dX1_has_13 : decode cX1_has 13 = .ok (.goto 4, 3) := by decide +kernel
theorem dX1_has_16 : decode cX1_has 16 = .ok (.iconst 0, 1) := by decide +kernel
theorem dX1_has_17 : decode cX1_has 17 = .ok (.ireturn, 1) := by decide +kernel
theorem dX1_add_0 : decode cX1_add 0 = .ok (.aload_n 0, 1) := by decide +kernel
theorem dX1_add_1 : decode cX1_add 1 = .ok (.getfield 37, 3) := by decide +kernel
theorem dX1_add_4 : decode cX1_add 4 = .ok (.sipush 400, 3) := by decide +kernel
theorem dX1_add_7 : decode cX1_add 7 = .ok (.if_icmp .lt 4, 3) := by decide +kernel
theorem dX1_add_10 : decode cX1_add 10 = .ok (.return_, 1) := by decide +kernel
theorem dX1_add_11 : decode cX1_add 11 = .ok (.aload_n 0, 1) := by decide +kernel
theorem dX1_add_12 : decode cX1_add 12 = .ok (.getfield 9, 3) := by decide +kernel
theorem dX1_add_15 : decode cX1_add 15 = .ok (.aload_n 0, 1) := by decide +kernel
theorem dX1_add_16 : decode cX1_add 16 = .ok (.getfield 37, 3) := by decide +kernel
theorem dX1_add_19 : decode cX1_add 19 = .ok (.iload 4, 2) := by decide +kernel
theorem dX1_add_21 : decode cX1_add 21 = .ok (.iastore, 1) := by decide +kernel
theorem dX1_add_22 : decode cX1_add 22 = .ok (.aload_n 0, 1) := by decide +kernel
theorem dX1_add_23 : decode cX1_add 23 = .ok (.getfield 15, 3) := by decide +kernel
theorem dX1_add_26 : decode cX1_add 26 = .ok (.aload_n 0, 1) := by decide +kernel
theorem dX1_add_27 : decode cX1_add 27 = .ok (.getfield 37, 3) := by decide +kernel
theorem dX1_add_30 : decode cX1_add 30 = .ok (.iload 4, 2) := by decide +kernel
theorem dX1_add_32 : decode cX1_add 32 = .ok (.iastore, 1) := by decide +kernel
theorem dX1_add_33 : decode cX1_add 33 = .ok (.aload_n 0, 1) := by decide +kernel
theorem dX1_add_34 : decode cX1_add 34 = .ok (.getfield 18, 3) := by decide +kernel
theorem dX1_add_37 : decode cX1_add 37 = .ok (.aload_n 0, 1) := by decide +kernel
theorem dX1_add_38 : decode cX1_add 38 = .ok (.getfield 37, 3) := by decide +kernel
theorem dX1_add_41 : decode cX1_add 41 = .ok (.iload_n 1, 1) := by decide +kernel
theorem dX1_add_42 : decode cX1_add 42 = .ok (.iastore, 1) := by decide +kernel
theorem dX1_add_43 : decode cX1_add 43 = .ok (.aload_n 0, 1) := by decide +kernel
theorem dX1_add_44 : decode cX1_add 44 = .ok (.getfield 21, 3) := by decide +kernel
theorem dX1_add_47 : decode cX1_add 47 = .ok (.aload_n 0, 1) := by decide +kernel
theorem dX1_add_48 : decode cX1_add 48 = .ok (.getfield 37, 3) := by decide +kernel
theorem dX1_add_51 : decode cX1_add 51 = .ok (.iload_n 2, 1) := by decide +kernel
theorem dX1_add_52 : decode cX1_add 52 = .ok (.iastore, 1) := by decide +kernel
theorem dX1_add_53 : decode cX1_add 53 = .ok (.aload_n 0, 1) := by decide +kernel
theorem dX1_add_54 : decode cX1_add 54 = .ok (.getfield 24, 3) := by decide +kernel
theorem dX1_add_57 : decode cX1_add 57 = .ok (.aload_n 0, 1) := by decide +kernel
theorem dX1_add_58 : decode cX1_add 58 = .ok (.getfield 37, 3) := by decide +kernel
theorem dX1_add_61 : decode cX1_add 61 = .ok (.aload_n 3, 1) := by decide +kernel
theorem dX1_add_62 : decode cX1_add 62 = .ok (.ifnonnull 8, 3) := by decide +kernel
theorem dX1_add_65 : decode cX1_add 65 = .ok (.bipush (-2), 2) := by decide +kernel
theorem dX1_add_67 : decode cX1_add 67 = .ok (.goto 8, 3) := by decide +kernel
theorem dX1_add_70 : decode cX1_add 70 = .ok (.iload_n 1, 1) := by decide +kernel
theorem dX1_add_71 : decode cX1_add 71 = .ok (.aload_n 3, 1) := by decide +kernel
theorem dX1_add_72 : decode cX1_add 72 = .ok (.invokestatic 44, 3) := by decide +kernel
theorem dX1_add_75 : decode cX1_add 75 = .ok (.iastore, 1) := by decide +kernel
theorem dX1_add_76 : decode cX1_add 76 = .ok (.aload_n 0, 1) := by decide +kernel
theorem dX1_add_77 : decode cX1_add 77 = .ok (.getfield 27, 3) := by decide +kernel
theorem dX1_add_80 : decode cX1_add 80 = .ok (.aload_n 0, 1) := by decide +kernel
theorem dX1_add_81 : decode cX1_add 81 = .ok (.getfield 37, 3) := by decide +kernel
theorem dX1_add_84 : decode cX1_add 84 = .ok (.aload_n 3, 1) := by decide +kernel
theorem dX1_add_85 : decode cX1_add 85 = .ok (.ifnonnull 8, 3) := by decide +kernel
theorem dX1_add_88 : decode cX1_add 88 = .ok (.bipush (-2), 2) := by decide +kernel
theorem dX1_add_90 : decode cX1_add 90 = .ok (.goto 7, 3) := by decide +kernel
theorem dX1_add_93 : decode cX1_add 93 = .ok (.aload_n 3, 1) := by decide +kernel
theorem dX1_add_94 : decode cX1_add 94 = .ok (.getfield 48, 3) := by decide +kernel
theorem dX1_add_97 : decode cX1_add 97 = .ok (.iastore, 1) := by decide +kernel
theorem dX1_add_98 : decode cX1_add 98 = .ok (.aload_n 0, 1) := by decide +kernel
theorem dX1_add_99 : decode cX1_add 99 = .ok (.dup, 1) := by decide +kernel
theorem dX1_add_100 : decode cX1_add 100 = .ok (.getfield 37, 3) := by decide +kernel
theorem dX1_add_103 : decode cX1_add 103 = .ok (.iconst 1, 1) := by decide +kernel
theorem dX1_add_104 : decode cX1_add 104 = .ok (.iadd, 1) := by decide +kernel
theorem dX1_add_105 : decode cX1_add 105 = .ok (.putfield 37, 3) := by decide +kernel
theorem dX1_add_108 : decode cX1_add 108 = .ok (.return_, 1) := by decide +kernel
theorem dX1_whereOf_0 : decode cX1_whereOf 0 = .ok (.iload_n 0, 1) := by decide +kernel
theorem dX1_whereOf_1 : decode cX1_whereOf 1 = .ok (.tableswitch 44 0 3 #[31, 44, 36, 36], 31) := by decide +kernel
theorem dX1_whereOf_32 : decode cX1_whereOf 32 = .ok (.aload_n 1, 1) := by decide +kernel
theorem dX1_whereOf_33 : decode cX1_whereOf 33 = .ok (.getfield 53, 3) := by decide +kernel
theorem dX1_whereOf_36 : decode cX1_whereOf 36 = .ok (.ireturn, 1) := by decide +kernel
theorem dX1_whereOf_37 : decode cX1_whereOf 37 = .ok (.aload_n 1, 1) := by decide +kernel
theorem dX1_whereOf_38 : decode cX1_whereOf 38 = .ok (.getfield 56, 3) := by decide +kernel
theorem dX1_whereOf_41 : decode cX1_whereOf 41 = .ok (.bipush 16, 2) := by decide +kernel
theorem dX1_whereOf_43 : decode cX1_whereOf 43 = .ok (.irem, 1) := by decide +kernel
theorem dX1_whereOf_44 : decode cX1_whereOf 44 = .ok (.ireturn, 1) := by decide +kernel
theorem dX1_whereOf_45 : decode cX1_whereOf 45 = .ok (.bipush (-2), 2) := by decide +kernel
theorem dX1_whereOf_47 : decode cX1_whereOf 47 = .ok (.ireturn, 1) := by decide +kernel
theorem dX1_findFault_0 : decode cX1_findFault 0 = .ok (.aload_n 0, 1) := by decide +kernel
theorem dX1_findFault_1 : decode cX1_findFault 1 = .ok (.getfield 33, 3) := by decide +kernel
theorem dX1_findFault_4 : decode cX1_findFault 4 = .ok (.invokevirtual 59, 3) := by decide +kernel
theorem dX1_findFault_7 : decode cX1_findFault 7 = .ok (.iconst 0, 1) := by decide +kernel
theorem dX1_findFault_8 : decode cX1_findFault 8 = .ok (.istore_n 2, 1) := by decide +kernel
theorem dX1_findFault_9 : decode cX1_findFault 9 = .ok (.iload_n 2, 1) := by decide +kernel
theorem dX1_findFault_10 : decode cX1_findFault 10 = .ok (.aload_n 0, 1) := by decide +kernel
theorem dX1_findFault_11 : decode cX1_findFault 11 = .ok (.getfield 37, 3) := by decide +kernel
theorem dX1_findFault_14 : decode cX1_findFault 14 = .ok (.if_icmp .ge 104, 3) := by decide +kernel
theorem dX1_findFault_17 : decode cX1_findFault 17 = .ok (.aload_n 0, 1) := by decide +kernel
theorem dX1_findFault_18 : decode cX1_findFault 18 = .ok (.getfield 33, 3) := by decide +kernel
theorem dX1_findFault_21 : decode cX1_findFault 21 = .ok (.aload_n 1, 1) := by decide +kernel
theorem dX1_findFault_22 : decode cX1_findFault 22 = .ok (.aload_n 0, 1) := by decide +kernel
theorem dX1_findFault_23 : decode cX1_findFault 23 = .ok (.getfield 18, 3) := by decide +kernel
theorem dX1_findFault_26 : decode cX1_findFault 26 = .ok (.iload_n 2, 1) := by decide +kernel
theorem dX1_findFault_27 : decode cX1_findFault 27 = .ok (.iaload, 1) := by decide +kernel
theorem dX1_findFault_28 : decode cX1_findFault 28 = .ok (.aload_n 0, 1) := by decide +kernel
theorem dX1_findFault_29 : decode cX1_findFault 29 = .ok (.getfield 21, 3) := by decide +kernel
theorem dX1_findFault_32 : decode cX1_findFault 32 = .ok (.iload_n 2, 1) := by decide +kernel
theorem dX1_findFault_33 : decode cX1_findFault 33 = .ok (.iaload, 1) := by decide +kernel
theorem dX1_findFault_34 : decode cX1_findFault 34 = .ok (.aload_n 0, 1) := by decide +kernel
theorem dX1_findFault_35 : decode cX1_findFault 35 = .ok (.getfield 15, 3) := by decide +kernel
theorem dX1_findFault_38 : decode cX1_findFault 38 = .ok (.iload_n 2, 1) := by decide +kernel
theorem dX1_findFault_39 : decode cX1_findFault 39 = .ok (.iaload, 1) := by decide +kernel
theorem dX1_findFault_40 : decode cX1_findFault 40 = .ok (.invokevirtual 62, 3) := by decide +kernel
theorem dX1_findFault_43 : decode cX1_findFault 43 = .ok (.istore_n 3, 1) := by decide +kernel
theorem dX1_findFault_44 : decode cX1_findFault 44 = .ok (.iload_n 3, 1) := by decide +kernel
theorem dX1_findFault_45 : decode cX1_findFault 45 = .ok (.bipush (-2), 2) := by decide +kernel
theorem dX1_findFault_47 : decode cX1_findFault 47 = .ok (.if_icmp .ne 27, 3) := by decide +kernel
theorem dX1_findFault_50 : decode cX1_findFault 50 = .ok (.iload_n 2, 1) := by decide +kernel
theorem dX1_findFault_51 : decode cX1_findFault 51 = .ok (.ifCond .le 23, 3) := by decide +kernel
theorem dX1_findFault_54 : decode cX1_findFault 54 = .ok (.aload_n 0, 1) := by decide +kernel
theorem dX1_findFault_55 : decode cX1_findFault 55 = .ok (.getfield 15, 3) := by decide +kernel
theorem dX1_findFault_58 : decode cX1_findFault 58 = .ok (.iload_n 2, 1) := by decide +kernel
theorem dX1_findFault_59 : decode cX1_findFault 59 = .ok (.iaload, 1) := by decide +kernel
theorem dX1_findFault_60 : decode cX1_findFault 60 = .ok (.aload_n 0, 1) := by decide +kernel
theorem dX1_findFault_61 : decode cX1_findFault 61 = .ok (.getfield 15, 3) := by decide +kernel
theorem dX1_findFault_64 : decode cX1_findFault 64 = .ok (.iload_n 2, 1) := by decide +kernel
theorem dX1_findFault_65 : decode cX1_findFault 65 = .ok (.iconst 1, 1) := by decide +kernel
theorem dX1_findFault_66 : decode cX1_findFault 66 = .ok (.isub, 1) := by decide +kernel
theorem dX1_findFault_67 : decode cX1_findFault 67 = .ok (.iaload, 1) := by decide +kernel
theorem dX1_findFault_68 : decode cX1_findFault 68 = .ok (.if_icmp .gt 6, 3) := by decide +kernel
theorem dX1_findFault_71 : decode cX1_findFault 71 = .ok (.bipush 13, 2) := by decide +kernel
theorem dX1_findFault_73 : decode cX1_findFault 73 = .ok (.istore_n 3, 1) := by decide +kernel
theorem dX1_findFault_74 : decode cX1_findFault 74 = .ok (.iload_n 3, 1) := by decide +kernel
theorem dX1_findFault_75 : decode cX1_findFault 75 = .ok (.bipush (-2), 2) := by decide +kernel
theorem dX1_findFault_77 : decode cX1_findFault 77 = .ok (.if_icmp .eq 10, 3) := by decide +kernel
theorem dX1_findFault_80 : decode cX1_findFault 80 = .ok (.aload_n 0, 1) := by decide +kernel
theorem dX1_findFault_81 : decode cX1_findFault 81 = .ok (.iload_n 3, 1) := by decide +kernel
theorem dX1_findFault_82 : decode cX1_findFault 82 = .ok (.putfield 41, 3) := by decide +kernel
theorem dX1_findFault_85 : decode cX1_findFault 85 = .ok (.iload_n 2, 1) := by decide +kernel
theorem dX1_findFault_86 : decode cX1_findFault 86 = .ok (.ireturn, 1) := by decide +kernel
theorem dX1_findFault_87 : decode cX1_findFault 87 = .ok (.aload_n 0, 1) := by decide +kernel
theorem dX1_findFault_88 : decode cX1_findFault 88 = .ok (.getfield 33, 3) := by decide +kernel
theorem dX1_findFault_91 : decode cX1_findFault 91 = .ok (.aload_n 0, 1) := by decide +kernel
theorem dX1_findFault_92 : decode cX1_findFault 92 = .ok (.getfield 18, 3) := by decide +kernel
theorem dX1_findFault_95 : decode cX1_findFault 95 = .ok (.iload_n 2, 1) := by decide +kernel
theorem dX1_findFault_96 : decode cX1_findFault 96 = .ok (.iaload, 1) := by decide +kernel
theorem dX1_findFault_97 : decode cX1_findFault 97 = .ok (.aload_n 0, 1) := by decide +kernel
theorem dX1_findFault_98 : decode cX1_findFault 98 = .ok (.getfield 21, 3) := by decide +kernel
theorem dX1_findFault_101 : decode cX1_findFault 101 = .ok (.iload_n 2, 1) := by decide +kernel
theorem dX1_findFault_102 : decode cX1_findFault 102 = .ok (.iaload, 1) := by decide +kernel
theorem dX1_findFault_103 : decode cX1_findFault 103 = .ok (.aload_n 0, 1) := by decide +kernel
theorem dX1_findFault_104 : decode cX1_findFault 104 = .ok (.getfield 15, 3) := by decide +kernel
theorem dX1_findFault_107 : decode cX1_findFault 107 = .ok (.iload_n 2, 1) := by decide +kernel
theorem dX1_findFault_108 : decode cX1_findFault 108 = .ok (.iaload, 1) := by decide +kernel
theorem dX1_findFault_109 : decode cX1_findFault 109 = .ok (.invokevirtual 66, 3) := by decide +kernel
theorem dX1_findFault_112 : decode cX1_findFault 112 = .ok (.iinc 2 1, 3) := by decide +kernel
theorem dX1_findFault_115 : decode cX1_findFault 115 = .ok (.goto (-106), 3) := by decide +kernel
theorem dX1_findFault_118 : decode cX1_findFault 118 = .ok (.aload_n 0, 1) := by decide +kernel
theorem dX1_findFault_119 : decode cX1_findFault 119 = .ok (.bipush (-2), 2) := by decide +kernel
theorem dX1_findFault_121 : decode cX1_findFault 121 = .ok (.putfield 41, 3) := by decide +kernel
theorem dX1_findFault_124 : decode cX1_findFault 124 = .ok (.bipush (-2), 2) := by decide +kernel
theorem dX1_findFault_126 : decode cX1_findFault 126 = .ok (.ireturn, 1) := by decide +kernel
theorem dX2_init_0 : decode cX2_init 0 = .ok (.aload_n 0, 1) := by decide +kernel
theorem dX2_init_1 : decode cX2_init 1 = .ok (.iload_n 1, 1) := by decide +kernel
theorem dX2_init_2 : decode cX2_init 2 = .ok (.iload_n 2, 1) := by decide +kernel
theorem dX2_init_3 : decode cX2_init 3 = .ok (.bipush (-2), 2) := by decide +kernel
theorem dX2_init_5 : decode cX2_init 5 = .ok (.iload_n 3, 1) := by decide +kernel
theorem dX2_init_6 : decode cX2_init 6 = .ok (.invokespecial 3, 3) := by decide +kernel
theorem dX2_init_9 : decode cX2_init 9 = .ok (.return_, 1) := by decide +kernel
theorem dX2_kind_0 : decode cX2_kind 0 = .ok (.iconst 4, 1) := by decide +kernel
theorem dX2_kind_1 : decode cX2_kind 1 = .ok (.ireturn, 1) := by decide +kernel
theorem dX2_heft_0 : decode cX2_heft 0 = .ok (.aload_n 0, 1) := by decide +kernel
theorem dX2_heft_1 : decode cX2_heft 1 = .ok (.invokespecial 9, 3) := by decide +kernel
theorem dX2_heft_4 : decode cX2_heft 4 = .ok (.sipush 300, 3) := by decide +kernel
theorem dX2_heft_7 : decode cX2_heft 7 = .ok (.iadd, 1) := by decide +kernel
theorem dX2_heft_8 : decode cX2_heft 8 = .ok (.ireturn, 1) := by decide +kernel
theorem dX3_init_0 : decode cX3_init 0 = .ok (.aload_n 0, 1) := by decide +kernel
theorem dX3_init_1 : decode cX3_init 1 = .ok (.iload_n 1, 1) := by decide +kernel
theorem dX3_init_2 : decode cX3_init 2 = .ok (.iload_n 2, 1) := by decide +kernel
theorem dX3_init_3 : decode cX3_init 3 = .ok (.iload_n 3, 1) := by decide +kernel
theorem dX3_init_4 : decode cX3_init 4 = .ok (.iload 4, 2) := by decide +kernel
theorem dX3_init_6 : decode cX3_init 6 = .ok (.iload 5, 2) := by decide +kernel
theorem dX3_init_8 : decode cX3_init 8 = .ok (.invokespecial 3, 3) := by decide +kernel
theorem dX3_init_11 : decode cX3_init 11 = .ok (.aload_n 0, 1) := by decide +kernel
theorem dX3_init_12 : decode cX3_init 12 = .ok (.iload 6, 2) := by decide +kernel
theorem dX3_init_14 : decode cX3_init 14 = .ok (.putfield 9, 3) := by decide +kernel
theorem dX3_init_17 : decode cX3_init 17 = .ok (.return_, 1) := by decide +kernel
theorem dX3_kind_0 : decode cX3_kind 0 = .ok (.iconst 2, 1) := by decide +kernel
theorem dX3_kind_1 : decode cX3_kind 1 = .ok (.ireturn, 1) := by decide +kernel
theorem dX3_heft_0 : decode cX3_heft 0 = .ok (.aload_n 0, 1) := by decide +kernel
theorem dX3_heft_1 : decode cX3_heft 1 = .ok (.invokespecial 15, 3) := by decide +kernel
theorem dX3_heft_4 : decode cX3_heft 4 = .ok (.iconst 2, 1) := by decide +kernel
theorem dX3_heft_5 : decode cX3_heft 5 = .ok (.imul, 1) := by decide +kernel
theorem dX3_heft_6 : decode cX3_heft 6 = .ok (.ireturn, 1) := by decide +kernel
theorem dX3_octetAfter_0 : decode cX3_octetAfter 0 = .ok (.iload_n 1, 1) := by decide +kernel
theorem dX3_octetAfter_1 : decode cX3_octetAfter 1 = .ok (.aload_n 0, 1) := by decide +kernel
theorem dX3_octetAfter_2 : decode cX3_octetAfter 2 = .ok (.getfield 9, 3) := by decide +kernel
theorem dX3_octetAfter_5 : decode cX3_octetAfter 5 = .ok (.iconst (-1), 1) := by decide +kernel
theorem dX3_octetAfter_6 : decode cX3_octetAfter 6 = .ok (.ixor, 1) := by decide +kernel
theorem dX3_octetAfter_7 : decode cX3_octetAfter 7 = .ok (.iand, 1) := by decide +kernel
theorem dX3_octetAfter_8 : decode cX3_octetAfter 8 = .ok (.aload_n 0, 1) := by decide +kernel
theorem dX3_octetAfter_9 : decode cX3_octetAfter 9 = .ok (.getfield 19, 3) := by decide +kernel
theorem dX3_octetAfter_12 : decode cX3_octetAfter 12 = .ok (.aload_n 0, 1) := by decide +kernel
theorem dX3_octetAfter_13 : decode cX3_octetAfter 13 = .ok (.getfield 9, 3) := by decide +kernel
theorem dX3_octetAfter_16 : decode cX3_octetAfter 16 = .ok (.iand, 1) := by decide +kernel
theorem dX3_octetAfter_17 : decode cX3_octetAfter 17 = .ok (.ior, 1) := by decide +kernel
theorem dX3_octetAfter_18 : decode cX3_octetAfter 18 = .ok (.ireturn, 1) := by decide +kernel
theorem dX4_init_0 : decode cX4_init 0 = .ok (.aload_n 0, 1) := by decide +kernel
theorem dX4_init_1 : decode cX4_init 1 = .ok (.invokespecial 3, 3) := by decide +kernel
theorem dX4_init_4 : decode cX4_init 4 = .ok (.aload_n 0, 1) := by decide +kernel
theorem dX4_init_5 : decode cX4_init 5 = .ok (.sipush 1024, 3) := by decide +kernel
theorem dX4_init_8 : decode cX4_init 8 = .ok (.newarray .int, 2) := by decide +kernel
theorem dX4_init_10 : decode cX4_init 10 = .ok (.putfield 9, 3) := by decide +kernel
theorem dX4_init_13 : decode cX4_init 13 = .ok (.aload_n 0, 1) := by decide +kernel
theorem dX4_init_14 : decode cX4_init 14 = .ok (.iconst 4, 1) := by decide +kernel
theorem dX4_init_15 : decode cX4_init 15 = .ok (.newarray .int, 2) := by decide +kernel
theorem dX4_init_17 : decode cX4_init 17 = .ok (.dup, 1) := by decide +kernel
theorem dX4_init_18 : decode cX4_init 18 = .ok (.iconst 0, 1) := by decide +kernel
theorem dX4_init_19 : decode cX4_init 19 = .ok (.bipush (-2), 2) := by decide +kernel
theorem dX4_init_21 : decode cX4_init 21 = .ok (.iastore, 1) := by decide +kernel
theorem dX4_init_22 : decode cX4_init 22 = .ok (.dup, 1) := by decide +kernel
theorem dX4_init_23 : decode cX4_init 23 = .ok (.iconst 1, 1) := by decide +kernel
theorem dX4_init_24 : decode cX4_init 24 = .ok (.bipush (-2), 2) := by decide +kernel
theorem dX4_init_26 : decode cX4_init 26 = .ok (.iastore, 1) := by decide +kernel
theorem dX4_init_27 : decode cX4_init 27 = .ok (.dup, 1) := by decide +kernel
theorem dX4_init_28 : decode cX4_init 28 = .ok (.iconst 2, 1) := by decide +kernel
theorem dX4_init_29 : decode cX4_init 29 = .ok (.bipush (-2), 2) := by decide +kernel
theorem dX4_init_31 : decode cX4_init 31 = .ok (.iastore, 1) := by decide +kernel
theorem dX4_init_32 : decode cX4_init 32 = .ok (.dup, 1) := by decide +kernel
theorem dX4_init_33 : decode cX4_init 33 = .ok (.iconst 3, 1) := by decide +kernel
theorem dX4_init_34 : decode cX4_init 34 = .ok (.bipush (-2), 2) := by decide +kernel
theorem dX4_init_36 : decode cX4_init 36 = .ok (.iastore, 1) := by decide +kernel
theorem dX4_init_37 : decode cX4_init 37 = .ok (.putfield 15, 3) := by decide +kernel
theorem dX4_init_40 : decode cX4_init 40 = .ok (.return_, 1) := by decide +kernel
theorem dX4_rowOf_0 : decode cX4_rowOf 0 = .ok (.iload_n 0, 1) := by decide +kernel
theorem dX4_rowOf_1 : decode cX4_rowOf 1 = .ok (.bipush 64, 2) := by decide +kernel
theorem dX4_rowOf_3 : decode cX4_rowOf 3 = .ok (.idiv, 1) := by decide +kernel
theorem dX4_rowOf_4 : decode cX4_rowOf 4 = .ok (.ireturn, 1) := by decide +kernel
theorem dX4_bankOf_0 : decode cX4_bankOf 0 = .ok (.iload_n 0, 1) := by decide +kernel
theorem dX4_bankOf_1 : decode cX4_bankOf 1 = .ok (.bipush 16, 2) := by decide +kernel
theorem dX4_bankOf_3 : decode cX4_bankOf 3 = .ok (.idiv, 1) := by decide +kernel
theorem dX4_bankOf_4 : decode cX4_bankOf 4 = .ok (.iload_n 0, 1) := by decide +kernel
theorem dX4_bankOf_5 : decode cX4_bankOf 5 = .ok (.invokestatic 18, 3) := by decide +kernel
theorem dX4_bankOf_8 : decode cX4_bankOf 8 = .ok (.ixor, 1) := by decide +kernel
theorem dX4_bankOf_9 : decode cX4_bankOf 9 = .ok (.iconst 4, 1) := by decide +kernel
theorem dX4_bankOf_10 : decode cX4_bankOf 10 = .ok (.irem, 1) := by decide +kernel
theorem dX4_bankOf_11 : decode cX4_bankOf 11 = .ok (.ireturn, 1) := by decide +kernel
theorem dX4_allows_0 : decode cX4_allows 0 = .ok (.iload_n 1, 1) := by decide +kernel
theorem dX4_allows_1 : decode cX4_allows 1 = .ok (.iconst 4, 1) := by decide +kernel
theorem dX4_allows_2 : decode cX4_allows 2 = .ok (.if_icmp .ne 8, 3) := by decide +kernel
theorem dX4_allows_5 : decode cX4_allows 5 = .ok (.aload_n 0, 1) := by decide +kernel
theorem dX4_allows_6 : decode cX4_allows 6 = .ok (.invokevirtual 22, 3) := by decide +kernel
theorem dX4_allows_9 : decode cX4_allows 9 = .ok (.ireturn, 1) := by decide +kernel
theorem dX4_allows_10 : decode cX4_allows 10 = .ok (.aload_n 0, 1) := by decide +kernel
theorem dX4_allows_11 : decode cX4_allows 11 = .ok (.getfield 15, 3) := by decide +kernel
theorem dX4_allows_14 : decode cX4_allows 14 = .ok (.iload_n 2, 1) := by decide +kernel
theorem dX4_allows_15 : decode cX4_allows 15 = .ok (.iaload, 1) := by decide +kernel
theorem dX4_allows_16 : decode cX4_allows 16 = .ok (.bipush (-2), 2) := by decide +kernel
theorem dX4_allows_18 : decode cX4_allows 18 = .ok (.if_icmp .ne 7, 3) := by decide +kernel
theorem dX4_allows_21 : decode cX4_allows 21 = .ok (.iconst 1, 1) := by decide +kernel
theorem dX4_allows_22 : decode cX4_allows 22 = .ok (.goto 4, 3) := by decide +kernel
theorem dX4_allows_25 : decode cX4_allows 25 = .ok (.iconst 0, 1) := by decide +kernel
theorem dX4_allows_26 : decode cX4_allows 26 = .ok (.istore_n 3, 1) := by decide +kernel
theorem dX4_allows_27 : decode cX4_allows 27 = .ok (.iload_n 1, 1) := by decide +kernel
theorem dX4_allows_28 : decode cX4_allows 28 = .ok (.ifCond .ne 7, 3) := by decide +kernel
theorem dX4_allows_31 : decode cX4_allows 31 = .ok (.iload_n 3, 1) := by decide +kernel
theorem dX4_allows_32 : decode cX4_allows 32 = .ok (.goto 12, 3) := by decide +kernel
theorem dX4_allows_35 : decode cX4_allows 35 = .ok (.iload_n 3, 1) := by decide +kernel
theorem dX4_allows_36 : decode cX4_allows 36 = .ok (.ifCond .ne 7, 3) := by decide +kernel
theorem dX4_allows_39 : decode cX4_allows 39 = .ok (.iconst 1, 1) := by decide +kernel
theorem dX4_allows_40 : decode cX4_allows 40 = .ok (.goto 4, 3) := by decide +kernel
theorem dX4_allows_43 : decode cX4_allows 43 = .ok (.iconst 0, 1) := by decide +kernel
theorem dX4_allows_44 : decode cX4_allows 44 = .ok (.ireturn, 1) := by decide +kernel
theorem dX4_areAllShut_0 : decode cX4_areAllShut 0 = .ok (.iconst 0, 1) := by decide +kernel
theorem dX4_areAllShut_1 : decode cX4_areAllShut 1 = .ok (.istore_n 1, 1) := by decide +kernel
theorem dX4_areAllShut_2 : decode cX4_areAllShut 2 = .ok (.iload_n 1, 1) := by decide +kernel
theorem dX4_areAllShut_3 : decode cX4_areAllShut 3 = .ok (.iconst 4, 1) := by decide +kernel
theorem dX4_areAllShut_4 : decode cX4_areAllShut 4 = .ok (.if_icmp .ge 22, 3) := by decide +kernel
theorem dX4_areAllShut_7 : decode cX4_areAllShut 7 = .ok (.aload_n 0, 1) := by decide +kernel
theorem dX4_areAllShut_8 : decode cX4_areAllShut 8 = .ok (.getfield 15, 3) := by decide +kernel
theorem dX4_areAllShut_11 : decode cX4_areAllShut 11 = .ok (.iload_n 1, 1) := by decide +kernel
theorem dX4_areAllShut_12 : decode cX4_areAllShut 12 = .ok (.iaload, 1) := by decide +kernel
theorem dX4_areAllShut_13 : decode cX4_areAllShut 13 = .ok (.bipush (-2), 2) := by decide +kernel
theorem dX4_areAllShut_15 : decode cX4_areAllShut 15 = .ok (.if_icmp .eq 5, 3) := by decide +kernel
theorem dX4_areAllShut_18 : decode cX4_areAllShut 18 = .ok (.iconst 0, 1) := by decide +kernel
theorem dX4_areAllShut_19 : decode cX4_areAllShut 19 = .ok (.ireturn, 1) := by decide +kernel
theorem dX4_areAllShut_20 : decode cX4_areAllShut 20 = .ok (.iinc 1 1, 3) := by decide +kernel
theorem dX4_areAllShut_23 : decode cX4_areAllShut 23 = .ok (.goto (-21), 3) := by decide +kernel
theorem dX4_areAllShut_26 : decode cX4_areAllShut 26 = .ok (.iconst 1, 1) := by decide +kernel
theorem dX4_areAllShut_27 : decode cX4_areAllShut 27 = .ok (.ireturn, 1) := by decide +kernel
theorem dX4_stepToward_0 : decode cX4_stepToward 0 = .ok (.aload_n 0, 1) := by decide +kernel
theorem dX4_stepToward_1 : decode cX4_stepToward 1 = .ok (.getfield 15, 3) := by decide +kernel
theorem dX4_stepToward_4 : decode cX4_stepToward 4 = .ok (.aload_n 1, 1) := by decide +kernel
theorem dX4_stepToward_5 : decode cX4_stepToward 5 = .ok (.getfield 26, 3) := by decide +kernel
theorem dX4_stepToward_8 : decode cX4_stepToward 8 = .ok (.iaload, 1) := by decide +kernel
theorem dX4_stepToward_9 : decode cX4_stepToward 9 = .ok (.istore_n 2, 1) := by decide +kernel
theorem dX4_stepToward_10 : decode cX4_stepToward 10 = .ok (.iload_n 2, 1) := by decide +kernel
theorem dX4_stepToward_11 : decode cX4_stepToward 11 = .ok (.bipush (-2), 2) := by decide +kernel
theorem dX4_stepToward_13 : decode cX4_stepToward 13 = .ok (.if_icmp .ne 5, 3) := by decide +kernel
theorem dX4_stepToward_16 : decode cX4_stepToward 16 = .ok (.iconst 0, 1) := by decide +kernel
theorem dX4_stepToward_17 : decode cX4_stepToward 17 = .ok (.ireturn, 1) := by decide +kernel
theorem dX4_stepToward_18 : decode cX4_stepToward 18 = .ok (.iload_n 2, 1) := by decide +kernel
theorem dX4_stepToward_19 : decode cX4_stepToward 19 = .ok (.aload_n 1, 1) := by decide +kernel
theorem dX4_stepToward_20 : decode cX4_stepToward 20 = .ok (.getfield 32, 3) := by decide +kernel
theorem dX4_stepToward_23 : decode cX4_stepToward 23 = .ok (.if_icmp .ne 10, 3) := by decide +kernel
theorem dX4_stepToward_26 : decode cX4_stepToward 26 = .ok (.aload_n 1, 1) := by decide +kernel
theorem dX4_stepToward_27 : decode cX4_stepToward 27 = .ok (.invokevirtual 35, 3) := by decide +kernel
theorem dX4_stepToward_30 : decode cX4_stepToward 30 = .ok (.goto 4, 3) := by decide +kernel
theorem dX4_stepToward_33 : decode cX4_stepToward 33 = .ok (.iconst 1, 1) := by decide +kernel
theorem dX4_stepToward_34 : decode cX4_stepToward 34 = .ok (.ireturn, 1) := by decide +kernel
theorem dX4_openRow_0 : decode cX4_openRow 0 = .ok (.aload_n 0, 1) := by decide +kernel
theorem dX4_openRow_1 : decode cX4_openRow 1 = .ok (.getfield 15, 3) := by decide +kernel
theorem dX4_openRow_4 : decode cX4_openRow 4 = .ok (.iload_n 1, 1) := by decide +kernel
theorem dX4_openRow_5 : decode cX4_openRow 5 = .ok (.iload_n 2, 1) := by decide +kernel
theorem dX4_openRow_6 : decode cX4_openRow 6 = .ok (.iastore, 1) := by decide +kernel
theorem dX4_openRow_7 : decode cX4_openRow 7 = .ok (.return_, 1) := by decide +kernel
theorem dX4_shutRow_0 : decode cX4_shutRow 0 = .ok (.aload_n 0, 1) := by decide +kernel
theorem dX4_shutRow_1 : decode cX4_shutRow 1 = .ok (.getfield 15, 3) := by decide +kernel
theorem dX4_shutRow_4 : decode cX4_shutRow 4 = .ok (.iload_n 1, 1) := by decide +kernel
theorem dX4_shutRow_5 : decode cX4_shutRow 5 = .ok (.bipush (-2), 2) := by decide +kernel
theorem dX4_shutRow_7 : decode cX4_shutRow 7 = .ok (.iastore, 1) := by decide +kernel
theorem dX4_shutRow_8 : decode cX4_shutRow 8 = .ok (.return_, 1) := by decide +kernel
theorem dX4_serve_0 : decode cX4_serve 0 = .ok (.aload_n 0, 1) := by decide +kernel
theorem dX4_serve_1 : decode cX4_serve 1 = .ok (.getfield 9, 3) := by decide +kernel
theorem dX4_serve_4 : decode cX4_serve 4 = .ok (.aload_n 1, 1) := by decide +kernel
theorem dX4_serve_5 : decode cX4_serve 5 = .ok (.getfield 39, 3) := by decide +kernel
theorem dX4_serve_8 : decode cX4_serve 8 = .ok (.iaload, 1) := by decide +kernel
theorem dX4_serve_9 : decode cX4_serve 9 = .ok (.istore_n 2, 1) := by decide +kernel
theorem dX4_serve_10 : decode cX4_serve 10 = .ok (.aload_n 1, 1) := by decide +kernel
theorem dX4_serve_11 : decode cX4_serve 11 = .ok (.aload_n 1, 1) := by decide +kernel
theorem dX4_serve_12 : decode cX4_serve 12 = .ok (.iload_n 2, 1) := by decide +kernel
theorem dX4_serve_13 : decode cX4_serve 13 = .ok (.invokevirtual 42, 3) := by decide +kernel
theorem dX4_serve_16 : decode cX4_serve 16 = .ok (.putfield 45, 3) := by decide +kernel
theorem dX4_serve_19 : decode cX4_serve 19 = .ok (.aload_n 0, 1) := by decide +kernel
theorem dX4_serve_20 : decode cX4_serve 20 = .ok (.getfield 9, 3) := by decide +kernel
theorem dX4_serve_23 : decode cX4_serve 23 = .ok (.aload_n 1, 1) := by decide +kernel
theorem dX4_serve_24 : decode cX4_serve 24 = .ok (.getfield 39, 3) := by decide +kernel
theorem dX4_serve_27 : decode cX4_serve 27 = .ok (.aload_n 1, 1) := by decide +kernel
theorem dX4_serve_28 : decode cX4_serve 28 = .ok (.iload_n 2, 1) := by decide +kernel
theorem dX4_serve_29 : decode cX4_serve 29 = .ok (.invokevirtual 48, 3) := by decide +kernel
theorem dX4_serve_32 : decode cX4_serve 32 = .ok (.iastore, 1) := by decide +kernel
theorem dX4_serve_33 : decode cX4_serve 33 = .ok (.return_, 1) := by decide +kernel
theorem dX4_signedRow_0 : decode cX4_signedRow 0 = .ok (.bipush 16, 2) := by decide +kernel
theorem dX4_signedRow_2 : decode cX4_signedRow 2 = .ok (.newarray .int, 2) := by decide +kernel
theorem dX4_signedRow_4 : decode cX4_signedRow 4 = .ok (.astore_n 3, 1) := by decide +kernel
theorem dX4_signedRow_5 : decode cX4_signedRow 5 = .ok (.iload_n 2, 1) := by decide +kernel
theorem dX4_signedRow_6 : decode cX4_signedRow 6 = .ok (.iconst 4, 1) := by decide +kernel
theorem dX4_signedRow_7 : decode cX4_signedRow 7 = .ok (.imul, 1) := by decide +kernel
theorem dX4_signedRow_8 : decode cX4_signedRow 8 = .ok (.iload_n 1, 1) := by decide +kernel
theorem dX4_signedRow_9 : decode cX4_signedRow 9 = .ok (.iload_n 2, 1) := by decide +kernel
theorem dX4_signedRow_10 : decode cX4_signedRow 10 = .ok (.iconst 4, 1) := by decide +kernel
theorem dX4_signedRow_11 : decode cX4_signedRow 11 = .ok (.irem, 1) := by decide +kernel
theorem dX4_signedRow_12 : decode cX4_signedRow 12 = .ok (.ixor, 1) := by decide +kernel
theorem dX4_signedRow_13 : decode cX4_signedRow 13 = .ok (.iadd, 1) := by decide +kernel
theorem dX4_signedRow_14 : decode cX4_signedRow 14 = .ok (.bipush 16, 2) := by decide +kernel
theorem dX4_signedRow_16 : decode cX4_signedRow 16 = .ok (.imul, 1) := by decide +kernel
theorem dX4_signedRow_17 : decode cX4_signedRow 17 = .ok (.istore 4, 2) := by decide +kernel
theorem dX4_signedRow_19 : decode cX4_signedRow 19 = .ok (.iconst 0, 1) := by decide +kernel
theorem dX4_signedRow_20 : decode cX4_signedRow 20 = .ok (.istore 5, 2) := by decide +kernel
theorem dX4_signedRow_22 : decode cX4_signedRow 22 = .ok (.iload 5, 2) := by decide +kernel
theorem dX4_signedRow_24 : decode cX4_signedRow 24 = .ok (.bipush 16, 2) := by decide +kernel
theorem dX4_signedRow_26 : decode cX4_signedRow 26 = .ok (.if_icmp .ge 27, 3) := by decide +kernel
theorem dX4_signedRow_29 : decode cX4_signedRow 29 = .ok (.aload_n 3, 1) := by decide +kernel
theorem dX4_signedRow_30 : decode cX4_signedRow 30 = .ok (.iload 5, 2) := by decide +kernel
theorem dX4_signedRow_32 : decode cX4_signedRow 32 = .ok (.aload_n 0, 1) := by decide +kernel
theorem dX4_signedRow_33 : decode cX4_signedRow 33 = .ok (.getfield 9, 3) := by decide +kernel
theorem dX4_signedRow_36 : decode cX4_signedRow 36 = .ok (.iload 4, 2) := by decide +kernel
theorem dX4_signedRow_38 : decode cX4_signedRow 38 = .ok (.iload 5, 2) := by decide +kernel
theorem dX4_signedRow_40 : decode cX4_signedRow 40 = .ok (.iadd, 1) := by decide +kernel
theorem dX4_signedRow_41 : decode cX4_signedRow 41 = .ok (.iaload, 1) := by decide +kernel
theorem dX4_signedRow_42 : decode cX4_signedRow 42 = .ok (.sipush 128, 3) := by decide +kernel
theorem dX4_signedRow_45 : decode cX4_signedRow 45 = .ok (.isub, 1) := by decide +kernel
theorem dX4_signedRow_46 : decode cX4_signedRow 46 = .ok (.iastore, 1) := by decide +kernel
theorem dX4_signedRow_47 : decode cX4_signedRow 47 = .ok (.iinc 5 1, 3) := by decide +kernel
theorem dX4_signedRow_50 : decode cX4_signedRow 50 = .ok (.goto (-28), 3) := by decide +kernel
theorem dX4_signedRow_53 : decode cX4_signedRow 53 = .ok (.aload_n 3, 1) := by decide +kernel
theorem dX4_signedRow_54 : decode cX4_signedRow 54 = .ok (.areturn, 1) := by decide +kernel
theorem dX5_init_0 : decode cX5_init 0 = .ok (.aload_n 0, 1) := by decide +kernel
theorem dX5_init_1 : decode cX5_init 1 = .ok (.invokespecial 3, 3) := by decide +kernel
theorem dX5_init_4 : decode cX5_init 4 = .ok (.aload_n 0, 1) := by decide +kernel
theorem dX5_init_5 : decode cX5_init 5 = .ok (.iconst 4, 1) := by decide +kernel
theorem dX5_init_6 : decode cX5_init 6 = .ok (.newarray .int, 2) := by decide +kernel
theorem dX5_init_8 : decode cX5_init 8 = .ok (.putfield 9, 3) := by decide +kernel
theorem dX5_init_11 : decode cX5_init 11 = .ok (.aload_n 0, 1) := by decide +kernel
theorem dX5_init_12 : decode cX5_init 12 = .ok (.iconst 4, 1) := by decide +kernel
theorem dX5_init_13 : decode cX5_init 13 = .ok (.newarray .int, 2) := by decide +kernel
theorem dX5_init_15 : decode cX5_init 15 = .ok (.putfield 15, 3) := by decide +kernel
theorem dX5_init_18 : decode cX5_init 18 = .ok (.aload_n 0, 1) := by decide +kernel
theorem dX5_init_19 : decode cX5_init 19 = .ok (.iconst 4, 1) := by decide +kernel
theorem dX5_init_20 : decode cX5_init 20 = .ok (.newarray .int, 2) := by decide +kernel
theorem dX5_init_22 : decode cX5_init 22 = .ok (.putfield 18, 3) := by decide +kernel
theorem dX5_init_25 : decode cX5_init 25 = .ok (.aload_n 0, 1) := by decide +kernel
theorem dX5_init_26 : decode cX5_init 26 = .ok (.iconst 4, 1) := by decide +kernel
theorem dX5_init_27 : decode cX5_init 27 = .ok (.newarray .int, 2) := by decide +kernel
theorem dX5_init_29 : decode cX5_init 29 = .ok (.putfield 21, 3) := by decide +kernel
theorem dX5_init_32 : decode cX5_init 32 = .ok (.aload_n 0, 1) := by decide +kernel
theorem dX5_init_33 : decode cX5_init 33 = .ok (.iconst 4, 1) := by decide +kernel
theorem dX5_init_34 : decode cX5_init 34 = .ok (.newarray .int, 2) := by decide +kernel
theorem dX5_init_36 : decode cX5_init 36 = .ok (.putfield 24, 3) := by decide +kernel
theorem dX5_init_39 : decode cX5_init 39 = .ok (.aload_n 0, 1) := by decide +kernel
theorem dX5_init_40 : decode cX5_init 40 = .ok (.iconst 2, 1) := by decide +kernel
theorem dX5_init_41 : decode cX5_init 41 = .ok (.newarray .int, 2) := by decide +kernel
theorem dX5_init_43 : decode cX5_init 43 = .ok (.putfield 27, 3) := by decide +kernel
theorem dX5_init_46 : decode cX5_init 46 = .ok (.aload_n 0, 1) := by decide +kernel
theorem dX5_init_47 : decode cX5_init 47 = .ok (.iconst 4, 1) := by decide +kernel
theorem dX5_init_48 : decode cX5_init 48 = .ok (.newarray .int, 2) := by decide +kernel
theorem dX5_init_50 : decode cX5_init 50 = .ok (.putfield 30, 3) := by decide +kernel
theorem dX5_init_53 : decode cX5_init 53 = .ok (.aload_n 0, 1) := by decide +kernel
theorem dX5_init_54 : decode cX5_init 54 = .ok (.invokevirtual 33, 3) := by decide +kernel
theorem dX5_init_57 : decode cX5_init 57 = .ok (.return_, 1) := by decide +kernel
theorem dX5_forget_0 : decode cX5_forget 0 = .ok (.aload_n 0, 1) := by decide +kernel
theorem dX5_forget_1 : decode cX5_forget 1 = .ok (.getfield 9, 3) := by decide +kernel
theorem dX5_forget_4 : decode cX5_forget 4 = .ok (.sipush (-1000), 3) := by decide +kernel
theorem dX5_forget_7 : decode cX5_forget 7 = .ok (.invokestatic 36, 3) := by decide +kernel
theorem dX5_forget_10 : decode cX5_forget 10 = .ok (.aload_n 0, 1) := by decide +kernel
theorem dX5_forget_11 : decode cX5_forget 11 = .ok (.getfield 15, 3) := by decide +kernel
theorem dX5_forget_14 : decode cX5_forget 14 = .ok (.sipush (-1000), 3) := by decide +kernel
theorem dX5_forget_17 : decode cX5_forget 17 = .ok (.invokestatic 36, 3) := by decide +kernel
theorem dX5_forget_20 : decode cX5_forget 20 = .ok (.aload_n 0, 1) := by decide +kernel
theorem dX5_forget_21 : decode cX5_forget 21 = .ok (.getfield 18, 3) := by decide +kernel
theorem dX5_forget_24 : decode cX5_forget 24 = .ok (.sipush (-1000), 3) := by decide +kernel
theorem dX5_forget_27 : decode cX5_forget 27 = .ok (.invokestatic 36, 3) := by decide +kernel
theorem dX5_forget_30 : decode cX5_forget 30 = .ok (.aload_n 0, 1) := by decide +kernel
theorem dX5_forget_31 : decode cX5_forget 31 = .ok (.getfield 21, 3) := by decide +kernel
theorem dX5_forget_34 : decode cX5_forget 34 = .ok (.sipush (-1000), 3) := by decide +kernel
theorem dX5_forget_37 : decode cX5_forget 37 = .ok (.invokestatic 36, 3) := by decide +kernel
theorem dX5_forget_40 : decode cX5_forget 40 = .ok (.aload_n 0, 1) := by decide +kernel
theorem dX5_forget_41 : decode cX5_forget 41 = .ok (.getfield 24, 3) := by decide +kernel
theorem dX5_forget_44 : decode cX5_forget 44 = .ok (.sipush (-1000), 3) := by decide +kernel
theorem dX5_forget_47 : decode cX5_forget 47 = .ok (.invokestatic 36, 3) := by decide +kernel
theorem dX5_forget_50 : decode cX5_forget 50 = .ok (.aload_n 0, 1) := by decide +kernel
theorem dX5_forget_51 : decode cX5_forget 51 = .ok (.getfield 27, 3) := by decide +kernel
theorem dX5_forget_54 : decode cX5_forget 54 = .ok (.sipush (-1000), 3) := by decide +kernel
theorem dX5_forget_57 : decode cX5_forget 57 = .ok (.invokestatic 36, 3) := by decide +kernel
theorem dX5_forget_60 : decode cX5_forget 60 = .ok (.aload_n 0, 1) := by decide +kernel
theorem dX5_forget_61 : decode cX5_forget 61 = .ok (.getfield 30, 3) := by decide +kernel
theorem dX5_forget_64 : decode cX5_forget 64 = .ok (.sipush (-1000), 3) := by decide +kernel
theorem dX5_forget_67 : decode cX5_forget 67 = .ok (.invokestatic 36, 3) := by decide +kernel
theorem dX5_forget_70 : decode cX5_forget 70 = .ok (.aload_n 0, 1) := by decide +kernel
theorem dX5_forget_71 : decode cX5_forget 71 = .ok (.iconst 0, 1) := by decide +kernel
theorem dX5_forget_72 : decode cX5_forget 72 = .ok (.putfield 42, 3) := by decide +kernel
theorem dX5_forget_75 : decode cX5_forget 75 = .ok (.aload_n 0, 1) := by decide +kernel
theorem dX5_forget_76 : decode cX5_forget 76 = .ok (.sipush (-1000), 3) := by decide +kernel
theorem dX5_forget_79 : decode cX5_forget 79 = .ok (.putfield 46, 3) := by decide +kernel
theorem dX5_forget_82 : decode cX5_forget 82 = .ok (.aload_n 0, 1) := by decide +kernel
theorem dX5_forget_83 : decode cX5_forget 83 = .ok (.sipush (-1000), 3) := by decide +kernel
theorem dX5_forget_86 : decode cX5_forget 86 = .ok (.putfield 49, 3) := by decide +kernel
theorem dX5_forget_89 : decode cX5_forget 89 = .ok (.aload_n 0, 1) := by decide +kernel
theorem dX5_forget_90 : decode cX5_forget 90 = .ok (.sipush (-1000), 3) := by decide +kernel
theorem dX5_forget_93 : decode cX5_forget 93 = .ok (.putfield 52, 3) := by decide +kernel
theorem dX5_forget_96 : decode cX5_forget 96 = .ok (.aload_n 0, 1) := by decide +kernel
theorem dX5_forget_97 : decode cX5_forget 97 = .ok (.sipush (-1000), 3) := by decide +kernel
theorem dX5_forget_100 : decode cX5_forget 100 = .ok (.putfield 55, 3) := by decide +kernel
theorem dX5_forget_103 : decode cX5_forget 103 = .ok (.return_, 1) := by decide +kernel
theorem dX5_remember_0 : decode cX5_remember 0 = .ok (.iload_n 1, 1) := by decide +kernel
theorem dX5_remember_1 : decode cX5_remember 1 = .ok (.tableswitch 103 0 3 #[31, 40, 55, 79], 31) := by decide +kernel
theorem dX5_remember_32 : decode cX5_remember 32 = .ok (.aload_n 0, 1) := by decide +kernel
theorem dX5_remember_33 : decode cX5_remember 33 = .ok (.iload_n 2, 1) := by decide +kernel
theorem dX5_remember_34 : decode cX5_remember 34 = .ok (.iload_n 3, 1) := by decide +kernel
theorem dX5_remember_35 : decode cX5_remember 35 = .ok (.invokevirtual 58, 3) := by decide +kernel
theorem dX5_remember_38 : decode cX5_remember 38 = .ok (.goto 71, 3) := by decide +kernel
theorem dX5_remember_41 : decode cX5_remember 41 = .ok (.aload_n 0, 1) := by decide +kernel
theorem dX5_remember_42 : decode cX5_remember 42 = .ok (.getfield 18, 3) := by decide +kernel
theorem dX5_remember_45 : decode cX5_remember 45 = .ok (.iload_n 2, 1) := by decide +kernel
theorem dX5_remember_46 : decode cX5_remember 46 = .ok (.iload_n 3, 1) := by decide +kernel
theorem dX5_remember_47 : decode cX5_remember 47 = .ok (.iastore, 1) := by decide +kernel
theorem dX5_remember_48 : decode cX5_remember 48 = .ok (.aload_n 0, 1) := by decide +kernel
theorem dX5_remember_49 : decode cX5_remember 49 = .ok (.iload_n 3, 1) := by decide +kernel
theorem dX5_remember_50 : decode cX5_remember 50 = .ok (.putfield 46, 3) := by decide +kernel
theorem dX5_remember_53 : decode cX5_remember 53 = .ok (.goto 56, 3) := by decide +kernel
theorem dX5_remember_56 : decode cX5_remember 56 = .ok (.aload_n 0, 1) := by decide +kernel
theorem dX5_remember_57 : decode cX5_remember 57 = .ok (.getfield 21, 3) := by decide +kernel
theorem dX5_remember_60 : decode cX5_remember 60 = .ok (.iload_n 2, 1) := by decide +kernel
theorem dX5_remember_61 : decode cX5_remember 61 = .ok (.iload_n 3, 1) := by decide +kernel
theorem dX5_remember_62 : decode cX5_remember 62 = .ok (.iastore, 1) := by decide +kernel
theorem dX5_remember_63 : decode cX5_remember 63 = .ok (.aload_n 0, 1) := by decide +kernel
theorem dX5_remember_64 : decode cX5_remember 64 = .ok (.iload_n 3, 1) := by decide +kernel
theorem dX5_remember_65 : decode cX5_remember 65 = .ok (.putfield 49, 3) := by decide +kernel
theorem dX5_remember_68 : decode cX5_remember 68 = .ok (.aload_n 0, 1) := by decide +kernel
theorem dX5_remember_69 : decode cX5_remember 69 = .ok (.getfield 27, 3) := by decide +kernel
theorem dX5_remember_72 : decode cX5_remember 72 = .ok (.iload_n 2, 1) := by decide +kernel
theorem dX5_remember_73 : decode cX5_remember 73 = .ok (.iconst 2, 1) := by decide +kernel
theorem dX5_remember_74 : decode cX5_remember 74 = .ok (.idiv, 1) := by decide +kernel
theorem dX5_remember_75 : decode cX5_remember 75 = .ok (.iload_n 3, 1) := by decide +kernel
theorem dX5_remember_76 : decode cX5_remember 76 = .ok (.iastore, 1) := by decide +kernel
theorem dX5_remember_77 : decode cX5_remember 77 = .ok (.goto 32, 3) := by decide +kernel
theorem dX5_remember_80 : decode cX5_remember 80 = .ok (.aload_n 0, 1) := by decide +kernel
theorem dX5_remember_81 : decode cX5_remember 81 = .ok (.getfield 24, 3) := by decide +kernel
theorem dX5_remember_84 : decode cX5_remember 84 = .ok (.iload_n 2, 1) := by decide +kernel
theorem dX5_remember_85 : decode cX5_remember 85 = .ok (.iload_n 3, 1) := by decide +kernel
theorem dX5_remember_86 : decode cX5_remember 86 = .ok (.iastore, 1) := by decide +kernel
theorem dX5_remember_87 : decode cX5_remember 87 = .ok (.aload_n 0, 1) := by decide +kernel
theorem dX5_remember_88 : decode cX5_remember 88 = .ok (.iload_n 3, 1) := by decide +kernel
theorem dX5_remember_89 : decode cX5_remember 89 = .ok (.putfield 52, 3) := by decide +kernel
theorem dX5_remember_92 : decode cX5_remember 92 = .ok (.aload_n 0, 1) := by decide +kernel
theorem dX5_remember_93 : decode cX5_remember 93 = .ok (.getfield 27, 3) := by decide +kernel
theorem dX5_remember_96 : decode cX5_remember 96 = .ok (.iload_n 2, 1) := by decide +kernel
theorem dX5_remember_97 : decode cX5_remember 97 = .ok (.iconst 2, 1) := by decide +kernel
theorem dX5_remember_98 : decode cX5_remember 98 = .ok (.idiv, 1) := by decide +kernel
theorem dX5_remember_99 : decode cX5_remember 99 = .ok (.iload_n 3, 1) := by decide +kernel
theorem dX5_remember_100 : decode cX5_remember 100 = .ok (.iastore, 1) := by decide +kernel
theorem dX5_remember_101 : decode cX5_remember 101 = .ok (.goto 8, 3) := by decide +kernel
theorem dX5_remember_104 : decode cX5_remember 104 = .ok (.aload_n 0, 1) := by decide +kernel
theorem dX5_remember_105 : decode cX5_remember 105 = .ok (.iload_n 3, 1) := by decide +kernel
theorem dX5_remember_106 : decode cX5_remember 106 = .ok (.putfield 55, 3) := by decide +kernel
theorem dX5_remember_109 : decode cX5_remember 109 = .ok (.return_, 1) := by decide +kernel
theorem dX5_rememberOpen_0 : decode cX5_rememberOpen 0 = .ok (.aload_n 0, 1) := by decide +kernel
theorem dX5_rememberOpen_1 : decode cX5_rememberOpen 1 = .ok (.getfield 9, 3) := by decide +kernel
theorem dX5_rememberOpen_4 : decode cX5_rememberOpen 4 = .ok (.iload_n 1, 1) := by decide +kernel
theorem dX5_rememberOpen_5 : decode cX5_rememberOpen 5 = .ok (.iload_n 2, 1) := by decide +kernel
theorem dX5_rememberOpen_6 : decode cX5_rememberOpen 6 = .ok (.iastore, 1) := by decide +kernel
theorem dX5_rememberOpen_7 : decode cX5_rememberOpen 7 = .ok (.iconst 0, 1) := by decide +kernel
theorem dX5_rememberOpen_8 : decode cX5_rememberOpen 8 = .ok (.istore_n 3, 1) := by decide +kernel
theorem dX5_rememberOpen_9 : decode cX5_rememberOpen 9 = .ok (.iload_n 3, 1) := by decide +kernel
theorem dX5_rememberOpen_10 : decode cX5_rememberOpen 10 = .ok (.iconst 4, 1) := by decide +kernel
theorem dX5_rememberOpen_11 : decode cX5_rememberOpen 11 = .ok (.if_icmp .ge 21, 3) := by decide +kernel
theorem dX5_rememberOpen_14 : decode cX5_rememberOpen 14 = .ok (.iload_n 3, 1) := by decide +kernel
theorem dX5_rememberOpen_15 : decode cX5_rememberOpen 15 = .ok (.iload_n 1, 1) := by decide +kernel
theorem dX5_rememberOpen_16 : decode cX5_rememberOpen 16 = .ok (.if_icmp .eq 10, 3) := by decide +kernel
theorem dX5_rememberOpen_19 : decode cX5_rememberOpen 19 = .ok (.aload_n 0, 1) := by decide +kernel
theorem dX5_rememberOpen_20 : decode cX5_rememberOpen 20 = .ok (.getfield 15, 3) := by decide +kernel
theorem dX5_rememberOpen_23 : decode cX5_rememberOpen 23 = .ok (.iload_n 3, 1) := by decide +kernel
theorem dX5_rememberOpen_24 : decode cX5_rememberOpen 24 = .ok (.iload_n 2, 1) := by decide +kernel
theorem dX5_rememberOpen_25 : decode cX5_rememberOpen 25 = .ok (.iastore, 1) := by decide +kernel
theorem dX5_rememberOpen_26 : decode cX5_rememberOpen 26 = .ok (.iinc 3 1, 3) := by decide +kernel
theorem dX5_rememberOpen_29 : decode cX5_rememberOpen 29 = .ok (.goto (-20), 3) := by decide +kernel
theorem dX5_rememberOpen_32 : decode cX5_rememberOpen 32 = .ok (.aload_n 0, 1) := by decide +kernel
theorem dX5_rememberOpen_33 : decode cX5_rememberOpen 33 = .ok (.getfield 30, 3) := by decide +kernel
theorem dX5_rememberOpen_36 : decode cX5_rememberOpen 36 = .ok (.aload_n 0, 1) := by decide +kernel
theorem dX5_rememberOpen_37 : decode cX5_rememberOpen 37 = .ok (.getfield 42, 3) := by decide +kernel
theorem dX5_rememberOpen_40 : decode cX5_rememberOpen 40 = .ok (.iconst 4, 1) := by decide +kernel
theorem dX5_rememberOpen_41 : decode cX5_rememberOpen 41 = .ok (.irem, 1) := by decide +kernel
theorem dX5_rememberOpen_42 : decode cX5_rememberOpen 42 = .ok (.iload_n 2, 1) := by decide +kernel
theorem dX5_rememberOpen_43 : decode cX5_rememberOpen 43 = .ok (.iastore, 1) := by decide +kernel
theorem dX5_rememberOpen_44 : decode cX5_rememberOpen 44 = .ok (.aload_n 0, 1) := by decide +kernel
theorem dX5_rememberOpen_45 : decode cX5_rememberOpen 45 = .ok (.dup, 1) := by decide +kernel
theorem dX5_rememberOpen_46 : decode cX5_rememberOpen 46 = .ok (.getfield 42, 3) := by decide +kernel
theorem dX5_rememberOpen_49 : decode cX5_rememberOpen 49 = .ok (.iconst 1, 1) := by decide +kernel
theorem dX5_rememberOpen_50 : decode cX5_rememberOpen 50 = .ok (.iadd, 1) := by decide +kernel
theorem dX5_rememberOpen_51 : decode cX5_rememberOpen 51 = .ok (.putfield 42, 3) := by decide +kernel
theorem dX5_rememberOpen_54 : decode cX5_rememberOpen 54 = .ok (.return_, 1) := by decide +kernel
theorem dX5_leastTick_0 : decode cX5_leastTick 0 = .ok (.iconst 1, 1) := by decide +kernel
theorem dX5_leastTick_1 : decode cX5_leastTick 1 = .ok (.istore 4, 2) := by decide +kernel
theorem dX5_leastTick_3 : decode cX5_leastTick 3 = .ok (.iconst 0, 1) := by decide +kernel
theorem dX5_leastTick_4 : decode cX5_leastTick 4 = .ok (.istore 5, 2) := by decide +kernel
theorem dX5_leastTick_6 : decode cX5_leastTick 6 = .ok (.iload 5, 2) := by decide +kernel
theorem dX5_leastTick_8 : decode cX5_leastTick 8 = .ok (.aload_n 1, 1) := by decide +kernel
theorem dX5_leastTick_9 : decode cX5_leastTick 9 = .ok (.arraylength, 1) := by decide +kernel
theorem dX5_leastTick_10 : decode cX5_leastTick 10 = .ok (.if_icmp .ge 29, 3) := by decide +kernel
theorem dX5_leastTick_13 : decode cX5_leastTick 13 = .ok (.iload 4, 2) := by decide +kernel
theorem dX5_leastTick_15 : decode cX5_leastTick 15 = .ok (.aload_n 0, 1) := by decide +kernel
theorem dX5_leastTick_16 : decode cX5_leastTick 16 = .ok (.iload 5, 2) := by decide +kernel
theorem dX5_leastTick_18 : decode cX5_leastTick 18 = .ok (.iload_n 2, 1) := by decide +kernel
theorem dX5_leastTick_19 : decode cX5_leastTick 19 = .ok (.iload_n 3, 1) := by decide +kernel
theorem dX5_leastTick_20 : decode cX5_leastTick 20 = .ok (.invokevirtual 62, 3) := by decide +kernel
theorem dX5_leastTick_23 : decode cX5_leastTick 23 = .ok (.aload_n 1, 1) := by decide +kernel
theorem dX5_leastTick_24 : decode cX5_leastTick 24 = .ok (.iload 5, 2) := by decide +kernel
theorem dX5_leastTick_26 : decode cX5_leastTick 26 = .ok (.iaload, 1) := by decide +kernel
theorem dX5_leastTick_27 : decode cX5_leastTick 27 = .ok (.iadd, 1) := by decide +kernel
theorem dX5_leastTick_28 : decode cX5_leastTick 28 = .ok (.invokestatic 66, 3) := by decide +kernel
theorem dX5_leastTick_31 : decode cX5_leastTick 31 = .ok (.istore 4, 2) := by decide +kernel
theorem dX5_leastTick_33 : decode cX5_leastTick 33 = .ok (.iinc 5 1, 3) := by decide +kernel
theorem dX5_leastTick_36 : decode cX5_leastTick 36 = .ok (.goto (-30), 3) := by decide +kernel
theorem dX5_leastTick_39 : decode cX5_leastTick 39 = .ok (.iload 4, 2) := by decide +kernel
theorem dX5_leastTick_41 : decode cX5_leastTick 41 = .ok (.ireturn, 1) := by decide +kernel
theorem dX5_leastBroken_0 : decode cX5_leastBroken 0 = .ok (.iconst 0, 1) := by decide +kernel
theorem dX5_leastBroken_1 : decode cX5_leastBroken 1 = .ok (.istore 5, 2) := by decide +kernel
theorem dX5_leastBroken_3 : decode cX5_leastBroken 3 = .ok (.iload 5, 2) := by decide +kernel
theorem dX5_leastBroken_5 : decode cX5_leastBroken 5 = .ok (.aload_n 1, 1) := by decide +kernel
theorem dX5_leastBroken_6 : decode cX5_leastBroken 6 = .ok (.arraylength, 1) := by decide +kernel
theorem dX5_leastBroken_7 : decode cX5_leastBroken 7 = .ok (.if_icmp .ge 30, 3) := by decide +kernel
theorem dX5_leastBroken_10 : decode cX5_leastBroken 10 = .ok (.iload 4, 2) := by decide +kernel
theorem dX5_leastBroken_12 : decode cX5_leastBroken 12 = .ok (.aload_n 0, 1) := by decide +kernel
theorem dX5_leastBroken_13 : decode cX5_leastBroken 13 = .ok (.iload 5, 2) := by decide +kernel
theorem dX5_leastBroken_15 : decode cX5_leastBroken 15 = .ok (.iload_n 2, 1) := by decide +kernel
theorem dX5_leastBroken_16 : decode cX5_leastBroken 16 = .ok (.iload_n 3, 1) := by decide +kernel
theorem dX5_leastBroken_17 : decode cX5_leastBroken 17 = .ok (.invokevirtual 62, 3) := by decide +kernel
theorem dX5_leastBroken_20 : decode cX5_leastBroken 20 = .ok (.aload_n 1, 1) := by decide +kernel
theorem dX5_leastBroken_21 : decode cX5_leastBroken 21 = .ok (.iload 5, 2) := by decide +kernel
theorem dX5_leastBroken_23 : decode cX5_leastBroken 23 = .ok (.iaload, 1) := by decide +kernel
theorem dX5_leastBroken_24 : decode cX5_leastBroken 24 = .ok (.iadd, 1) := by decide +kernel
theorem dX5_leastBroken_25 : decode cX5_leastBroken 25 = .ok (.if_icmp .ge 6, 3) := by decide +kernel
theorem dX5_leastBroken_28 : decode cX5_leastBroken 28 = .ok (.iload 5, 2) := by decide +kernel
theorem dX5_leastBroken_30 : decode cX5_leastBroken 30 = .ok (.ireturn, 1) := by decide +kernel
theorem dX5_leastBroken_31 : decode cX5_leastBroken 31 = .ok (.iinc 5 1, 3) := by decide +kernel
theorem dX5_leastBroken_34 : decode cX5_leastBroken 34 = .ok (.goto (-31), 3) := by decide +kernel
theorem dX5_leastBroken_37 : decode cX5_leastBroken 37 = .ok (.bipush (-2), 2) := by decide +kernel
theorem dX5_leastBroken_39 : decode cX5_leastBroken 39 = .ok (.ireturn, 1) := by decide +kernel
theorem dX5_countedFrom_0 : decode cX5_countedFrom 0 = .ok (.iload_n 2, 1) := by decide +kernel
theorem dX5_countedFrom_1 : decode cX5_countedFrom 1 = .ok (.iconst 2, 1) := by decide +kernel
theorem dX5_countedFrom_2 : decode cX5_countedFrom 2 = .ok (.if_icmp .eq 8, 3) := by decide +kernel
theorem dX5_countedFrom_5 : decode cX5_countedFrom 5 = .ok (.iload_n 2, 1) := by decide +kernel
theorem dX5_countedFrom_6 : decode cX5_countedFrom 6 = .ok (.iconst 3, 1) := by decide +kernel
theorem dX5_countedFrom_7 : decode cX5_countedFrom 7 = .ok (.if_icmp .ne 7, 3) := by decide +kernel
theorem dX5_countedFrom_10 : decode cX5_countedFrom 10 = .ok (.iconst 1, 1) := by decide +kernel
theorem dX5_countedFrom_11 : decode cX5_countedFrom 11 = .ok (.goto 4, 3) := by decide +kernel
theorem dX5_countedFrom_14 : decode cX5_countedFrom 14 = .ok (.iconst 0, 1) := by decide +kernel
theorem dX5_countedFrom_15 : decode cX5_countedFrom 15 = .ok (.istore 4, 2) := by decide +kernel
theorem dX5_countedFrom_17 : decode cX5_countedFrom 17 = .ok (.iload_n 1, 1) := by decide +kernel
theorem dX5_countedFrom_18 : decode cX5_countedFrom 18 = .ok (.tableswitch 289 0 12 #[66, 84, 102, 119, 137, 155, 175, 197, 213, 229, 246, 268, 273], 66) := by decide +kernel
theorem dX5_countedFrom_84 : decode cX5_countedFrom 84 = .ok (.iload 4, 2) := by decide +kernel
theorem dX5_countedFrom_86 : decode cX5_countedFrom 86 = .ok (.ifCond .eq 12, 3) := by decide +kernel
theorem dX5_countedFrom_89 : decode cX5_countedFrom 89 = .ok (.aload_n 0, 1) := by decide +kernel
theorem dX5_countedFrom_90 : decode cX5_countedFrom 90 = .ok (.getfield 9, 3) := by decide +kernel
theorem dX5_countedFrom_93 : decode cX5_countedFrom 93 = .ok (.iload_n 3, 1) := by decide +kernel
theorem dX5_countedFrom_94 : decode cX5_countedFrom 94 = .ok (.iaload, 1) := by decide +kernel
theorem dX5_countedFrom_95 : decode cX5_countedFrom 95 = .ok (.goto 6, 3) := by decide +kernel
theorem dX5_countedFrom_98 : decode cX5_countedFrom 98 = .ok (.sipush (-1000), 3) := by decide +kernel
theorem dX5_countedFrom_101 : decode cX5_countedFrom 101 = .ok (.ireturn, 1) := by decide +kernel
theorem dX5_countedFrom_102 : decode cX5_countedFrom 102 = .ok (.iload_n 2, 1) := by decide +kernel
theorem dX5_countedFrom_103 : decode cX5_countedFrom 103 = .ok (.iconst 1, 1) := by decide +kernel
theorem dX5_countedFrom_104 : decode cX5_countedFrom 104 = .ok (.if_icmp .ne 12, 3) := by decide +kernel
theorem dX5_countedFrom_107 : decode cX5_countedFrom 107 = .ok (.aload_n 0, 1) := by decide +kernel
theorem dX5_countedFrom_108 : decode cX5_countedFrom 108 = .ok (.getfield 9, 3) := by decide +kernel
theorem dX5_countedFrom_111 : decode cX5_countedFrom 111 = .ok (.iload_n 3, 1) := by decide +kernel
theorem dX5_countedFrom_112 : decode cX5_countedFrom 112 = .ok (.iaload, 1) := by decide +kernel
theorem dX5_countedFrom_113 : decode cX5_countedFrom 113 = .ok (.goto 6, 3) := by decide +kernel
theorem dX5_countedFrom_116 : decode cX5_countedFrom 116 = .ok (.sipush (-1000), 3) := by decide +kernel
theorem dX5_countedFrom_119 : decode cX5_countedFrom 119 = .ok (.ireturn, 1) := by decide +kernel
theorem dX5_countedFrom_120 : decode cX5_countedFrom 120 = .ok (.iload_n 2, 1) := by decide +kernel
theorem dX5_countedFrom_121 : decode cX5_countedFrom 121 = .ok (.ifCond .ne 12, 3) := by decide +kernel
theorem dX5_countedFrom_124 : decode cX5_countedFrom 124 = .ok (.aload_n 0, 1) := by decide +kernel
theorem dX5_countedFrom_125 : decode cX5_countedFrom 125 = .ok (.getfield 18, 3) := by decide +kernel
theorem dX5_countedFrom_128 : decode cX5_countedFrom 128 = .ok (.iload_n 3, 1) := by decide +kernel
theorem dX5_countedFrom_129 : decode cX5_countedFrom 129 = .ok (.iaload, 1) := by decide +kernel
theorem dX5_countedFrom_130 : decode cX5_countedFrom 130 = .ok (.goto 6, 3) := by decide +kernel
theorem dX5_countedFrom_133 : decode cX5_countedFrom 133 = .ok (.sipush (-1000), 3) := by decide +kernel
theorem dX5_countedFrom_136 : decode cX5_countedFrom 136 = .ok (.ireturn, 1) := by decide +kernel
theorem dX5_countedFrom_137 : decode cX5_countedFrom 137 = .ok (.iload_n 2, 1) := by decide +kernel
theorem dX5_countedFrom_138 : decode cX5_countedFrom 138 = .ok (.iconst 1, 1) := by decide +kernel
theorem dX5_countedFrom_139 : decode cX5_countedFrom 139 = .ok (.if_icmp .ne 12, 3) := by decide +kernel
theorem dX5_countedFrom_142 : decode cX5_countedFrom 142 = .ok (.aload_n 0, 1) := by decide +kernel
theorem dX5_countedFrom_143 : decode cX5_countedFrom 143 = .ok (.getfield 21, 3) := by decide +kernel
theorem dX5_countedFrom_146 : decode cX5_countedFrom 146 = .ok (.iload_n 3, 1) := by decide +kernel
theorem dX5_countedFrom_147 : decode cX5_countedFrom 147 = .ok (.iaload, 1) := by decide +kernel
theorem dX5_countedFrom_148 : decode cX5_countedFrom 148 = .ok (.goto 6, 3) := by decide +kernel
theorem dX5_countedFrom_151 : decode cX5_countedFrom 151 = .ok (.sipush (-1000), 3) := by decide +kernel
theorem dX5_countedFrom_154 : decode cX5_countedFrom 154 = .ok (.ireturn, 1) := by decide +kernel
theorem dX5_countedFrom_155 : decode cX5_countedFrom 155 = .ok (.iload_n 2, 1) := by decide +kernel
theorem dX5_countedFrom_156 : decode cX5_countedFrom 156 = .ok (.iconst 1, 1) := by decide +kernel
theorem dX5_countedFrom_157 : decode cX5_countedFrom 157 = .ok (.if_icmp .ne 12, 3) := by decide +kernel
theorem dX5_countedFrom_160 : decode cX5_countedFrom 160 = .ok (.aload_n 0, 1) := by decide +kernel
theorem dX5_countedFrom_161 : decode cX5_countedFrom 161 = .ok (.getfield 24, 3) := by decide +kernel
theorem dX5_countedFrom_164 : decode cX5_countedFrom 164 = .ok (.iload_n 3, 1) := by decide +kernel
theorem dX5_countedFrom_165 : decode cX5_countedFrom 165 = .ok (.iaload, 1) := by decide +kernel
theorem dX5_countedFrom_166 : decode cX5_countedFrom 166 = .ok (.goto 6, 3) := by decide +kernel
theorem dX5_countedFrom_169 : decode cX5_countedFrom 169 = .ok (.sipush (-1000), 3) := by decide +kernel
theorem dX5_countedFrom_172 : decode cX5_countedFrom 172 = .ok (.ireturn, 1) := by decide +kernel
theorem dX5_countedFrom_173 : decode cX5_countedFrom 173 = .ok (.iload 4, 2) := by decide +kernel
theorem dX5_countedFrom_175 : decode cX5_countedFrom 175 = .ok (.ifCond .eq 14, 3) := by decide +kernel
theorem dX5_countedFrom_178 : decode cX5_countedFrom 178 = .ok (.aload_n 0, 1) := by decide +kernel
theorem dX5_countedFrom_179 : decode cX5_countedFrom 179 = .ok (.getfield 27, 3) := by decide +kernel
theorem dX5_countedFrom_182 : decode cX5_countedFrom 182 = .ok (.iload_n 3, 1) := by decide +kernel
theorem dX5_countedFrom_183 : decode cX5_countedFrom 183 = .ok (.iconst 2, 1) := by decide +kernel
theorem dX5_countedFrom_184 : decode cX5_countedFrom 184 = .ok (.idiv, 1) := by decide +kernel
theorem dX5_countedFrom_185 : decode cX5_countedFrom 185 = .ok (.iaload, 1) := by decide +kernel
theorem dX5_countedFrom_186 : decode cX5_countedFrom 186 = .ok (.goto 6, 3) := by decide +kernel
theorem dX5_countedFrom_189 : decode cX5_countedFrom 189 = .ok (.sipush (-1000), 3) := by decide +kernel
theorem dX5_countedFrom_192 : decode cX5_countedFrom 192 = .ok (.ireturn, 1) := by decide +kernel
theorem dX5_countedFrom_193 : decode cX5_countedFrom 193 = .ok (.iload 4, 2) := by decide +kernel
theorem dX5_countedFrom_195 : decode cX5_countedFrom 195 = .ok (.ifCond .eq 16, 3) := by decide +kernel
theorem dX5_countedFrom_198 : decode cX5_countedFrom 198 = .ok (.aload_n 0, 1) := by decide +kernel
theorem dX5_countedFrom_199 : decode cX5_countedFrom 199 = .ok (.getfield 27, 3) := by decide +kernel
theorem dX5_countedFrom_202 : decode cX5_countedFrom 202 = .ok (.iconst 1, 1) := by decide +kernel
theorem dX5_countedFrom_203 : decode cX5_countedFrom 203 = .ok (.iload_n 3, 1) := by decide +kernel
theorem dX5_countedFrom_204 : decode cX5_countedFrom 204 = .ok (.iconst 2, 1) := by decide +kernel
theorem dX5_countedFrom_205 : decode cX5_countedFrom 205 = .ok (.idiv, 1) := by decide +kernel
theorem dX5_countedFrom_206 : decode cX5_countedFrom 206 = .ok (.isub, 1) := by decide +kernel
theorem dX5_countedFrom_207 : decode cX5_countedFrom 207 = .ok (.iaload, 1) := by decide +kernel
theorem dX5_countedFrom_208 : decode cX5_countedFrom 208 = .ok (.goto 6, 3) := by decide +kernel
theorem dX5_countedFrom_211 : decode cX5_countedFrom 211 = .ok (.sipush (-1000), 3) := by decide +kernel
theorem dX5_countedFrom_214 : decode cX5_countedFrom 214 = .ok (.ireturn, 1) := by decide +kernel
theorem dX5_countedFrom_215 : decode cX5_countedFrom 215 = .ok (.iload_n 2, 1) := by decide +kernel
theorem dX5_countedFrom_216 : decode cX5_countedFrom 216 = .ok (.iconst 3, 1) := by decide +kernel
theorem dX5_countedFrom_217 : decode cX5_countedFrom 217 = .ok (.if_icmp .ne 10, 3) := by decide +kernel
theorem dX5_countedFrom_220 : decode cX5_countedFrom 220 = .ok (.aload_n 0, 1) := by decide +kernel
theorem dX5_countedFrom_221 : decode cX5_countedFrom 221 = .ok (.getfield 49, 3) := by decide +kernel
theorem dX5_countedFrom_224 : decode cX5_countedFrom 224 = .ok (.goto 6, 3) := by decide +kernel
theorem dX5_countedFrom_227 : decode cX5_countedFrom 227 = .ok (.sipush (-1000), 3) := by decide +kernel
theorem dX5_countedFrom_230 : decode cX5_countedFrom 230 = .ok (.ireturn, 1) := by decide +kernel
theorem dX5_countedFrom_231 : decode cX5_countedFrom 231 = .ok (.iload_n 2, 1) := by decide +kernel
theorem dX5_countedFrom_232 : decode cX5_countedFrom 232 = .ok (.iconst 2, 1) := by decide +kernel
theorem dX5_countedFrom_233 : decode cX5_countedFrom 233 = .ok (.if_icmp .ne 10, 3) := by decide +kernel
theorem dX5_countedFrom_236 : decode cX5_countedFrom 236 = .ok (.aload_n 0, 1) := by decide +kernel
theorem dX5_countedFrom_237 : decode cX5_countedFrom 237 = .ok (.getfield 52, 3) := by decide +kernel
theorem dX5_countedFrom_240 : decode cX5_countedFrom 240 = .ok (.goto 6, 3) := by decide +kernel
theorem dX5_countedFrom_243 : decode cX5_countedFrom 243 = .ok (.sipush (-1000), 3) := by decide +kernel
theorem dX5_countedFrom_246 : decode cX5_countedFrom 246 = .ok (.ireturn, 1) := by decide +kernel
theorem dX5_countedFrom_247 : decode cX5_countedFrom 247 = .ok (.iload_n 2, 1) := by decide +kernel
theorem dX5_countedFrom_248 : decode cX5_countedFrom 248 = .ok (.ifCond .ne 12, 3) := by decide +kernel
theorem dX5_countedFrom_251 : decode cX5_countedFrom 251 = .ok (.aload_n 0, 1) := by decide +kernel
theorem dX5_countedFrom_252 : decode cX5_countedFrom 252 = .ok (.getfield 15, 3) := by decide +kernel
theorem dX5_countedFrom_255 : decode cX5_countedFrom 255 = .ok (.iload_n 3, 1) := by decide +kernel
theorem dX5_countedFrom_256 : decode cX5_countedFrom 256 = .ok (.iaload, 1) := by decide +kernel
theorem dX5_countedFrom_257 : decode cX5_countedFrom 257 = .ok (.goto 6, 3) := by decide +kernel
theorem dX5_countedFrom_260 : decode cX5_countedFrom 260 = .ok (.sipush (-1000), 3) := by decide +kernel
theorem dX5_countedFrom_263 : decode cX5_countedFrom 263 = .ok (.ireturn, 1) := by decide +kernel
theorem dX5_countedFrom_264 : decode cX5_countedFrom 264 = .ok (.iload_n 2, 1) := by decide +kernel
theorem dX5_countedFrom_265 : decode cX5_countedFrom 265 = .ok (.ifCond .ne 17, 3) := by decide +kernel
theorem dX5_countedFrom_268 : decode cX5_countedFrom 268 = .ok (.aload_n 0, 1) := by decide +kernel
theorem dX5_countedFrom_269 : decode cX5_countedFrom 269 = .ok (.getfield 30, 3) := by decide +kernel
theorem dX5_countedFrom_272 : decode cX5_countedFrom 272 = .ok (.aload_n 0, 1) := by decide +kernel
theorem dX5_countedFrom_273 : decode cX5_countedFrom 273 = .ok (.getfield 42, 3) := by decide +kernel
theorem dX5_countedFrom_276 : decode cX5_countedFrom 276 = .ok (.iconst 4, 1) := by decide +kernel
theorem dX5_countedFrom_277 : decode cX5_countedFrom 277 = .ok (.irem, 1) := by decide +kernel
theorem dX5_countedFrom_278 : decode cX5_countedFrom 278 = .ok (.iaload, 1) := by decide +kernel
theorem dX5_countedFrom_279 : decode cX5_countedFrom 279 = .ok (.goto 6, 3) := by decide +kernel
theorem dX5_countedFrom_282 : decode cX5_countedFrom 282 = .ok (.sipush (-1000), 3) := by decide +kernel
theorem dX5_countedFrom_285 : decode cX5_countedFrom 285 = .ok (.ireturn, 1) := by decide +kernel
theorem dX5_countedFrom_286 : decode cX5_countedFrom 286 = .ok (.aload_n 0, 1) := by decide +kernel
theorem dX5_countedFrom_287 : decode cX5_countedFrom 287 = .ok (.getfield 55, 3) := by decide +kernel
theorem dX5_countedFrom_290 : decode cX5_countedFrom 290 = .ok (.ireturn, 1) := by decide +kernel
theorem dX5_countedFrom_291 : decode cX5_countedFrom 291 = .ok (.iload_n 2, 1) := by decide +kernel
theorem dX5_countedFrom_292 : decode cX5_countedFrom 292 = .ok (.iconst 4, 1) := by decide +kernel
theorem dX5_countedFrom_293 : decode cX5_countedFrom 293 = .ok (.if_icmp .ne 10, 3) := by decide +kernel
theorem dX5_countedFrom_296 : decode cX5_countedFrom 296 = .ok (.aload_n 0, 1) := by decide +kernel
theorem dX5_countedFrom_297 : decode cX5_countedFrom 297 = .ok (.getfield 46, 3) := by decide +kernel
theorem dX5_countedFrom_300 : decode cX5_countedFrom 300 = .ok (.goto 6, 3) := by decide +kernel
theorem dX5_countedFrom_303 : decode cX5_countedFrom 303 = .ok (.sipush (-1000), 3) := by decide +kernel
theorem dX5_countedFrom_306 : decode cX5_countedFrom 306 = .ok (.ireturn, 1) := by decide +kernel
theorem dX5_countedFrom_307 : decode cX5_countedFrom 307 = .ok (.sipush (-1000), 3) := by decide +kernel
theorem dX5_countedFrom_310 : decode cX5_countedFrom 310 = .ok (.ireturn, 1) := by decide +kernel
theorem dX6_init_0 : decode cX6_init 0 = .ok (.aload_n 0, 1) := by decide +kernel
theorem dX6_init_1 : decode cX6_init 1 = .ok (.iload_n 1, 1) := by decide +kernel
theorem dX6_init_2 : decode cX6_init 2 = .ok (.iload_n 2, 1) := by decide +kernel
theorem dX6_init_3 : decode cX6_init 3 = .ok (.iload_n 3, 1) := by decide +kernel
theorem dX6_init_4 : decode cX6_init 4 = .ok (.iload 4, 2) := by decide +kernel
theorem dX6_init_6 : decode cX6_init 6 = .ok (.invokespecial 3, 3) := by decide +kernel
theorem dX6_init_9 : decode cX6_init 9 = .ok (.return_, 1) := by decide +kernel
theorem dX6_kind_0 : decode cX6_kind 0 = .ok (.iconst 0, 1) := by decide +kernel
theorem dX6_kind_1 : decode cX6_kind 1 = .ok (.ireturn, 1) := by decide +kernel
theorem dX6_doneBy_0 : decode cX6_doneBy 0 = .ok (.iconst 2, 1) := by decide +kernel
theorem dX6_doneBy_1 : decode cX6_doneBy 1 = .ok (.ireturn, 1) := by decide +kernel
theorem dX6_answerFrom_0 : decode cX6_answerFrom 0 = .ok (.iload_n 1, 1) := by decide +kernel
theorem dX6_answerFrom_1 : decode cX6_answerFrom 1 = .ok (.ireturn, 1) := by decide +kernel
theorem dX6_fail_0 : decode cX6_fail 0 = .ok (.return_, 1) := by decide +kernel
theorem dX7_init_0 : decode cX7_init 0 = .ok (.aload_n 0, 1) := by decide +kernel
theorem dX7_init_1 : decode cX7_init 1 = .ok (.invokespecial 3, 3) := by decide +kernel
theorem dX7_init_4 : decode cX7_init 4 = .ok (.aload_n 0, 1) := by decide +kernel
theorem dX7_init_5 : decode cX7_init 5 = .ok (.sipush 400, 3) := by decide +kernel
theorem dX7_init_8 : decode cX7_init 8 = .ok (.anewarray 9, 3) := by decide +kernel
theorem dX7_init_11 : decode cX7_init 11 = .ok (.putfield 11, 3) := by decide +kernel
theorem dX7_init_14 : decode cX7_init 14 = .ok (.aload_n 0, 1) := by decide +kernel
theorem dX7_init_15 : decode cX7_init 15 = .ok (.sipush 1024, 3) := by decide +kernel
theorem dX7_init_18 : decode cX7_init 18 = .ok (.newarray .int, 2) := by decide +kernel
theorem dX7_init_20 : decode cX7_init 20 = .ok (.putfield 17, 3) := by decide +kernel
theorem dX7_init_23 : decode cX7_init 23 = .ok (.aload_n 0, 1) := by decide +kernel
theorem dX7_init_24 : decode cX7_init 24 = .ok (.iconst 4, 1) := by decide +kernel
theorem dX7_init_25 : decode cX7_init 25 = .ok (.newarray .int, 2) := by decide +kernel
theorem dX7_init_27 : decode cX7_init 27 = .ok (.putfield 21, 3) := by decide +kernel
theorem dX7_init_30 : decode cX7_init 30 = .ok (.aload_n 0, 1) := by decide +kernel
theorem dX7_init_31 : decode cX7_init 31 = .ok (.iconst 4, 1) := by decide +kernel
theorem dX7_init_32 : decode cX7_init 32 = .ok (.newarray .int, 2) := by decide +kernel
theorem dX7_init_34 : decode cX7_init 34 = .ok (.dup, 1) := by decide +kernel
theorem dX7_init_35 : decode cX7_init 35 = .ok (.iconst 0, 1) := by decide +kernel
theorem dX7_init_36 : decode cX7_init 36 = .ok (.bipush (-2), 2) := by decide +kernel
theorem dX7_init_38 : decode cX7_init 38 = .ok (.iastore, 1) := by decide +kernel
theorem dX7_init_39 : decode cX7_init 39 = .ok (.dup, 1) := by decide +kernel
theorem dX7_init_40 : decode cX7_init 40 = .ok (.iconst 1, 1) := by decide +kernel
theorem dX7_init_41 : decode cX7_init 41 = .ok (.bipush (-2), 2) := by decide +kernel
theorem dX7_init_43 : decode cX7_init 43 = .ok (.iastore, 1) := by decide +kernel
theorem dX7_init_44 : decode cX7_init 44 = .ok (.dup, 1) := by decide +kernel
theorem dX7_init_45 : decode cX7_init 45 = .ok (.iconst 2, 1) := by decide +kernel
theorem dX7_init_46 : decode cX7_init 46 = .ok (.bipush (-2), 2) := by decide +kernel
theorem dX7_init_48 : decode cX7_init 48 = .ok (.iastore, 1) := by decide +kernel
theorem dX7_init_49 : decode cX7_init 49 = .ok (.dup, 1) := by decide +kernel
theorem dX7_init_50 : decode cX7_init 50 = .ok (.iconst 3, 1) := by decide +kernel
theorem dX7_init_51 : decode cX7_init 51 = .ok (.bipush (-2), 2) := by decide +kernel
theorem dX7_init_53 : decode cX7_init 53 = .ok (.iastore, 1) := by decide +kernel
theorem dX7_init_54 : decode cX7_init 54 = .ok (.putfield 24, 3) := by decide +kernel
theorem dX7_init_57 : decode cX7_init 57 = .ok (.aload_n 0, 1) := by decide +kernel
theorem dX7_init_58 : decode cX7_init 58 = .ok (.aconst_null, 1) := by decide +kernel
theorem dX7_init_59 : decode cX7_init 59 = .ok (.putfield 27, 3) := by decide +kernel
theorem dX7_init_62 : decode cX7_init 62 = .ok (.aload_n 0, 1) := by decide +kernel
theorem dX7_init_63 : decode cX7_init 63 = .ok (.aconst_null, 1) := by decide +kernel
theorem dX7_init_64 : decode cX7_init 64 = .ok (.putfield 31, 3) := by decide +kernel
theorem dX7_init_67 : decode cX7_init 67 = .ok (.aload_n 0, 1) := by decide +kernel
theorem dX7_init_68 : decode cX7_init 68 = .ok (.iconst 0, 1) := by decide +kernel
theorem dX7_init_69 : decode cX7_init 69 = .ok (.putfield 34, 3) := by decide +kernel
theorem dX7_init_72 : decode cX7_init 72 = .ok (.aload_n 0, 1) := by decide +kernel
theorem dX7_init_73 : decode cX7_init 73 = .ok (.iconst 0, 1) := by decide +kernel
theorem dX7_init_74 : decode cX7_init 74 = .ok (.putfield 38, 3) := by decide +kernel
theorem dX7_init_77 : decode cX7_init 77 = .ok (.aload_n 0, 1) := by decide +kernel
theorem dX7_init_78 : decode cX7_init 78 = .ok (.iconst 0, 1) := by decide +kernel
theorem dX7_init_79 : decode cX7_init 79 = .ok (.putfield 41, 3) := by decide +kernel
theorem dX7_init_82 : decode cX7_init 82 = .ok (.aload_n 0, 1) := by decide +kernel
theorem dX7_init_83 : decode cX7_init 83 = .ok (.iconst 0, 1) := by decide +kernel
theorem dX7_init_84 : decode cX7_init 84 = .ok (.putfield 44, 3) := by decide +kernel
theorem dX7_init_87 : decode cX7_init 87 = .ok (.aload_n 0, 1) := by decide +kernel
theorem dX7_init_88 : decode cX7_init 88 = .ok (.iconst 0, 1) := by decide +kernel
theorem dX7_init_89 : decode cX7_init 89 = .ok (.putfield 47, 3) := by decide +kernel
theorem dX7_init_92 : decode cX7_init 92 = .ok (.return_, 1) := by decide +kernel
theorem dX7_add_0 : decode cX7_add 0 = .ok (.aload_n 0, 1) := by decide +kernel
theorem dX7_add_1 : decode cX7_add 1 = .ok (.getfield 38, 3) := by decide +kernel
theorem dX7_add_4 : decode cX7_add 4 = .ok (.bipush 12, 2) := by decide +kernel
theorem dX7_add_6 : decode cX7_add 6 = .ok (.if_icmp .ge 13, 3) := by decide +kernel
theorem dX7_add_9 : decode cX7_add 9 = .ok (.aload_n 0, 1) := by decide +kernel
theorem dX7_add_10 : decode cX7_add 10 = .ok (.getfield 34, 3) := by decide +kernel
theorem dX7_add_13 : decode cX7_add 13 = .ok (.sipush 400, 3) := by decide +kernel
theorem dX7_add_16 : decode cX7_add 16 = .ok (.if_icmp .lt 6, 3) := by decide +kernel
theorem dX7_add_19 : decode cX7_add 19 = .ok (.bipush (-2), 2) := by decide +kernel
theorem dX7_add_21 : decode cX7_add 21 = .ok (.ireturn, 1) := by decide +kernel
theorem dX7_add_22 : decode cX7_add 22 = .ok (.aload_n 1, 1) := by decide +kernel
theorem dX7_add_23 : decode cX7_add 23 = .ok (.invokevirtual 50, 3) := by decide +kernel
theorem dX7_add_26 : decode cX7_add 26 = .ok (.ifCond .eq 13, 3) := by decide +kernel
theorem dX7_add_29 : decode cX7_add 29 = .ok (.aload_n 0, 1) := by decide +kernel
theorem dX7_add_30 : decode cX7_add 30 = .ok (.dup, 1) := by decide +kernel
theorem dX7_add_31 : decode cX7_add 31 = .ok (.getfield 41, 3) := by decide +kernel
theorem dX7_add_34 : decode cX7_add 34 = .ok (.iconst 1, 1) := by decide +kernel
theorem dX7_add_35 : decode cX7_add 35 = .ok (.iadd, 1) := by decide +kernel
theorem dX7_add_36 : decode cX7_add 36 = .ok (.putfield 41, 3) := by decide +kernel
theorem dX7_add_39 : decode cX7_add 39 = .ok (.aload_n 0, 1) := by decide +kernel
theorem dX7_add_40 : decode cX7_add 40 = .ok (.getfield 31, 3) := by decide +kernel
theorem dX7_add_43 : decode cX7_add 43 = .ok (.astore_n 2, 1) := by decide +kernel
theorem dX7_add_44 : decode cX7_add 44 = .ok (.aload_n 2, 1) := by decide +kernel
theorem dX7_add_45 : decode cX7_add 45 = .ok (.ifnonnull 11, 3) := by decide +kernel
theorem dX7_add_48 : decode cX7_add 48 = .ok (.aload_n 0, 1) := by decide +kernel
theorem dX7_add_49 : decode cX7_add 49 = .ok (.aload_n 1, 1) := by decide +kernel
theorem dX7_add_50 : decode cX7_add 50 = .ok (.putfield 27, 3) := by decide +kernel
theorem dX7_add_53 : decode cX7_add 53 = .ok (.goto 8, 3) := by decide +kernel
theorem dX7_add_56 : decode cX7_add 56 = .ok (.aload_n 2, 1) := by decide +kernel
theorem dX7_add_57 : decode cX7_add 57 = .ok (.aload_n 1, 1) := by decide +kernel
theorem dX7_add_58 : decode cX7_add 58 = .ok (.putfield 54, 3) := by decide +kernel
theorem dX7_add_61 : decode cX7_add 61 = .ok (.aload_n 0, 1) := by decide +kernel
theorem dX7_add_62 : decode cX7_add 62 = .ok (.aload_n 1, 1) := by decide +kernel
theorem dX7_add_63 : decode cX7_add 63 = .ok (.putfield 31, 3) := by decide +kernel
theorem dX7_add_66 : decode cX7_add 66 = .ok (.aload_n 0, 1) := by decide +kernel
theorem dX7_add_67 : decode cX7_add 67 = .ok (.dup, 1) := by decide +kernel
theorem dX7_add_68 : decode cX7_add 68 = .ok (.getfield 38, 3) := by decide +kernel
theorem dX7_add_71 : decode cX7_add 71 = .ok (.iconst 1, 1) := by decide +kernel
theorem dX7_add_72 : decode cX7_add 72 = .ok (.iadd, 1) := by decide +kernel
theorem dX7_add_73 : decode cX7_add 73 = .ok (.putfield 38, 3) := by decide +kernel
theorem dX7_add_76 : decode cX7_add 76 = .ok (.aload_n 0, 1) := by decide +kernel
theorem dX7_add_77 : decode cX7_add 77 = .ok (.getfield 11, 3) := by decide +kernel
theorem dX7_add_80 : decode cX7_add 80 = .ok (.aload_n 0, 1) := by decide +kernel
theorem dX7_add_81 : decode cX7_add 81 = .ok (.getfield 34, 3) := by decide +kernel
theorem dX7_add_84 : decode cX7_add 84 = .ok (.aload_n 1, 1) := by decide +kernel
theorem dX7_add_85 : decode cX7_add 85 = .ok (.aastore, 1) := by decide +kernel
theorem dX7_add_86 : decode cX7_add 86 = .ok (.aload_n 0, 1) := by decide +kernel
theorem dX7_add_87 : decode cX7_add 87 = .ok (.dup, 1) := by decide +kernel
theorem dX7_add_88 : decode cX7_add 88 = .ok (.getfield 34, 3) := by decide +kernel
theorem dX7_add_91 : decode cX7_add 91 = .ok (.iconst 1, 1) := by decide +kernel
theorem dX7_add_92 : decode cX7_add 92 = .ok (.iadd, 1) := by decide +kernel
theorem dX7_add_93 : decode cX7_add 93 = .ok (.putfield 34, 3) := by decide +kernel
theorem dX7_add_96 : decode cX7_add 96 = .ok (.aload_n 1, 1) := by decide +kernel
theorem dX7_add_97 : decode cX7_add 97 = .ok (.getfield 57, 3) := by decide +kernel
theorem dX7_add_100 : decode cX7_add 100 = .ok (.ireturn, 1) := by decide +kernel
theorem dX7_find_0 : decode cX7_find 0 = .ok (.iload_n 1, 1) := by decide +kernel
theorem dX7_find_1 : decode cX7_find 1 = .ok (.ifCond .lt 11, 3) := by decide +kernel
theorem dX7_find_4 : decode cX7_find 4 = .ok (.iload_n 1, 1) := by decide +kernel
theorem dX7_find_5 : decode cX7_find 5 = .ok (.aload_n 0, 1) := by decide +kernel
theorem dX7_find_6 : decode cX7_find 6 = .ok (.getfield 34, 3) := by decide +kernel
theorem dX7_find_9 : decode cX7_find 9 = .ok (.if_icmp .lt 7, 3) := by decide +kernel
theorem dX7_find_12 : decode cX7_find 12 = .ok (.aconst_null, 1) := by decide +kernel
theorem dX7_find_13 : decode cX7_find 13 = .ok (.goto 9, 3) := by decide +kernel
theorem dX7_find_16 : decode cX7_find 16 = .ok (.aload_n 0, 1) := by decide +kernel
theorem dX7_find_17 : decode cX7_find 17 = .ok (.getfield 11, 3) := by decide +kernel
theorem dX7_find_20 : decode cX7_find 20 = .ok (.iload_n 1, 1) := by decide +kernel
theorem dX7_find_21 : decode cX7_find 21 = .ok (.aaload, 1) := by decide +kernel
theorem dX7_find_22 : decode cX7_find 22 = .ok (.areturn, 1) := by decide +kernel
theorem dX7_finishFences_0 : decode cX7_finishFences 0 = .ok (.iconst 0, 1) := by decide +kernel
theorem dX7_finishFences_1 : decode cX7_finishFences 1 = .ok (.istore_n 2, 1) := by decide +kernel
theorem dX7_finishFences_2 : decode cX7_finishFences 2 = .ok (.aconst_null, 1) := by decide +kernel
theorem dX7_finishFences_3 : decode cX7_finishFences 3 = .ok (.astore_n 3, 1) := by decide +kernel
theorem dX7_finishFences_4 : decode cX7_finishFences 4 = .ok (.aload_n 0, 1) := by decide +kernel
theorem dX7_finishFences_5 : decode cX7_finishFences 5 = .ok (.getfield 27, 3) := by decide +kernel
theorem dX7_finishFences_8 : decode cX7_finishFences 8 = .ok (.astore 4, 2) := by decide +kernel
theorem dX7_finishFences_10 : decode cX7_finishFences 10 = .ok (.aload 4, 2) := by decide +kernel
theorem dX7_finishFences_12 : decode cX7_finishFences 12 = .ok (.ifnull 79, 3) := by decide +kernel
theorem dX7_finishFences_15 : decode cX7_finishFences 15 = .ok (.aload 4, 2) := by decide +kernel
theorem dX7_finishFences_17 : decode cX7_finishFences 17 = .ok (.invokevirtual 50, 3) := by decide +kernel
theorem dX7_finishFences_20 : decode cX7_finishFences 20 = .ok (.ifCond .ne 19, 3) := by decide +kernel
theorem dX7_finishFences_23 : decode cX7_finishFences 23 = .ok (.iload_n 2, 1) := by decide +kernel
theorem dX7_finishFences_24 : decode cX7_finishFences 24 = .ok (.iconst 1, 1) := by decide +kernel
theorem dX7_finishFences_25 : decode cX7_finishFences 25 = .ok (.aload 4, 2) := by decide +kernel
theorem dX7_finishFences_27 : decode cX7_finishFences 27 = .ok (.getfield 60, 3) := by decide +kernel
theorem dX7_finishFences_30 : decode cX7_finishFences 30 = .ok (.ishl, 1) := by decide +kernel
theorem dX7_finishFences_31 : decode cX7_finishFences 31 = .ok (.ior, 1) := by decide +kernel
theorem dX7_finishFences_32 : decode cX7_finishFences 32 = .ok (.istore_n 2, 1) := by decide +kernel
theorem dX7_finishFences_33 : decode cX7_finishFences 33 = .ok (.aload 4, 2) := by decide +kernel
theorem dX7_finishFences_35 : decode cX7_finishFences 35 = .ok (.astore_n 3, 1) := by decide +kernel
theorem dX7_finishFences_36 : decode cX7_finishFences 36 = .ok (.goto 45, 3) := by decide +kernel
theorem dX7_finishFences_39 : decode cX7_finishFences 39 = .ok (.iload_n 2, 1) := by decide +kernel
theorem dX7_finishFences_40 : decode cX7_finishFences 40 = .ok (.aload 4, 2) := by decide +kernel
theorem dX7_finishFences_42 : decode cX7_finishFences 42 = .ok (.getfield 60, 3) := by decide +kernel
theorem dX7_finishFences_45 : decode cX7_finishFences 45 = .ok (.ishr, 1) := by decide +kernel
theorem dX7_finishFences_46 : decode cX7_finishFences 46 = .ok (.iconst 1, 1) := by decide +kernel
theorem dX7_finishFences_47 : decode cX7_finishFences 47 = .ok (.iand, 1) := by decide +kernel
theorem dX7_finishFences_48 : decode cX7_finishFences 48 = .ok (.iconst 1, 1) := by decide +kernel
theorem dX7_finishFences_49 : decode cX7_finishFences 49 = .ok (.if_icmp .ne 9, 3) := by decide +kernel
theorem dX7_finishFences_52 : decode cX7_finishFences 52 = .ok (.aload 4, 2) := by decide +kernel
theorem dX7_finishFences_54 : decode cX7_finishFences 54 = .ok (.astore_n 3, 1) := by decide +kernel
theorem dX7_finishFences_55 : decode cX7_finishFences 55 = .ok (.goto 26, 3) := by decide +kernel
theorem dX7_finishFences_58 : decode cX7_finishFences 58 = .ok (.aload 4, 2) := by decide +kernel
theorem dX7_finishFences_60 : decode cX7_finishFences 60 = .ok (.iload_n 1, 1) := by decide +kernel
theorem dX7_finishFences_61 : decode cX7_finishFences 61 = .ok (.putfield 63, 3) := by decide +kernel
theorem dX7_finishFences_64 : decode cX7_finishFences 64 = .ok (.aload_n 0, 1) := by decide +kernel
theorem dX7_finishFences_65 : decode cX7_finishFences 65 = .ok (.dup, 1) := by decide +kernel
theorem dX7_finishFences_66 : decode cX7_finishFences 66 = .ok (.getfield 41, 3) := by decide +kernel
theorem dX7_finishFences_69 : decode cX7_finishFences 69 = .ok (.iconst 1, 1) := by decide +kernel
theorem dX7_finishFences_70 : decode cX7_finishFences 70 = .ok (.isub, 1) := by decide +kernel
theorem dX7_finishFences_71 : decode cX7_finishFences 71 = .ok (.putfield 41, 3) := by decide +kernel
theorem dX7_finishFences_74 : decode cX7_finishFences 74 = .ok (.aload_n 0, 1) := by decide +kernel
theorem dX7_finishFences_75 : decode cX7_finishFences 75 = .ok (.aload 4, 2) := by decide +kernel
theorem dX7_finishFences_77 : decode cX7_finishFences 77 = .ok (.aload_n 3, 1) := by decide +kernel
theorem dX7_finishFences_78 : decode cX7_finishFences 78 = .ok (.invokevirtual 66, 3) := by decide +kernel
theorem dX7_finishFences_81 : decode cX7_finishFences 81 = .ok (.aload 4, 2) := by decide +kernel
theorem dX7_finishFences_83 : decode cX7_finishFences 83 = .ok (.getfield 54, 3) := by decide +kernel
theorem dX7_finishFences_86 : decode cX7_finishFences 86 = .ok (.astore 4, 2) := by decide +kernel
theorem dX7_finishFences_88 : decode cX7_finishFences 88 = .ok (.goto (-78), 3) := by decide +kernel
theorem dX7_finishFences_91 : decode cX7_finishFences 91 = .ok (.return_, 1) := by decide +kernel
theorem dX7_finish_0 : decode cX7_finish 0 = .ok (.iconst 1, 1) := by decide +kernel
theorem dX7_finish_1 : decode cX7_finish 1 = .ok (.istore_n 3, 1) := by decide +kernel
theorem dX7_finish_2 : decode cX7_finish 2 = .ok (.aconst_null, 1) := by decide +kernel
theorem dX7_finish_3 : decode cX7_finish 3 = .ok (.astore 4, 2) := by decide +kernel
theorem dX7_finish_5 : decode cX7_finish 5 = .ok (.aload_n 0, 1) := by decide +kernel
theorem dX7_finish_6 : decode cX7_finish 6 = .ok (.getfield 27, 3) := by decide +kernel
theorem dX7_finish_9 : decode cX7_finish 9 = .ok (.astore 5, 2) := by decide +kernel
theorem dX7_finish_11 : decode cX7_finish 11 = .ok (.aload 5, 2) := by decide +kernel
theorem dX7_finish_13 : decode cX7_finish 13 = .ok (.ifnull 41, 3) := by decide +kernel
theorem dX7_finish_16 : decode cX7_finish 16 = .ok (.aload 5, 2) := by decide +kernel
theorem dX7_finish_18 : decode cX7_finish 18 = .ok (.aload_n 1, 1) := by decide +kernel
theorem dX7_finish_19 : decode cX7_finish 19 = .ok (.if_acmp .eq 35, 3) := by decide +kernel
theorem dX7_finish_22 : decode cX7_finish 22 = .ok (.iload_n 3, 1) := by decide +kernel
theorem dX7_finish_23 : decode cX7_finish 23 = .ok (.ifCond .eq 15, 3) := by decide +kernel
theorem dX7_finish_26 : decode cX7_finish 26 = .ok (.aload 5, 2) := by decide +kernel
theorem dX7_finish_28 : decode cX7_finish 28 = .ok (.invokevirtual 50, 3) := by decide +kernel
theorem dX7_finish_31 : decode cX7_finish 31 = .ok (.ifCond .eq 7, 3) := by decide +kernel
theorem dX7_finish_34 : decode cX7_finish 34 = .ok (.iconst 1, 1) := by decide +kernel
theorem dX7_finish_35 : decode cX7_finish 35 = .ok (.goto 4, 3) := by decide +kernel
theorem dX7_finish_38 : decode cX7_finish 38 = .ok (.iconst 0, 1) := by decide +kernel
theorem dX7_finish_39 : decode cX7_finish 39 = .ok (.istore_n 3, 1) := by decide +kernel
theorem dX7_finish_40 : decode cX7_finish 40 = .ok (.aload 5, 2) := by decide +kernel
theorem dX7_finish_42 : decode cX7_finish 42 = .ok (.astore 4, 2) := by decide +kernel
theorem dX7_finish_44 : decode cX7_finish 44 = .ok (.aload 5, 2) := by decide +kernel
theorem dX7_finish_46 : decode cX7_finish 46 = .ok (.getfield 54, 3) := by decide +kernel
theorem dX7_finish_49 : decode cX7_finish 49 = .ok (.astore 5, 2) := by decide +kernel
theorem dX7_finish_51 : decode cX7_finish 51 = .ok (.goto (-40), 3) := by decide +kernel
theorem dX7_finish_54 : decode cX7_finish 54 = .ok (.aload_n 0, 1) := by decide +kernel
theorem dX7_finish_55 : decode cX7_finish 55 = .ok (.aload_n 1, 1) := by decide +kernel
theorem dX7_finish_56 : decode cX7_finish 56 = .ok (.aload 4, 2) := by decide +kernel
theorem dX7_finish_58 : decode cX7_finish 58 = .ok (.invokevirtual 66, 3) := by decide +kernel
theorem dX7_finish_61 : decode cX7_finish 61 = .ok (.aload_n 1, 1) := by decide +kernel
theorem dX7_finish_62 : decode cX7_finish 62 = .ok (.iload_n 2, 1) := by decide +kernel
theorem dX7_finish_63 : decode cX7_finish 63 = .ok (.putfield 63, 3) := by decide +kernel
theorem dX7_finish_66 : decode cX7_finish 66 = .ok (.aload_n 0, 1) := by decide +kernel
theorem dX7_finish_67 : decode cX7_finish 67 = .ok (.dup, 1) := by decide +kernel
theorem dX7_finish_68 : decode cX7_finish 68 = .ok (.getfield 44, 3) := by decide +kernel
theorem dX7_finish_71 : decode cX7_finish 71 = .ok (.iconst 1, 1) := by decide +kernel
theorem dX7_finish_72 : decode cX7_finish 72 = .ok (.iadd, 1) := by decide +kernel
theorem dX7_finish_73 : decode cX7_finish 73 = .ok (.putfield 44, 3) := by decide +kernel
theorem dX7_finish_76 : decode cX7_finish 76 = .ok (.iload_n 3, 1) := by decide +kernel
theorem dX7_finish_77 : decode cX7_finish 77 = .ok (.ifCond .eq 11, 3) := by decide +kernel
theorem dX7_finish_80 : decode cX7_finish 80 = .ok (.aload_n 0, 1) := by decide +kernel
theorem dX7_finish_81 : decode cX7_finish 81 = .ok (.aload_n 0, 1) := by decide +kernel
theorem dX7_finish_82 : decode cX7_finish 82 = .ok (.getfield 44, 3) := by decide +kernel
theorem dX7_finish_85 : decode cX7_finish 85 = .ok (.putfield 47, 3) := by decide +kernel
theorem dX7_finish_88 : decode cX7_finish 88 = .ok (.aload_n 0, 1) := by decide +kernel
theorem dX7_finish_89 : decode cX7_finish 89 = .ok (.getfield 21, 3) := by decide +kernel
theorem dX7_finish_92 : decode cX7_finish 92 = .ok (.aload_n 1, 1) := by decide +kernel
theorem dX7_finish_93 : decode cX7_finish 93 = .ok (.getfield 60, 3) := by decide +kernel
theorem dX7_finish_96 : decode cX7_finish 96 = .ok (.dup2, 1) := by decide +kernel
theorem dX7_finish_97 : decode cX7_finish 97 = .ok (.iaload, 1) := by decide +kernel
theorem dX7_finish_98 : decode cX7_finish 98 = .ok (.iconst 1, 1) := by decide +kernel
theorem dX7_finish_99 : decode cX7_finish 99 = .ok (.iadd, 1) := by decide +kernel
theorem dX7_finish_100 : decode cX7_finish 100 = .ok (.iastore, 1) := by decide +kernel
theorem dX7_finish_101 : decode cX7_finish 101 = .ok (.aload_n 0, 1) := by decide +kernel
theorem dX7_finish_102 : decode cX7_finish 102 = .ok (.getfield 24, 3) := by decide +kernel
theorem dX7_finish_105 : decode cX7_finish 105 = .ok (.aload_n 1, 1) := by decide +kernel
theorem dX7_finish_106 : decode cX7_finish 106 = .ok (.getfield 60, 3) := by decide +kernel
theorem dX7_finish_109 : decode cX7_finish 109 = .ok (.aload_n 0, 1) := by decide +kernel
theorem dX7_finish_110 : decode cX7_finish 110 = .ok (.getfield 24, 3) := by decide +kernel
theorem dX7_finish_113 : decode cX7_finish 113 = .ok (.aload_n 1, 1) := by decide +kernel
theorem dX7_finish_114 : decode cX7_finish 114 = .ok (.getfield 60, 3) := by decide +kernel
theorem dX7_finish_117 : decode cX7_finish 117 = .ok (.iaload, 1) := by decide +kernel
theorem dX7_finish_118 : decode cX7_finish 118 = .ok (.iload_n 2, 1) := by decide +kernel
theorem dX7_finish_119 : decode cX7_finish 119 = .ok (.aload_n 1, 1) := by decide +kernel
theorem dX7_finish_120 : decode cX7_finish 120 = .ok (.getfield 70, 3) := by decide +kernel
theorem dX7_finish_123 : decode cX7_finish 123 = .ok (.isub, 1) := by decide +kernel
theorem dX7_finish_124 : decode cX7_finish 124 = .ok (.invokestatic 71, 3) := by decide +kernel
theorem dX7_finish_127 : decode cX7_finish 127 = .ok (.iastore, 1) := by decide +kernel
theorem dX7_finish_128 : decode cX7_finish 128 = .ok (.return_, 1) := by decide +kernel
theorem dX7_unlink_0 : decode cX7_unlink 0 = .ok (.aload_n 2, 1) := by decide +kernel
theorem dX7_unlink_1 : decode cX7_unlink 1 = .ok (.ifnonnull 14, 3) := by decide +kernel
theorem dX7_unlink_4 : decode cX7_unlink 4 = .ok (.aload_n 0, 1) := by decide +kernel
theorem dX7_unlink_5 : decode cX7_unlink 5 = .ok (.aload_n 1, 1) := by decide +kernel
theorem dX7_unlink_6 : decode cX7_unlink 6 = .ok (.getfield 54, 3) := by decide +kernel
theorem dX7_unlink_9 : decode cX7_unlink 9 = .ok (.putfield 27, 3) := by decide +kernel
theorem dX7_unlink_12 : decode cX7_unlink 12 = .ok (.goto 11, 3) := by decide +kernel
theorem dX7_unlink_15 : decode cX7_unlink 15 = .ok (.aload_n 2, 1) := by decide +kernel
theorem dX7_unlink_16 : decode cX7_unlink 16 = .ok (.aload_n 1, 1) := by decide +kernel
theorem dX7_unlink_17 : decode cX7_unlink 17 = .ok (.getfield 54, 3) := by decide +kernel
theorem dX7_unlink_20 : decode cX7_unlink 20 = .ok (.putfield 54, 3) := by decide +kernel
theorem dX7_unlink_23 : decode cX7_unlink 23 = .ok (.aload_n 0, 1) := by decide +kernel
theorem dX7_unlink_24 : decode cX7_unlink 24 = .ok (.getfield 31, 3) := by decide +kernel
theorem dX7_unlink_27 : decode cX7_unlink 27 = .ok (.aload_n 1, 1) := by decide +kernel
theorem dX7_unlink_28 : decode cX7_unlink 28 = .ok (.if_acmp .ne 8, 3) := by decide +kernel
theorem dX7_unlink_31 : decode cX7_unlink 31 = .ok (.aload_n 0, 1) := by decide +kernel
theorem dX7_unlink_32 : decode cX7_unlink 32 = .ok (.aload_n 2, 1) := by decide +kernel
theorem dX7_unlink_33 : decode cX7_unlink 33 = .ok (.putfield 31, 3) := by decide +kernel
theorem dX7_unlink_36 : decode cX7_unlink 36 = .ok (.aload_n 0, 1) := by decide +kernel
theorem dX7_unlink_37 : decode cX7_unlink 37 = .ok (.dup, 1) := by decide +kernel
theorem dX7_unlink_38 : decode cX7_unlink 38 = .ok (.getfield 38, 3) := by decide +kernel
theorem dX7_unlink_41 : decode cX7_unlink 41 = .ok (.iconst 1, 1) := by decide +kernel
theorem dX7_unlink_42 : decode cX7_unlink 42 = .ok (.isub, 1) := by decide +kernel
theorem dX7_unlink_43 : decode cX7_unlink 43 = .ok (.putfield 38, 3) := by decide +kernel
theorem dX7_unlink_46 : decode cX7_unlink 46 = .ok (.return_, 1) := by decide +kernel
theorem dX7_isHeld_0 : decode cX7_isHeld 0 = .ok (.iload_n 2, 1) := by decide +kernel
theorem dX7_isHeld_1 : decode cX7_isHeld 1 = .ok (.istore_n 3, 1) := by decide +kernel
theorem dX7_isHeld_2 : decode cX7_isHeld 2 = .ok (.aload_n 0, 1) := by decide +kernel
theorem dX7_isHeld_3 : decode cX7_isHeld 3 = .ok (.getfield 27, 3) := by decide +kernel
theorem dX7_isHeld_6 : decode cX7_isHeld 6 = .ok (.astore 4, 2) := by decide +kernel
theorem dX7_isHeld_8 : decode cX7_isHeld 8 = .ok (.aload 4, 2) := by decide +kernel
theorem dX7_isHeld_10 : decode cX7_isHeld 10 = .ok (.ifnull 74, 3) := by decide +kernel
theorem dX7_isHeld_13 : decode cX7_isHeld 13 = .ok (.aload 4, 2) := by decide +kernel
theorem dX7_isHeld_15 : decode cX7_isHeld 15 = .ok (.aload_n 1, 1) := by decide +kernel
theorem dX7_isHeld_16 : decode cX7_isHeld 16 = .ok (.if_acmp .eq 68, 3) := by decide +kernel
theorem dX7_isHeld_19 : decode cX7_isHeld 19 = .ok (.aload 4, 2) := by decide +kernel
theorem dX7_isHeld_21 : decode cX7_isHeld 21 = .ok (.aload_n 1, 1) := by decide +kernel
theorem dX7_isHeld_22 : decode cX7_isHeld 22 = .ok (.invokevirtual 77, 3) := by decide +kernel
theorem dX7_isHeld_25 : decode cX7_isHeld 25 = .ok (.ifCond .eq 5, 3) := by decide +kernel
theorem dX7_isHeld_28 : decode cX7_isHeld 28 = .ok (.iconst 1, 1) := by decide +kernel
theorem dX7_isHeld_29 : decode cX7_isHeld 29 = .ok (.ireturn, 1) := by decide +kernel
theorem dX7_isHeld_30 : decode cX7_isHeld 30 = .ok (.aload 4, 2) := by decide +kernel
theorem dX7_isHeld_32 : decode cX7_isHeld 32 = .ok (.getfield 60, 3) := by decide +kernel
theorem dX7_isHeld_35 : decode cX7_isHeld 35 = .ok (.aload_n 1, 1) := by decide +kernel
theorem dX7_isHeld_36 : decode cX7_isHeld 36 = .ok (.getfield 60, 3) := by decide +kernel
theorem dX7_isHeld_39 : decode cX7_isHeld 39 = .ok (.if_icmp .ne 35, 3) := by decide +kernel
theorem dX7_isHeld_42 : decode cX7_isHeld 42 = .ok (.aload 4, 2) := by decide +kernel
theorem dX7_isHeld_44 : decode cX7_isHeld 44 = .ok (.invokevirtual 50, 3) := by decide +kernel
theorem dX7_isHeld_47 : decode cX7_isHeld 47 = .ok (.ifCond .eq 9, 3) := by decide +kernel
theorem dX7_isHeld_50 : decode cX7_isHeld 50 = .ok (.iload_n 3, 1) := by decide +kernel
theorem dX7_isHeld_51 : decode cX7_isHeld 51 = .ok (.ifCond .eq 5, 3) := by decide +kernel
theorem dX7_isHeld_54 : decode cX7_isHeld 54 = .ok (.iconst 1, 1) := by decide +kernel
theorem dX7_isHeld_55 : decode cX7_isHeld 55 = .ok (.ireturn, 1) := by decide +kernel
theorem dX7_isHeld_56 : decode cX7_isHeld 56 = .ok (.iload_n 3, 1) := by decide +kernel
theorem dX7_isHeld_57 : decode cX7_isHeld 57 = .ok (.ifCond .ne 11, 3) := by decide +kernel
theorem dX7_isHeld_60 : decode cX7_isHeld 60 = .ok (.aload 4, 2) := by decide +kernel
theorem dX7_isHeld_62 : decode cX7_isHeld 62 = .ok (.invokevirtual 50, 3) := by decide +kernel
theorem dX7_isHeld_65 : decode cX7_isHeld 65 = .ok (.ifCond .ne 7, 3) := by decide +kernel
theorem dX7_isHeld_68 : decode cX7_isHeld 68 = .ok (.iconst 1, 1) := by decide +kernel
theorem dX7_isHeld_69 : decode cX7_isHeld 69 = .ok (.goto 4, 3) := by decide +kernel
theorem dX7_isHeld_72 : decode cX7_isHeld 72 = .ok (.iconst 0, 1) := by decide +kernel
theorem dX7_isHeld_73 : decode cX7_isHeld 73 = .ok (.istore_n 3, 1) := by decide +kernel
theorem dX7_isHeld_74 : decode cX7_isHeld 74 = .ok (.aload 4, 2) := by decide +kernel
theorem dX7_isHeld_76 : decode cX7_isHeld 76 = .ok (.getfield 54, 3) := by decide +kernel
theorem dX7_isHeld_79 : decode cX7_isHeld 79 = .ok (.astore 4, 2) := by decide +kernel
theorem dX7_isHeld_81 : decode cX7_isHeld 81 = .ok (.goto (-73), 3) := by decide +kernel
theorem dX7_isHeld_84 : decode cX7_isHeld 84 = .ok (.iconst 0, 1) := by decide +kernel
theorem dX7_isHeld_85 : decode cX7_isHeld 85 = .ok (.ireturn, 1) := by decide +kernel
theorem dX7_arrange_0 : decode cX7_arrange 0 = .ok (.iload_n 1, 1) := by decide +kernel
theorem dX7_arrange_1 : decode cX7_arrange 1 = .ok (.iconst 1, 1) := by decide +kernel
theorem dX7_arrange_2 : decode cX7_arrange 2 = .ok (.if_icmp .ne 20, 3) := by decide +kernel
theorem dX7_arrange_5 : decode cX7_arrange 5 = .ok (.aload_n 0, 1) := by decide +kernel
theorem dX7_arrange_6 : decode cX7_arrange 6 = .ok (.getfield 44, 3) := by decide +kernel
theorem dX7_arrange_9 : decode cX7_arrange 9 = .ok (.aload_n 0, 1) := by decide +kernel
theorem dX7_arrange_10 : decode cX7_arrange 10 = .ok (.getfield 47, 3) := by decide +kernel
theorem dX7_arrange_13 : decode cX7_arrange 13 = .ok (.isub, 1) := by decide +kernel
theorem dX7_arrange_14 : decode cX7_arrange 14 = .ok (.iload_n 2, 1) := by decide +kernel
theorem dX7_arrange_15 : decode cX7_arrange 15 = .ok (.if_icmp .lt 7, 3) := by decide +kernel
theorem dX7_arrange_18 : decode cX7_arrange 18 = .ok (.iconst 1, 1) := by decide +kernel
theorem dX7_arrange_19 : decode cX7_arrange 19 = .ok (.goto 4, 3) := by decide +kernel
theorem dX7_arrange_22 : decode cX7_arrange 22 = .ok (.iconst 0, 1) := by decide +kernel
theorem dX7_arrange_23 : decode cX7_arrange 23 = .ok (.istore 4, 2) := by decide +kernel
theorem dX7_arrange_25 : decode cX7_arrange 25 = .ok (.aconst_null, 1) := by decide +kernel
theorem dX7_arrange_26 : decode cX7_arrange 26 = .ok (.astore 5, 2) := by decide +kernel
theorem dX7_arrange_28 : decode cX7_arrange 28 = .ok (.aload_n 0, 1) := by decide +kernel
theorem dX7_arrange_29 : decode cX7_arrange 29 = .ok (.getfield 27, 3) := by decide +kernel
theorem dX7_arrange_32 : decode cX7_arrange 32 = .ok (.astore 6, 2) := by decide +kernel
theorem dX7_arrange_34 : decode cX7_arrange 34 = .ok (.aload 6, 2) := by decide +kernel
theorem dX7_arrange_36 : decode cX7_arrange 36 = .ok (.ifnull 52, 3) := by decide +kernel
theorem dX7_arrange_39 : decode cX7_arrange 39 = .ok (.aload 6, 2) := by decide +kernel
theorem dX7_arrange_41 : decode cX7_arrange 41 = .ok (.invokevirtual 50, 3) := by decide +kernel
theorem dX7_arrange_44 : decode cX7_arrange 44 = .ok (.ifCond .ne 34, 3) := by decide +kernel
theorem dX7_arrange_47 : decode cX7_arrange 47 = .ok (.aload 6, 2) := by decide +kernel
theorem dX7_arrange_49 : decode cX7_arrange 49 = .ok (.iload 4, 2) := by decide +kernel
theorem dX7_arrange_51 : decode cX7_arrange 51 = .ok (.ifCond .eq 7, 3) := by decide +kernel
theorem dX7_arrange_54 : decode cX7_arrange 54 = .ok (.iconst 0, 1) := by decide +kernel
theorem dX7_arrange_55 : decode cX7_arrange 55 = .ok (.goto 11, 3) := by decide +kernel
theorem dX7_arrange_58 : decode cX7_arrange 58 = .ok (.aload_n 0, 1) := by decide +kernel
theorem dX7_arrange_59 : decode cX7_arrange 59 = .ok (.aload 6, 2) := by decide +kernel
theorem dX7_arrange_61 : decode cX7_arrange 61 = .ok (.iload_n 1, 1) := by decide +kernel
theorem dX7_arrange_62 : decode cX7_arrange 62 = .ok (.aload_n 3, 1) := by decide +kernel
theorem dX7_arrange_63 : decode cX7_arrange 63 = .ok (.invokevirtual 81, 3) := by decide +kernel
theorem dX7_arrange_66 : decode cX7_arrange 66 = .ok (.putfield 85, 3) := by decide +kernel
theorem dX7_arrange_69 : decode cX7_arrange 69 = .ok (.aload 5, 2) := by decide +kernel
theorem dX7_arrange_71 : decode cX7_arrange 71 = .ok (.aload 6, 2) := by decide +kernel
theorem dX7_arrange_73 : decode cX7_arrange 73 = .ok (.invokestatic 88, 3) := by decide +kernel
theorem dX7_arrange_76 : decode cX7_arrange 76 = .ok (.astore 5, 2) := by decide +kernel
theorem dX7_arrange_78 : decode cX7_arrange 78 = .ok (.aload 6, 2) := by decide +kernel
theorem dX7_arrange_80 : decode cX7_arrange 80 = .ok (.getfield 54, 3) := by decide +kernel
theorem dX7_arrange_83 : decode cX7_arrange 83 = .ok (.astore 6, 2) := by decide +kernel
theorem dX7_arrange_85 : decode cX7_arrange 85 = .ok (.goto (-51), 3) := by decide +kernel
theorem dX7_arrange_88 : decode cX7_arrange 88 = .ok (.aload 5, 2) := by decide +kernel
theorem dX7_arrange_90 : decode cX7_arrange 90 = .ok (.areturn, 1) := by decide +kernel
theorem dX7_rankOf_0 : decode cX7_rankOf 0 = .ok (.iload_n 2, 1) := by decide +kernel
theorem dX7_rankOf_1 : decode cX7_rankOf 1 = .ok (.lookupswitch 66 #[(1, 27), (2, 49)], 27) := by decide +kernel
theorem dX7_rankOf_28 : decode cX7_rankOf 28 = .ok (.aload_n 3, 1) := by decide +kernel
theorem dX7_rankOf_29 : decode cX7_rankOf 29 = .ok (.getfield 92, 3) := by decide +kernel
theorem dX7_rankOf_32 : decode cX7_rankOf 32 = .ok (.aload_n 1, 1) := by decide +kernel
theorem dX7_rankOf_33 : decode cX7_rankOf 33 = .ok (.getfield 97, 3) := by decide +kernel
theorem dX7_rankOf_36 : decode cX7_rankOf 36 = .ok (.iaload, 1) := by decide +kernel
theorem dX7_rankOf_37 : decode cX7_rankOf 37 = .ok (.aload_n 1, 1) := by decide +kernel
theorem dX7_rankOf_38 : decode cX7_rankOf 38 = .ok (.getfield 100, 3) := by decide +kernel
theorem dX7_rankOf_41 : decode cX7_rankOf 41 = .ok (.if_icmp .ne 7, 3) := by decide +kernel
theorem dX7_rankOf_44 : decode cX7_rankOf 44 = .ok (.iconst 0, 1) := by decide +kernel
theorem dX7_rankOf_45 : decode cX7_rankOf 45 = .ok (.goto 4, 3) := by decide +kernel
theorem dX7_rankOf_48 : decode cX7_rankOf 48 = .ok (.iconst 1, 1) := by decide +kernel
theorem dX7_rankOf_49 : decode cX7_rankOf 49 = .ok (.ireturn, 1) := by decide +kernel
theorem dX7_rankOf_50 : decode cX7_rankOf 50 = .ok (.aload_n 0, 1) := by decide +kernel
theorem dX7_rankOf_51 : decode cX7_rankOf 51 = .ok (.getfield 21, 3) := by decide +kernel
theorem dX7_rankOf_54 : decode cX7_rankOf 54 = .ok (.aload_n 1, 1) := by decide +kernel
theorem dX7_rankOf_55 : decode cX7_rankOf 55 = .ok (.getfield 60, 3) := by decide +kernel
theorem dX7_rankOf_58 : decode cX7_rankOf 58 = .ok (.iaload, 1) := by decide +kernel
theorem dX7_rankOf_59 : decode cX7_rankOf 59 = .ok (.iconst 4, 1) := by decide +kernel
theorem dX7_rankOf_60 : decode cX7_rankOf 60 = .ok (.imul, 1) := by decide +kernel
theorem dX7_rankOf_61 : decode cX7_rankOf 61 = .ok (.aload_n 1, 1) := by decide +kernel
theorem dX7_rankOf_62 : decode cX7_rankOf 62 = .ok (.getfield 60, 3) := by decide +kernel
theorem dX7_rankOf_65 : decode cX7_rankOf 65 = .ok (.iadd, 1) := by decide +kernel
theorem dX7_rankOf_66 : decode cX7_rankOf 66 = .ok (.ireturn, 1) := by decide +kernel
theorem dX7_rankOf_67 : decode cX7_rankOf 67 = .ok (.iconst 0, 1) := by decide +kernel
theorem dX7_rankOf_68 : decode cX7_rankOf 68 = .ok (.ireturn, 1) := by decide +kernel
theorem dX7_insert_0 : decode cX7_insert 0 = .ok (.aconst_null, 1) := by decide +kernel
theorem dX7_insert_1 : decode cX7_insert 1 = .ok (.astore_n 2, 1) := by decide +kernel
theorem dX7_insert_2 : decode cX7_insert 2 = .ok (.aload_n 0, 1) := by decide +kernel
theorem dX7_insert_3 : decode cX7_insert 3 = .ok (.astore_n 3, 1) := by decide +kernel
theorem dX7_insert_4 : decode cX7_insert 4 = .ok (.aload_n 3, 1) := by decide +kernel
theorem dX7_insert_5 : decode cX7_insert 5 = .ok (.ifnull 24, 3) := by decide +kernel
theorem dX7_insert_8 : decode cX7_insert 8 = .ok (.aload_n 3, 1) := by decide +kernel
theorem dX7_insert_9 : decode cX7_insert 9 = .ok (.getfield 85, 3) := by decide +kernel
theorem dX7_insert_12 : decode cX7_insert 12 = .ok (.aload_n 1, 1) := by decide +kernel
theorem dX7_insert_13 : decode cX7_insert 13 = .ok (.getfield 85, 3) := by decide +kernel
theorem dX7_insert_16 : decode cX7_insert 16 = .ok (.if_icmp .gt 13, 3) := by decide +kernel
theorem dX7_insert_19 : decode cX7_insert 19 = .ok (.aload_n 3, 1) := by decide +kernel
theorem dX7_insert_20 : decode cX7_insert 20 = .ok (.astore_n 2, 1) := by decide +kernel
theorem dX7_insert_21 : decode cX7_insert 21 = .ok (.aload_n 3, 1) := by decide +kernel
theorem dX7_insert_22 : decode cX7_insert 22 = .ok (.getfield 103, 3) := by decide +kernel
theorem dX7_insert_25 : decode cX7_insert 25 = .ok (.astore_n 3, 1) := by decide +kernel
theorem dX7_insert_26 : decode cX7_insert 26 = .ok (.goto (-22), 3) := by decide +kernel
theorem dX7_insert_29 : decode cX7_insert 29 = .ok (.aload_n 2, 1) := by decide +kernel
theorem dX7_insert_30 : decode cX7_insert 30 = .ok (.ifnonnull 10, 3) := by decide +kernel
theorem dX7_insert_33 : decode cX7_insert 33 = .ok (.aload_n 1, 1) := by decide +kernel
theorem dX7_insert_34 : decode cX7_insert 34 = .ok (.aload_n 0, 1) := by decide +kernel
theorem dX7_insert_35 : decode cX7_insert 35 = .ok (.putfield 103, 3) := by decide +kernel
theorem dX7_insert_38 : decode cX7_insert 38 = .ok (.aload_n 1, 1) := by decide +kernel
theorem dX7_insert_39 : decode cX7_insert 39 = .ok (.areturn, 1) := by decide +kernel
theorem dX7_insert_40 : decode cX7_insert 40 = .ok (.aload_n 1, 1) := by decide +kernel
theorem dX7_insert_41 : decode cX7_insert 41 = .ok (.aload_n 2, 1) := by decide +kernel
theorem dX7_insert_42 : decode cX7_insert 42 = .ok (.getfield 103, 3) := by decide +kernel
theorem dX7_insert_45 : decode cX7_insert 45 = .ok (.putfield 103, 3) := by decide +kernel
theorem dX7_insert_48 : decode cX7_insert 48 = .ok (.aload_n 2, 1) := by decide +kernel
theorem dX7_insert_49 : decode cX7_insert 49 = .ok (.aload_n 1, 1) := by decide +kernel
theorem dX7_insert_50 : decode cX7_insert 50 = .ok (.putfield 103, 3) := by decide +kernel
theorem dX7_insert_53 : decode cX7_insert 53 = .ok (.aload_n 0, 1) := by decide +kernel
theorem dX7_insert_54 : decode cX7_insert 54 = .ok (.areturn, 1) := by decide +kernel
theorem dX7_isAsIfInTurn_0 : decode cX7_isAsIfInTurn 0 = .ok (.aload_n 0, 1) := by decide +kernel
theorem dX7_isAsIfInTurn_1 : decode cX7_isAsIfInTurn 1 = .ok (.getfield 17, 3) := by decide +kernel
theorem dX7_isAsIfInTurn_4 : decode cX7_isAsIfInTurn 4 = .ok (.iconst 0, 1) := by decide +kernel
theorem dX7_isAsIfInTurn_5 : decode cX7_isAsIfInTurn 5 = .ok (.invokestatic 106, 3) := by decide +kernel
theorem dX7_isAsIfInTurn_8 : decode cX7_isAsIfInTurn 8 = .ok (.iconst 0, 1) := by decide +kernel
theorem dX7_isAsIfInTurn_9 : decode cX7_isAsIfInTurn 9 = .ok (.istore_n 2, 1) := by decide +kernel
theorem dX7_isAsIfInTurn_10 : decode cX7_isAsIfInTurn 10 = .ok (.iload_n 2, 1) := by decide +kernel
theorem dX7_isAsIfInTurn_11 : decode cX7_isAsIfInTurn 11 = .ok (.aload_n 0, 1) := by decide +kernel
theorem dX7_isAsIfInTurn_12 : decode cX7_isAsIfInTurn 12 = .ok (.getfield 34, 3) := by decide +kernel
theorem dX7_isAsIfInTurn_15 : decode cX7_isAsIfInTurn 15 = .ok (.if_icmp .ge 75, 3) := by decide +kernel
theorem dX7_isAsIfInTurn_18 : decode cX7_isAsIfInTurn 18 = .ok (.aload_n 0, 1) := by decide +kernel
theorem dX7_isAsIfInTurn_19 : decode cX7_isAsIfInTurn 19 = .ok (.getfield 11, 3) := by decide +kernel
theorem dX7_isAsIfInTurn_22 : decode cX7_isAsIfInTurn 22 = .ok (.iload_n 2, 1) := by decide +kernel
theorem dX7_isAsIfInTurn_23 : decode cX7_isAsIfInTurn 23 = .ok (.aaload, 1) := by decide +kernel
theorem dX7_isAsIfInTurn_24 : decode cX7_isAsIfInTurn 24 = .ok (.astore_n 3, 1) := by decide +kernel
theorem dX7_isAsIfInTurn_25 : decode cX7_isAsIfInTurn 25 = .ok (.aload_n 3, 1) := by decide +kernel
theorem dX7_isAsIfInTurn_26 : decode cX7_isAsIfInTurn 26 = .ok (.ifnull 58, 3) := by decide +kernel
theorem dX7_isAsIfInTurn_29 : decode cX7_isAsIfInTurn 29 = .ok (.aload_n 3, 1) := by decide +kernel
theorem dX7_isAsIfInTurn_30 : decode cX7_isAsIfInTurn 30 = .ok (.getfield 63, 3) := by decide +kernel
theorem dX7_isAsIfInTurn_33 : decode cX7_isAsIfInTurn 33 = .ok (.ifCond .eq 51, 3) := by decide +kernel
theorem dX7_isAsIfInTurn_36 : decode cX7_isAsIfInTurn 36 = .ok (.aload_n 3, 1) := by decide +kernel
theorem dX7_isAsIfInTurn_37 : decode cX7_isAsIfInTurn 37 = .ok (.invokevirtual 50, 3) := by decide +kernel
theorem dX7_isAsIfInTurn_40 : decode cX7_isAsIfInTurn 40 = .ok (.ifCond .ne 44, 3) := by decide +kernel
theorem dX7_isAsIfInTurn_43 : decode cX7_isAsIfInTurn 43 = .ok (.aload_n 0, 1) := by decide +kernel
theorem dX7_isAsIfInTurn_44 : decode cX7_isAsIfInTurn 44 = .ok (.getfield 17, 3) := by decide +kernel
theorem dX7_isAsIfInTurn_47 : decode cX7_isAsIfInTurn 47 = .ok (.aload_n 3, 1) := by decide +kernel
theorem dX7_isAsIfInTurn_48 : decode cX7_isAsIfInTurn 48 = .ok (.getfield 112, 3) := by decide +kernel
theorem dX7_isAsIfInTurn_51 : decode cX7_isAsIfInTurn 51 = .ok (.iaload, 1) := by decide +kernel
theorem dX7_isAsIfInTurn_52 : decode cX7_isAsIfInTurn 52 = .ok (.istore 4, 2) := by decide +kernel
theorem dX7_isAsIfInTurn_54 : decode cX7_isAsIfInTurn 54 = .ok (.aload_n 3, 1) := by decide +kernel
theorem dX7_isAsIfInTurn_55 : decode cX7_isAsIfInTurn 55 = .ok (.iload 4, 2) := by decide +kernel
theorem dX7_isAsIfInTurn_57 : decode cX7_isAsIfInTurn 57 = .ok (.invokevirtual 115, 3) := by decide +kernel
theorem dX7_isAsIfInTurn_60 : decode cX7_isAsIfInTurn 60 = .ok (.aload_n 3, 1) := by decide +kernel
theorem dX7_isAsIfInTurn_61 : decode cX7_isAsIfInTurn 61 = .ok (.getfield 119, 3) := by decide +kernel
theorem dX7_isAsIfInTurn_64 : decode cX7_isAsIfInTurn 64 = .ok (.if_icmp .eq 5, 3) := by decide +kernel
theorem dX7_isAsIfInTurn_67 : decode cX7_isAsIfInTurn 67 = .ok (.iconst 0, 1) := by decide +kernel
theorem dX7_isAsIfInTurn_68 : decode cX7_isAsIfInTurn 68 = .ok (.ireturn, 1) := by decide +kernel
theorem dX7_isAsIfInTurn_69 : decode cX7_isAsIfInTurn 69 = .ok (.aload_n 0, 1) := by decide +kernel
theorem dX7_isAsIfInTurn_70 : decode cX7_isAsIfInTurn 70 = .ok (.getfield 17, 3) := by decide +kernel
theorem dX7_isAsIfInTurn_73 : decode cX7_isAsIfInTurn 73 = .ok (.aload_n 3, 1) := by decide +kernel
theorem dX7_isAsIfInTurn_74 : decode cX7_isAsIfInTurn 74 = .ok (.getfield 112, 3) := by decide +kernel
theorem dX7_isAsIfInTurn_77 : decode cX7_isAsIfInTurn 77 = .ok (.aload_n 3, 1) := by decide +kernel
theorem dX7_isAsIfInTurn_78 : decode cX7_isAsIfInTurn 78 = .ok (.iload 4, 2) := by decide +kernel
theorem dX7_isAsIfInTurn_80 : decode cX7_isAsIfInTurn 80 = .ok (.invokevirtual 122, 3) := by decide +kernel
theorem dX7_isAsIfInTurn_83 : decode cX7_isAsIfInTurn 83 = .ok (.iastore, 1) := by decide +kernel
theorem dX7_isAsIfInTurn_84 : decode cX7_isAsIfInTurn 84 = .ok (.iinc 2 1, 3) := by decide +kernel
theorem dX7_isAsIfInTurn_87 : decode cX7_isAsIfInTurn 87 = .ok (.goto (-77), 3) := by decide +kernel
theorem dX7_isAsIfInTurn_90 : decode cX7_isAsIfInTurn 90 = .ok (.iconst 0, 1) := by decide +kernel
theorem dX7_isAsIfInTurn_91 : decode cX7_isAsIfInTurn 91 = .ok (.istore_n 2, 1) := by decide +kernel
theorem dX7_isAsIfInTurn_92 : decode cX7_isAsIfInTurn 92 = .ok (.iload_n 2, 1) := by decide +kernel
theorem dX7_isAsIfInTurn_93 : decode cX7_isAsIfInTurn 93 = .ok (.aload_n 0, 1) := by decide +kernel
theorem dX7_isAsIfInTurn_94 : decode cX7_isAsIfInTurn 94 = .ok (.getfield 34, 3) := by decide +kernel
theorem dX7_isAsIfInTurn_97 : decode cX7_isAsIfInTurn 97 = .ok (.if_icmp .ge 47, 3) := by decide +kernel
theorem dX7_isAsIfInTurn_100 : decode cX7_isAsIfInTurn 100 = .ok (.aload_n 0, 1) := by decide +kernel
theorem dX7_isAsIfInTurn_101 : decode cX7_isAsIfInTurn 101 = .ok (.getfield 11, 3) := by decide +kernel
theorem dX7_isAsIfInTurn_104 : decode cX7_isAsIfInTurn 104 = .ok (.iload_n 2, 1) := by decide +kernel
theorem dX7_isAsIfInTurn_105 : decode cX7_isAsIfInTurn 105 = .ok (.aaload, 1) := by decide +kernel
theorem dX7_isAsIfInTurn_106 : decode cX7_isAsIfInTurn 106 = .ok (.astore_n 3, 1) := by decide +kernel
theorem dX7_isAsIfInTurn_107 : decode cX7_isAsIfInTurn 107 = .ok (.aload_n 3, 1) := by decide +kernel
theorem dX7_isAsIfInTurn_108 : decode cX7_isAsIfInTurn 108 = .ok (.ifnull 30, 3) := by decide +kernel
theorem dX7_isAsIfInTurn_111 : decode cX7_isAsIfInTurn 111 = .ok (.aload_n 3, 1) := by decide +kernel
theorem dX7_isAsIfInTurn_112 : decode cX7_isAsIfInTurn 112 = .ok (.invokevirtual 50, 3) := by decide +kernel
theorem dX7_isAsIfInTurn_115 : decode cX7_isAsIfInTurn 115 = .ok (.ifCond .ne 23, 3) := by decide +kernel
theorem dX7_isAsIfInTurn_118 : decode cX7_isAsIfInTurn 118 = .ok (.aload_n 0, 1) := by decide +kernel
theorem dX7_isAsIfInTurn_119 : decode cX7_isAsIfInTurn 119 = .ok (.getfield 17, 3) := by decide +kernel
theorem dX7_isAsIfInTurn_122 : decode cX7_isAsIfInTurn 122 = .ok (.aload_n 3, 1) := by decide +kernel
theorem dX7_isAsIfInTurn_123 : decode cX7_isAsIfInTurn 123 = .ok (.getfield 112, 3) := by decide +kernel
theorem dX7_isAsIfInTurn_126 : decode cX7_isAsIfInTurn 126 = .ok (.iaload, 1) := by decide +kernel
theorem dX7_isAsIfInTurn_127 : decode cX7_isAsIfInTurn 127 = .ok (.aload_n 1, 1) := by decide +kernel
theorem dX7_isAsIfInTurn_128 : decode cX7_isAsIfInTurn 128 = .ok (.aload_n 3, 1) := by decide +kernel
theorem dX7_isAsIfInTurn_129 : decode cX7_isAsIfInTurn 129 = .ok (.getfield 112, 3) := by decide +kernel
theorem dX7_isAsIfInTurn_132 : decode cX7_isAsIfInTurn 132 = .ok (.iaload, 1) := by decide +kernel
theorem dX7_isAsIfInTurn_133 : decode cX7_isAsIfInTurn 133 = .ok (.if_icmp .eq 5, 3) := by decide +kernel
theorem dX7_isAsIfInTurn_136 : decode cX7_isAsIfInTurn 136 = .ok (.iconst 0, 1) := by decide +kernel
theorem dX7_isAsIfInTurn_137 : decode cX7_isAsIfInTurn 137 = .ok (.ireturn, 1) := by decide +kernel
theorem dX7_isAsIfInTurn_138 : decode cX7_isAsIfInTurn 138 = .ok (.iinc 2 1, 3) := by decide +kernel
theorem dX7_isAsIfInTurn_141 : decode cX7_isAsIfInTurn 141 = .ok (.goto (-49), 3) := by decide +kernel
theorem dX7_isAsIfInTurn_144 : decode cX7_isAsIfInTurn 144 = .ok (.iconst 1, 1) := by decide +kernel
theorem dX7_isAsIfInTurn_145 : decode cX7_isAsIfInTurn 145 = .ok (.ireturn, 1) := by decide +kernel
theorem dX8_init_0 : decode cX8_init 0 = .ok (.aload_n 0, 1) := by decide +kernel
theorem dX8_init_1 : decode cX8_init 1 = .ok (.invokespecial 3, 3) := by decide +kernel
theorem dX8_init_4 : decode cX8_init 4 = .ok (.aload_n 0, 1) := by decide +kernel
theorem dX8_init_5 : decode cX8_init 5 = .ok (.aconst_null, 1) := by decide +kernel
theorem dX8_init_6 : decode cX8_init 6 = .ok (.putfield 9, 3) := by decide +kernel
theorem dX8_init_9 : decode cX8_init 9 = .ok (.aload_n 0, 1) := by decide +kernel
theorem dX8_init_10 : decode cX8_init 10 = .ok (.aconst_null, 1) := by decide +kernel
theorem dX8_init_11 : decode cX8_init 11 = .ok (.putfield 15, 3) := by decide +kernel
theorem dX8_init_14 : decode cX8_init 14 = .ok (.aload_n 0, 1) := by decide +kernel
theorem dX8_init_15 : decode cX8_init 15 = .ok (.iconst 0, 1) := by decide +kernel
theorem dX8_init_16 : decode cX8_init 16 = .ok (.putfield 19, 3) := by decide +kernel
theorem dX8_init_19 : decode cX8_init 19 = .ok (.return_, 1) := by decide +kernel
theorem dX8_hold_0 : decode cX8_hold 0 = .ok (.aload_n 0, 1) := by decide +kernel
theorem dX8_hold_1 : decode cX8_hold 1 = .ok (.aload_n 1, 1) := by decide +kernel
theorem dX8_hold_2 : decode cX8_hold 2 = .ok (.putfield 9, 3) := by decide +kernel
theorem dX8_hold_5 : decode cX8_hold 5 = .ok (.aload_n 0, 1) := by decide +kernel
theorem dX8_hold_6 : decode cX8_hold 6 = .ok (.aload_n 2, 1) := by decide +kernel
theorem dX8_hold_7 : decode cX8_hold 7 = .ok (.putfield 15, 3) := by decide +kernel
theorem dX8_hold_10 : decode cX8_hold 10 = .ok (.aload_n 0, 1) := by decide +kernel
theorem dX8_hold_11 : decode cX8_hold 11 = .ok (.iload_n 3, 1) := by decide +kernel
theorem dX8_hold_12 : decode cX8_hold 12 = .ok (.putfield 19, 3) := by decide +kernel
theorem dX8_hold_15 : decode cX8_hold 15 = .ok (.return_, 1) := by decide +kernel
theorem dX8_isEmpty_0 : decode cX8_isEmpty 0 = .ok (.aload_n 0, 1) := by decide +kernel
theorem dX8_isEmpty_1 : decode cX8_isEmpty 1 = .ok (.getfield 9, 3) := by decide +kernel
theorem dX8_isEmpty_4 : decode cX8_isEmpty 4 = .ok (.ifnonnull 14, 3) := by decide +kernel
theorem dX8_isEmpty_7 : decode cX8_isEmpty 7 = .ok (.aload_n 0, 1) := by decide +kernel
theorem dX8_isEmpty_8 : decode cX8_isEmpty 8 = .ok (.getfield 15, 3) := by decide +kernel
theorem dX8_isEmpty_11 : decode cX8_isEmpty 11 = .ok (.ifnonnull 7, 3) := by decide +kernel
theorem dX8_isEmpty_14 : decode cX8_isEmpty 14 = .ok (.iconst 1, 1) := by decide +kernel
theorem dX8_isEmpty_15 : decode cX8_isEmpty 15 = .ok (.goto 4, 3) := by decide +kernel
theorem dX8_isEmpty_18 : decode cX8_isEmpty 18 = .ok (.iconst 0, 1) := by decide +kernel
theorem dX8_isEmpty_19 : decode cX8_isEmpty 19 = .ok (.ireturn, 1) := by decide +kernel
theorem dX8_refusalWithoutAsk_0 : decode cX8_refusalWithoutAsk 0 = .ok (.aload_n 0, 1) := by decide +kernel
theorem dX8_refusalWithoutAsk_1 : decode cX8_refusalWithoutAsk 1 = .ok (.invokevirtual 23, 3) := by decide +kernel
theorem dX8_refusalWithoutAsk_4 : decode cX8_refusalWithoutAsk 4 = .ok (.ifCond .eq 8, 3) := by decide +kernel
theorem dX8_refusalWithoutAsk_7 : decode cX8_refusalWithoutAsk 7 = .ok (.bipush (-11), 2) := by decide +kernel
theorem dX8_refusalWithoutAsk_9 : decode cX8_refusalWithoutAsk 9 = .ok (.goto 5, 3) := by decide +kernel
theorem dX8_refusalWithoutAsk_12 : decode cX8_refusalWithoutAsk 12 = .ok (.bipush (-12), 2) := by decide +kernel
theorem dX8_refusalWithoutAsk_14 : decode cX8_refusalWithoutAsk 14 = .ok (.ireturn, 1) := by decide +kernel
theorem dX9_init_0 : decode cX9_init 0 = .ok (.aload_n 0, 1) := by decide +kernel
theorem dX9_init_1 : decode cX9_init 1 = .ok (.iload_n 1, 1) := by decide +kernel
theorem dX9_init_2 : decode cX9_init 2 = .ok (.iload_n 2, 1) := by decide +kernel
theorem dX9_init_3 : decode cX9_init 3 = .ok (.iload_n 3, 1) := by decide +kernel
theorem dX9_init_4 : decode cX9_init 4 = .ok (.iload 4, 2) := by decide +kernel
theorem dX9_init_6 : decode cX9_init 6 = .ok (.iload 5, 2) := by decide +kernel
theorem dX9_init_8 : decode cX9_init 8 = .ok (.invokespecial 3, 3) := by decide +kernel
theorem dX9_init_11 : decode cX9_init 11 = .ok (.return_, 1) := by decide +kernel
theorem dX9_kind_0 : decode cX9_kind 0 = .ok (.iconst 3, 1) := by decide +kernel
theorem dX9_kind_1 : decode cX9_kind 1 = .ok (.ireturn, 1) := by decide +kernel
theorem dX9_heft_0 : decode cX9_heft 0 = .ok (.aload_n 0, 1) := by decide +kernel
theorem dX9_heft_1 : decode cX9_heft 1 = .ok (.invokespecial 9, 3) := by decide +kernel
theorem dX9_heft_4 : decode cX9_heft 4 = .ok (.iconst 2, 1) := by decide +kernel
theorem dX9_heft_5 : decode cX9_heft 5 = .ok (.imul, 1) := by decide +kernel
theorem dX9_heft_6 : decode cX9_heft 6 = .ok (.iconst 1, 1) := by decide +kernel
theorem dX9_heft_7 : decode cX9_heft 7 = .ok (.iadd, 1) := by decide +kernel
theorem dX9_heft_8 : decode cX9_heft 8 = .ok (.ireturn, 1) := by decide +kernel
theorem dX9_answerFrom_0 : decode cX9_answerFrom 0 = .ok (.iload_n 1, 1) := by decide +kernel
theorem dX9_answerFrom_1 : decode cX9_answerFrom 1 = .ok (.ireturn, 1) := by decide +kernel
theorem dX10_init_0 : decode cX10_init 0 = .ok (.aload_n 0, 1) := by decide +kernel
theorem dX10_init_1 : decode cX10_init 1 = .ok (.iload_n 1, 1) := by decide +kernel
theorem dX10_init_2 : decode cX10_init 2 = .ok (.iload_n 2, 1) := by decide +kernel
theorem dX10_init_3 : decode cX10_init 3 = .ok (.iload_n 3, 1) := by decide +kernel
theorem dX10_init_4 : decode cX10_init 4 = .ok (.iload 4, 2) := by decide +kernel
theorem dX10_init_6 : decode cX10_init 6 = .ok (.invokespecial 3, 3) := by decide +kernel
theorem dX10_init_9 : decode cX10_init 9 = .ok (.aload_n 0, 1) := by decide +kernel
theorem dX10_init_10 : decode cX10_init 10 = .ok (.iload 5, 2) := by decide +kernel
theorem dX10_init_12 : decode cX10_init 12 = .ok (.putfield 9, 3) := by decide +kernel
theorem dX10_init_15 : decode cX10_init 15 = .ok (.return_, 1) := by decide +kernel
theorem dX10_kind_0 : decode cX10_kind 0 = .ok (.iconst 1, 1) := by decide +kernel
theorem dX10_kind_1 : decode cX10_kind 1 = .ok (.ireturn, 1) := by decide +kernel
theorem dX10_heft_0 : decode cX10_heft 0 = .ok (.aload_n 0, 1) := by decide +kernel
theorem dX10_heft_1 : decode cX10_heft 1 = .ok (.invokespecial 15, 3) := by decide +kernel
theorem dX10_heft_4 : decode cX10_heft 4 = .ok (.bipush 20, 2) := by decide +kernel
theorem dX10_heft_6 : decode cX10_heft 6 = .ok (.iadd, 1) := by decide +kernel
theorem dX10_heft_7 : decode cX10_heft 7 = .ok (.ireturn, 1) := by decide +kernel
theorem dX10_octetAfter_0 : decode cX10_octetAfter 0 = .ok (.aload_n 0, 1) := by decide +kernel
theorem dX10_octetAfter_1 : decode cX10_octetAfter 1 = .ok (.getfield 9, 3) := by decide +kernel
theorem dX10_octetAfter_4 : decode cX10_octetAfter 4 = .ok (.ireturn, 1) := by decide +kernel
theorem dJ9_max_7cf53_0 : decode cJ9_max_7cf53 0 = .ok (.iload_n 0, 1) := by decide +kernel
theorem dJ9_max_7cf53_1 : decode cJ9_max_7cf53 1 = .ok (.iload_n 1, 1) := by decide +kernel
theorem dJ9_max_7cf53_2 : decode cJ9_max_7cf53 2 = .ok (.if_icmp .lt 7, 3) := by decide +kernel
theorem dJ9_max_7cf53_5 : decode cJ9_max_7cf53 5 = .ok (.iload_n 0, 1) := by decide +kernel
theorem dJ9_max_7cf53_6 : decode cJ9_max_7cf53 6 = .ok (.goto 4, 3) := by decide +kernel
theorem dJ9_max_7cf53_9 : decode cJ9_max_7cf53 9 = .ok (.iload_n 1, 1) := by decide +kernel
theorem dJ9_max_7cf53_10 : decode cJ9_max_7cf53 10 = .ok (.ireturn, 1) := by decide +kernel
theorem dJ9_min_7cf53_0 : decode cJ9_min_7cf53 0 = .ok (.iload_n 0, 1) := by decide +kernel
theorem dJ9_min_7cf53_1 : decode cJ9_min_7cf53 1 = .ok (.iload_n 1, 1) := by decide +kernel
theorem dJ9_min_7cf53_2 : decode cJ9_min_7cf53 2 = .ok (.if_icmp .gt 7, 3) := by decide +kernel
theorem dJ9_min_7cf53_5 : decode cJ9_min_7cf53 5 = .ok (.iload_n 0, 1) := by decide +kernel
theorem dJ9_min_7cf53_6 : decode cJ9_min_7cf53 6 = .ok (.goto 4, 3) := by decide +kernel
theorem dJ9_min_7cf53_9 : decode cJ9_min_7cf53 9 = .ok (.iload_n 1, 1) := by decide +kernel
theorem dJ9_min_7cf53_10 : decode cJ9_min_7cf53 10 = .ok (.ireturn, 1) := by decide +kernel
theorem dJ7_fill_53178_0 : decode cJ7_fill_53178 0 = .ok (.iconst 0, 1) := by decide +kernel
theorem dJ7_fill_53178_1 : decode cJ7_fill_53178 1 = .ok (.istore_n 2, 1) := by decide +kernel
theorem dJ7_fill_53178_2 : decode cJ7_fill_53178 2 = .ok (.aload_n 0, 1) := by decide +kernel
theorem dJ7_fill_53178_3 : decode cJ7_fill_53178 3 = .ok (.arraylength, 1) := by decide +kernel
theorem dJ7_fill_53178_4 : decode cJ7_fill_53178 4 = .ok (.istore_n 3, 1) := by decide +kernel
theorem dJ7_fill_53178_5 : decode cJ7_fill_53178 5 = .ok (.iload_n 2, 1) := by decide +kernel
theorem dJ7_fill_53178_6 : decode cJ7_fill_53178 6 = .ok (.iload_n 3, 1) := by decide +kernel
theorem dJ7_fill_53178_7 : decode cJ7_fill_53178 7 = .ok (.if_icmp .ge 13, 3) := by decide +kernel
theorem dJ7_fill_53178_10 : decode cJ7_fill_53178 10 = .ok (.aload_n 0, 1) := by decide +kernel
theorem dJ7_fill_53178_11 : decode cJ7_fill_53178 11 = .ok (.iload_n 2, 1) := by decide +kernel
theorem dJ7_fill_53178_12 : decode cJ7_fill_53178 12 = .ok (.iload_n 1, 1) := by decide +kernel
theorem dJ7_fill_53178_13 : decode cJ7_fill_53178 13 = .ok (.iastore, 1) := by decide +kernel
theorem dJ7_fill_53178_14 : decode cJ7_fill_53178 14 = .ok (.iinc 2 1, 3) := by decide +kernel
theorem dJ7_fill_53178_17 : decode cJ7_fill_53178 17 = .ok (.goto (-12), 3) := by decide +kernel
theorem dJ7_fill_53178_20 : decode cJ7_fill_53178 20 = .ok (.return_, 1) := by decide +kernel
theorem dJ7_copyOf_59c91_0 : decode cJ7_copyOf_59c91 0 = .ok (.iload_n 1, 1) := by decide +kernel
theorem dJ7_copyOf_59c91_1 : decode cJ7_copyOf_59c91 1 = .ok (.aload_n 0, 1) := by decide +kernel
theorem dJ7_copyOf_59c91_2 : decode cJ7_copyOf_59c91 2 = .ok (.arraylength, 1) := by decide +kernel
theorem dJ7_copyOf_59c91_3 : decode cJ7_copyOf_59c91 3 = .ok (.if_icmp .ne 11, 3) := by decide +kernel
theorem dJ7_copyOf_59c91_6 : decode cJ7_copyOf_59c91 6 = .ok (.aload_n 0, 1) := by decide +kernel
theorem dJ7_copyOf_59c91_7 : decode cJ7_copyOf_59c91 7 = .ok (.invokevirtual 316, 3) := by decide +kernel
theorem dJ7_copyOf_59c91_10 : decode cJ7_copyOf_59c91 10 = .ok (.checkcast 317, 3) := by decide +kernel
theorem dJ7_copyOf_59c91_13 : decode cJ7_copyOf_59c91 13 = .ok (.areturn, 1) := by decide +kernel
theorem dJ7_copyOf_59c91_14 : decode cJ7_copyOf_59c91 14 = .ok (.iload_n 1, 1) := by decide +kernel
theorem dJ7_copyOf_59c91_15 : decode cJ7_copyOf_59c91 15 = .ok (.newarray .int, 2) := by decide +kernel
theorem dJ7_copyOf_59c91_17 : decode cJ7_copyOf_59c91 17 = .ok (.astore_n 2, 1) := by decide +kernel
theorem dJ7_copyOf_59c91_18 : decode cJ7_copyOf_59c91 18 = .ok (.aload_n 0, 1) := by decide +kernel
theorem dJ7_copyOf_59c91_19 : decode cJ7_copyOf_59c91 19 = .ok (.iconst 0, 1) := by decide +kernel
theorem dJ7_copyOf_59c91_20 : decode cJ7_copyOf_59c91 20 = .ok (.aload_n 2, 1) := by decide +kernel
theorem dJ7_copyOf_59c91_21 : decode cJ7_copyOf_59c91 21 = .ok (.iconst 0, 1) := by decide +kernel
theorem dJ7_copyOf_59c91_22 : decode cJ7_copyOf_59c91 22 = .ok (.aload_n 0, 1) := by decide +kernel
theorem dJ7_copyOf_59c91_23 : decode cJ7_copyOf_59c91 23 = .ok (.arraylength, 1) := by decide +kernel
theorem dJ7_copyOf_59c91_24 : decode cJ7_copyOf_59c91 24 = .ok (.iload_n 1, 1) := by decide +kernel
theorem dJ7_copyOf_59c91_25 : decode cJ7_copyOf_59c91 25 = .ok (.invokestatic 304, 3) := by decide +kernel
theorem dJ7_copyOf_59c91_28 : decode cJ7_copyOf_59c91 28 = .ok (.invokestatic 150, 3) := by decide +kernel
theorem dJ7_copyOf_59c91_31 : decode cJ7_copyOf_59c91 31 = .ok (.aload_n 2, 1) := by decide +kernel
theorem dJ7_copyOf_59c91_32 : decode cJ7_copyOf_59c91 32 = .ok (.areturn, 1) := by decide +kernel
end
section
theorem dX11_init_0 : decode cX11_init 0 = .ok (.aload_n 0, 1) := by decide +kernel
theorem dX11_init_1 : decode cX11_init 1 = .ok (.invokespecial 1, 3) := by decide +kernel
theorem dX11_init_4 : decode cX11_init 4 = .ok (.aload_n 0, 1) := by decide +kernel
theorem dX11_init_5 : decode cX11_init 5 = .ok (.bipush 13, 2) := by decide +kernel
theorem dX11_init_7 : decode cX11_init 7 = .ok (.newarray .int, 2) := by decide +kernel
theorem dX11_init_9 : decode cX11_init 9 = .ok (.putfield 9, 3) := by decide +kernel
theorem dX11_init_12 : decode cX11_init 12 = .ok (.aload_n 0, 1) := by decide +kernel
theorem dX11_init_13 : decode cX11_init 13 = .ok (.new 13, 3) := by decide +kernel
theorem dX11_init_16 : decode cX11_init 16 = .ok (.dup, 1) := by decide +kernel
theorem dX11_init_17 : decode cX11_init 17 = .ok (.invokespecial 15, 3) := by decide +kernel
theorem dX11_init_20 : decode cX11_init 20 = .ok (.putfield 16, 3) := by decide +kernel
theorem dX11_init_23 : decode cX11_init 23 = .ok (.aload_n 0, 1) := by decide +kernel
theorem dX11_init_24 : decode cX11_init 24 = .ok (.new 20, 3) := by decide +kernel
theorem dX11_init_27 : decode cX11_init 27 = .ok (.dup, 1) := by decide +kernel
theorem dX11_init_28 : decode cX11_init 28 = .ok (.invokespecial 22, 3) := by decide +kernel
theorem dX11_init_31 : decode cX11_init 31 = .ok (.putfield 23, 3) := by decide +kernel
theorem dX11_init_34 : decode cX11_init 34 = .ok (.aload_n 0, 1) := by decide +kernel
theorem dX11_init_35 : decode cX11_init 35 = .ok (.new 27, 3) := by decide +kernel
theorem dX11_init_38 : decode cX11_init 38 = .ok (.dup, 1) := by decide +kernel
theorem dX11_init_39 : decode cX11_init 39 = .ok (.invokespecial 29, 3) := by decide +kernel
theorem dX11_init_42 : decode cX11_init 42 = .ok (.putfield 30, 3) := by decide +kernel
theorem dX11_init_45 : decode cX11_init 45 = .ok (.aload_n 0, 1) := by decide +kernel
theorem dX11_init_46 : decode cX11_init 46 = .ok (.new 34, 3) := by decide +kernel
theorem dX11_init_49 : decode cX11_init 49 = .ok (.dup, 1) := by decide +kernel
theorem dX11_init_50 : decode cX11_init 50 = .ok (.invokespecial 36, 3) := by decide +kernel
theorem dX11_init_53 : decode cX11_init 53 = .ok (.putfield 37, 3) := by decide +kernel
theorem dX11_init_56 : decode cX11_init 56 = .ok (.aload_n 0, 1) := by decide +kernel
theorem dX11_init_57 : decode cX11_init 57 = .ok (.bipush 8, 2) := by decide +kernel
theorem dX11_init_59 : decode cX11_init 59 = .ok (.anewarray 41, 3) := by decide +kernel
theorem dX11_init_62 : decode cX11_init 62 = .ok (.putfield 43, 3) := by decide +kernel
theorem dX11_init_65 : decode cX11_init 65 = .ok (.aload_n 0, 1) := by decide +kernel
theorem dX11_init_66 : decode cX11_init 66 = .ok (.iconst 1, 1) := by decide +kernel
theorem dX11_init_67 : decode cX11_init 67 = .ok (.putfield 47, 3) := by decide +kernel
theorem dX11_init_70 : decode cX11_init 70 = .ok (.aload_n 0, 1) := by decide +kernel
theorem dX11_init_71 : decode cX11_init 71 = .ok (.iconst 0, 1) := by decide +kernel
theorem dX11_init_72 : decode cX11_init 72 = .ok (.putfield 51, 3) := by decide +kernel
theorem dX11_init_75 : decode cX11_init 75 = .ok (.aload_n 0, 1) := by decide +kernel
theorem dX11_init_76 : decode cX11_init 76 = .ok (.iconst 4, 1) := by decide +kernel
theorem dX11_init_77 : decode cX11_init 77 = .ok (.putfield 54, 3) := by decide +kernel
theorem dX11_init_80 : decode cX11_init 80 = .ok (.aload_n 0, 1) := by decide +kernel
theorem dX11_init_81 : decode cX11_init 81 = .ok (.iconst 0, 1) := by decide +kernel
theorem dX11_init_82 : decode cX11_init 82 = .ok (.putfield 57, 3) := by decide +kernel
theorem dX11_init_85 : decode cX11_init 85 = .ok (.aload_n 0, 1) := by decide +kernel
theorem dX11_init_86 : decode cX11_init 86 = .ok (.iconst 0, 1) := by decide +kernel
theorem dX11_init_87 : decode cX11_init 87 = .ok (.putfield 60, 3) := by decide +kernel
theorem dX11_init_90 : decode cX11_init 90 = .ok (.aload_n 0, 1) := by decide +kernel
theorem dX11_init_91 : decode cX11_init 91 = .ok (.iconst 4, 1) := by decide +kernel
theorem dX11_init_92 : decode cX11_init 92 = .ok (.putfield 63, 3) := by decide +kernel
theorem dX11_init_95 : decode cX11_init 95 = .ok (.aload_n 0, 1) := by decide +kernel
theorem dX11_init_96 : decode cX11_init 96 = .ok (.iconst 0, 1) := by decide +kernel
theorem dX11_init_97 : decode cX11_init 97 = .ok (.putfield 66, 3) := by decide +kernel
theorem dX11_init_100 : decode cX11_init 100 = .ok (.aload_n 0, 1) := by decide +kernel
theorem dX11_init_101 : decode cX11_init 101 = .ok (.iconst 0, 1) := by decide +kernel
theorem dX11_init_102 : decode cX11_init 102 = .ok (.putfield 69, 3) := by decide +kernel
theorem dX11_init_105 : decode cX11_init 105 = .ok (.aload_n 0, 1) := by decide +kernel
theorem dX11_init_106 : decode cX11_init 106 = .ok (.bipush (-2), 2) := by decide +kernel
theorem dX11_init_108 : decode cX11_init 108 = .ok (.putfield 72, 3) := by decide +kernel
theorem dX11_init_111 : decode cX11_init 111 = .ok (.aload_n 0, 1) := by decide +kernel
theorem dX11_init_112 : decode cX11_init 112 = .ok (.aconst_null, 1) := by decide +kernel
theorem dX11_init_113 : decode cX11_init 113 = .ok (.putfield 75, 3) := by decide +kernel
theorem dX11_init_116 : decode cX11_init 116 = .ok (.getstatic 79, 3) := by decide +kernel
theorem dX11_init_119 : decode cX11_init 119 = .ok (.iconst 0, 1) := by decide +kernel
theorem dX11_init_120 : decode cX11_init 120 = .ok (.aload_n 0, 1) := by decide +kernel
theorem dX11_init_121 : decode cX11_init 121 = .ok (.getfield 9, 3) := by decide +kernel
theorem dX11_init_124 : decode cX11_init 124 = .ok (.iconst 0, 1) := by decide +kernel
theorem dX11_init_125 : decode cX11_init 125 = .ok (.bipush 13, 2) := by decide +kernel
theorem dX11_init_127 : decode cX11_init 127 = .ok (.invokestatic 82, 3) := by decide +kernel
theorem dX11_init_130 : decode cX11_init 130 = .ok (.iconst 0, 1) := by decide +kernel
theorem dX11_init_131 : decode cX11_init 131 = .ok (.istore_n 1, 1) := by decide +kernel
theorem dX11_init_132 : decode cX11_init 132 = .ok (.iload_n 1, 1) := by decide +kernel
theorem dX11_init_133 : decode cX11_init 133 = .ok (.bipush 8, 2) := by decide +kernel
theorem dX11_init_135 : decode cX11_init 135 = .ok (.if_icmp .ge 22, 3) := by decide +kernel
theorem dX11_init_138 : decode cX11_init 138 = .ok (.aload_n 0, 1) := by decide +kernel
theorem dX11_init_139 : decode cX11_init 139 = .ok (.getfield 43, 3) := by decide +kernel
theorem dX11_init_142 : decode cX11_init 142 = .ok (.iload_n 1, 1) := by decide +kernel
theorem dX11_init_143 : decode cX11_init 143 = .ok (.new 41, 3) := by decide +kernel
theorem dX11_init_146 : decode cX11_init 146 = .ok (.dup, 1) := by decide +kernel
theorem dX11_init_147 : decode cX11_init 147 = .ok (.invokespecial 88, 3) := by decide +kernel
theorem dX11_init_150 : decode cX11_init 150 = .ok (.aastore, 1) := by decide +kernel
theorem dX11_init_151 : decode cX11_init 151 = .ok (.iinc 1 1, 3) := by decide +kernel
theorem dX11_init_154 : decode cX11_init 154 = .ok (.goto (-22), 3) := by decide +kernel
theorem dX11_init_157 : decode cX11_init 157 = .ok (.return_, 1) := by decide +kernel
theorem dX11_time_0 : decode cX11_time 0 = .ok (.iload_n 1, 1) := by decide +kernel
theorem dX11_time_1 : decode cX11_time 1 = .ok (.iconst 0, 1) := by decide +kernel
theorem dX11_time_2 : decode cX11_time 2 = .ok (.bipush 12, 2) := by decide +kernel
theorem dX11_time_4 : decode cX11_time 4 = .ok (.invokestatic 89, 3) := by decide +kernel
theorem dX11_time_7 : decode cX11_time 7 = .ok (.ifCond .eq 13, 3) := by decide +kernel
theorem dX11_time_10 : decode cX11_time 10 = .ok (.iload_n 2, 1) := by decide +kernel
theorem dX11_time_11 : decode cX11_time 11 = .ok (.iconst 1, 1) := by decide +kernel
theorem dX11_time_12 : decode cX11_time 12 = .ok (.bipush 30, 2) := by decide +kernel
theorem dX11_time_14 : decode cX11_time 14 = .ok (.invokestatic 89, 3) := by decide +kernel
theorem dX11_time_17 : decode cX11_time 17 = .ok (.ifCond .ne 5, 3) := by decide +kernel
theorem dX11_time_20 : decode cX11_time 20 = .ok (.iconst (-1), 1) := by decide +kernel
theorem dX11_time_21 : decode cX11_time 21 = .ok (.ireturn, 1) := by decide +kernel
theorem dX11_time_22 : decode cX11_time 22 = .ok (.aload_n 0, 1) := by decide +kernel
theorem dX11_time_23 : decode cX11_time 23 = .ok (.getfield 9, 3) := by decide +kernel
theorem dX11_time_26 : decode cX11_time 26 = .ok (.iload_n 1, 1) := by decide +kernel
theorem dX11_time_27 : decode cX11_time 27 = .ok (.iaload, 1) := by decide +kernel
theorem dX11_time_28 : decode cX11_time 28 = .ok (.istore_n 3, 1) := by decide +kernel
theorem dX11_time_29 : decode cX11_time 29 = .ok (.aload_n 0, 1) := by decide +kernel
theorem dX11_time_30 : decode cX11_time 30 = .ok (.getfield 9, 3) := by decide +kernel
theorem dX11_time_33 : decode cX11_time 33 = .ok (.iload_n 1, 1) := by decide +kernel
theorem dX11_time_34 : decode cX11_time 34 = .ok (.iload_n 2, 1) := by decide +kernel
theorem dX11_time_35 : decode cX11_time 35 = .ok (.iastore, 1) := by decide +kernel
theorem dX11_time_36 : decode cX11_time 36 = .ok (.iload_n 3, 1) := by decide +kernel
theorem dX11_time_37 : decode cX11_time 37 = .ok (.ireturn, 1) := by decide +kernel
theorem dX11_refresh_0 : decode cX11_refresh 0 = .ok (.iload_n 1, 1) := by decide +kernel
theorem dX11_refresh_1 : decode cX11_refresh 1 = .ok (.ifCond .eq 15, 3) := by decide +kernel
theorem dX11_refresh_4 : decode cX11_refresh 4 = .ok (.iload_n 1, 1) := by decide +kernel
theorem dX11_refresh_5 : decode cX11_refresh 5 = .ok (.bipush 20, 2) := by decide +kernel
theorem dX11_refresh_7 : decode cX11_refresh 7 = .ok (.sipush 400, 3) := by decide +kernel
theorem dX11_refresh_10 : decode cX11_refresh 10 = .ok (.invokestatic 89, 3) := by decide +kernel
theorem dX11_refresh_13 : decode cX11_refresh 13 = .ok (.ifCond .eq 13, 3) := by decide +kernel
theorem dX11_refresh_16 : decode cX11_refresh 16 = .ok (.iload_n 2, 1) := by decide +kernel
theorem dX11_refresh_17 : decode cX11_refresh 17 = .ok (.iconst 1, 1) := by decide +kernel
theorem dX11_refresh_18 : decode cX11_refresh 18 = .ok (.bipush 8, 2) := by decide +kernel
theorem dX11_refresh_20 : decode cX11_refresh 20 = .ok (.invokestatic 89, 3) := by decide +kernel
theorem dX11_refresh_23 : decode cX11_refresh 23 = .ok (.ifCond .ne 5, 3) := by decide +kernel
theorem dX11_refresh_26 : decode cX11_refresh 26 = .ok (.iconst (-1), 1) := by decide +kernel
theorem dX11_refresh_27 : decode cX11_refresh 27 = .ok (.ireturn, 1) := by decide +kernel
theorem dX11_refresh_28 : decode cX11_refresh 28 = .ok (.aload_n 0, 1) := by decide +kernel
theorem dX11_refresh_29 : decode cX11_refresh 29 = .ok (.iload_n 1, 1) := by decide +kernel
theorem dX11_refresh_30 : decode cX11_refresh 30 = .ok (.putfield 51, 3) := by decide +kernel
theorem dX11_refresh_33 : decode cX11_refresh 33 = .ok (.aload_n 0, 1) := by decide +kernel
theorem dX11_refresh_34 : decode cX11_refresh 34 = .ok (.iload_n 2, 1) := by decide +kernel
theorem dX11_refresh_35 : decode cX11_refresh 35 = .ok (.putfield 54, 3) := by decide +kernel
theorem dX11_refresh_38 : decode cX11_refresh 38 = .ok (.iconst 0, 1) := by decide +kernel
theorem dX11_refresh_39 : decode cX11_refresh 39 = .ok (.ireturn, 1) := by decide +kernel
theorem dX11_order_0 : decode cX11_order 0 = .ok (.iload_n 1, 1) := by decide +kernel
theorem dX11_order_1 : decode cX11_order 1 = .ok (.iconst 0, 1) := by decide +kernel
theorem dX11_order_2 : decode cX11_order 2 = .ok (.iconst 2, 1) := by decide +kernel
theorem dX11_order_3 : decode cX11_order 3 = .ok (.invokestatic 89, 3) := by decide +kernel
theorem dX11_order_6 : decode cX11_order 6 = .ok (.ifCond .eq 13, 3) := by decide +kernel
theorem dX11_order_9 : decode cX11_order 9 = .ok (.iload_n 2, 1) := by decide +kernel
theorem dX11_order_10 : decode cX11_order 10 = .ok (.iconst 1, 1) := by decide +kernel
theorem dX11_order_11 : decode cX11_order 11 = .ok (.bipush 20, 2) := by decide +kernel
theorem dX11_order_13 : decode cX11_order 13 = .ok (.invokestatic 89, 3) := by decide +kernel
theorem dX11_order_16 : decode cX11_order 16 = .ok (.ifCond .ne 5, 3) := by decide +kernel
theorem dX11_order_19 : decode cX11_order 19 = .ok (.iconst (-1), 1) := by decide +kernel
theorem dX11_order_20 : decode cX11_order 20 = .ok (.ireturn, 1) := by decide +kernel
theorem dX11_order_21 : decode cX11_order 21 = .ok (.aload_n 0, 1) := by decide +kernel
theorem dX11_order_22 : decode cX11_order 22 = .ok (.iload_n 1, 1) := by decide +kernel
theorem dX11_order_23 : decode cX11_order 23 = .ok (.putfield 60, 3) := by decide +kernel
theorem dX11_order_26 : decode cX11_order 26 = .ok (.aload_n 0, 1) := by decide +kernel
theorem dX11_order_27 : decode cX11_order 27 = .ok (.iload_n 2, 1) := by decide +kernel
theorem dX11_order_28 : decode cX11_order 28 = .ok (.putfield 63, 3) := by decide +kernel
theorem dX11_order_31 : decode cX11_order 31 = .ok (.iconst 0, 1) := by decide +kernel
theorem dX11_order_32 : decode cX11_order 32 = .ok (.ireturn, 1) := by decide +kernel
theorem dX11_ask_0 : decode cX11_ask 0 = .ok (.iload_n 1, 1) := by decide +kernel
theorem dX11_ask_1 : decode cX11_ask 1 = .ok (.invokestatic 93, 3) := by decide +kernel
theorem dX11_ask_4 : decode cX11_ask 4 = .ok (.ifCond .eq 10, 3) := by decide +kernel
theorem dX11_ask_7 : decode cX11_ask 7 = .ok (.iload_n 2, 1) := by decide +kernel
theorem dX11_ask_8 : decode cX11_ask 8 = .ok (.invokestatic 97, 3) := by decide +kernel
theorem dX11_ask_11 : decode cX11_ask 11 = .ok (.ifCond .ne 5, 3) := by decide +kernel
theorem dX11_ask_14 : decode cX11_ask 14 = .ok (.iconst (-1), 1) := by decide +kernel
theorem dX11_ask_15 : decode cX11_ask 15 = .ok (.ireturn, 1) := by decide +kernel
theorem dX11_ask_16 : decode cX11_ask 16 = .ok (.aload_n 0, 1) := by decide +kernel
theorem dX11_ask_17 : decode cX11_ask 17 = .ok (.getfield 37, 3) := by decide +kernel
theorem dX11_ask_20 : decode cX11_ask 20 = .ok (.new 100, 3) := by decide +kernel
theorem dX11_ask_23 : decode cX11_ask 23 = .ok (.dup, 1) := by decide +kernel
theorem dX11_ask_24 : decode cX11_ask 24 = .ok (.aload_n 0, 1) := by decide +kernel
theorem dX11_ask_25 : decode cX11_ask 25 = .ok (.getfield 37, 3) := by decide +kernel
theorem dX11_ask_28 : decode cX11_ask 28 = .ok (.getfield 102, 3) := by decide +kernel
theorem dX11_ask_31 : decode cX11_ask 31 = .ok (.iload_n 1, 1) := by decide +kernel
theorem dX11_ask_32 : decode cX11_ask 32 = .ok (.iload_n 2, 1) := by decide +kernel
theorem dX11_ask_33 : decode cX11_ask 33 = .ok (.aload_n 0, 1) := by decide +kernel
theorem dX11_ask_34 : decode cX11_ask 34 = .ok (.getfield 47, 3) := by decide +kernel
theorem dX11_ask_37 : decode cX11_ask 37 = .ok (.invokespecial 105, 3) := by decide +kernel
theorem dX11_ask_40 : decode cX11_ask 40 = .ok (.invokevirtual 108, 3) := by decide +kernel
theorem dX11_ask_43 : decode cX11_ask 43 = .ok (.ireturn, 1) := by decide +kernel
theorem dX11_write_0 : decode cX11_write 0 = .ok (.iload_n 1, 1) := by decide +kernel
theorem dX11_write_1 : decode cX11_write 1 = .ok (.invokestatic 93, 3) := by decide +kernel
theorem dX11_write_4 : decode cX11_write 4 = .ok (.ifCond .eq 17, 3) := by decide +kernel
theorem dX11_write_7 : decode cX11_write 7 = .ok (.iload_n 2, 1) := by decide +kernel
theorem dX11_write_8 : decode cX11_write 8 = .ok (.invokestatic 97, 3) := by decide +kernel
theorem dX11_write_11 : decode cX11_write 11 = .ok (.ifCond .eq 10, 3) := by decide +kernel
theorem dX11_write_14 : decode cX11_write 14 = .ok (.iload_n 3, 1) := by decide +kernel
theorem dX11_write_15 : decode cX11_write 15 = .ok (.invokestatic 112, 3) := by decide +kernel
theorem dX11_write_18 : decode cX11_write 18 = .ok (.ifCond .ne 5, 3) := by decide +kernel
theorem dX11_write_21 : decode cX11_write 21 = .ok (.iconst (-1), 1) := by decide +kernel
theorem dX11_write_22 : decode cX11_write 22 = .ok (.ireturn, 1) := by decide +kernel
theorem dX11_write_23 : decode cX11_write 23 = .ok (.aload_n 0, 1) := by decide +kernel
theorem dX11_write_24 : decode cX11_write 24 = .ok (.getfield 37, 3) := by decide +kernel
theorem dX11_write_27 : decode cX11_write 27 = .ok (.new 115, 3) := by decide +kernel
theorem dX11_write_30 : decode cX11_write 30 = .ok (.dup, 1) := by decide +kernel
theorem dX11_write_31 : decode cX11_write 31 = .ok (.aload_n 0, 1) := by decide +kernel
theorem dX11_write_32 : decode cX11_write 32 = .ok (.getfield 37, 3) := by decide +kernel
theorem dX11_write_35 : decode cX11_write 35 = .ok (.getfield 102, 3) := by decide +kernel
theorem dX11_write_38 : decode cX11_write 38 = .ok (.iload_n 1, 1) := by decide +kernel
theorem dX11_write_39 : decode cX11_write 39 = .ok (.iload_n 2, 1) := by decide +kernel
theorem dX11_write_40 : decode cX11_write 40 = .ok (.aload_n 0, 1) := by decide +kernel
theorem dX11_write_41 : decode cX11_write 41 = .ok (.getfield 47, 3) := by decide +kernel
theorem dX11_write_44 : decode cX11_write 44 = .ok (.iload_n 3, 1) := by decide +kernel
theorem dX11_write_45 : decode cX11_write 45 = .ok (.invokespecial 117, 3) := by decide +kernel
theorem dX11_write_48 : decode cX11_write 48 = .ok (.invokevirtual 108, 3) := by decide +kernel
theorem dX11_write_51 : decode cX11_write 51 = .ok (.ireturn, 1) := by decide +kernel
theorem dX11_mask_0 : decode cX11_mask 0 = .ok (.iload_n 1, 1) := by decide +kernel
theorem dX11_mask_1 : decode cX11_mask 1 = .ok (.invokestatic 93, 3) := by decide +kernel
theorem dX11_mask_4 : decode cX11_mask 4 = .ok (.ifCond .eq 25, 3) := by decide +kernel
theorem dX11_mask_7 : decode cX11_mask 7 = .ok (.iload_n 2, 1) := by decide +kernel
theorem dX11_mask_8 : decode cX11_mask 8 = .ok (.invokestatic 97, 3) := by decide +kernel
theorem dX11_mask_11 : decode cX11_mask 11 = .ok (.ifCond .eq 18, 3) := by decide +kernel
theorem dX11_mask_14 : decode cX11_mask 14 = .ok (.iload_n 3, 1) := by decide +kernel
theorem dX11_mask_15 : decode cX11_mask 15 = .ok (.invokestatic 112, 3) := by decide +kernel
theorem dX11_mask_18 : decode cX11_mask 18 = .ok (.ifCond .eq 11, 3) := by decide +kernel
theorem dX11_mask_21 : decode cX11_mask 21 = .ok (.iload 4, 2) := by decide +kernel
theorem dX11_mask_23 : decode cX11_mask 23 = .ok (.invokestatic 112, 3) := by decide +kernel
theorem dX11_mask_26 : decode cX11_mask 26 = .ok (.ifCond .ne 5, 3) := by decide +kernel
theorem dX11_mask_29 : decode cX11_mask 29 = .ok (.iconst (-1), 1) := by decide +kernel
theorem dX11_mask_30 : decode cX11_mask 30 = .ok (.ireturn, 1) := by decide +kernel
theorem dX11_mask_31 : decode cX11_mask 31 = .ok (.aload_n 0, 1) := by decide +kernel
theorem dX11_mask_32 : decode cX11_mask 32 = .ok (.getfield 37, 3) := by decide +kernel
theorem dX11_mask_35 : decode cX11_mask 35 = .ok (.new 120, 3) := by decide +kernel
theorem dX11_mask_38 : decode cX11_mask 38 = .ok (.dup, 1) := by decide +kernel
theorem dX11_mask_39 : decode cX11_mask 39 = .ok (.aload_n 0, 1) := by decide +kernel
theorem dX11_mask_40 : decode cX11_mask 40 = .ok (.getfield 37, 3) := by decide +kernel
theorem dX11_mask_43 : decode cX11_mask 43 = .ok (.getfield 102, 3) := by decide +kernel
theorem dX11_mask_46 : decode cX11_mask 46 = .ok (.iload_n 1, 1) := by decide +kernel
theorem dX11_mask_47 : decode cX11_mask 47 = .ok (.iload_n 2, 1) := by decide +kernel
theorem dX11_mask_48 : decode cX11_mask 48 = .ok (.aload_n 0, 1) := by decide +kernel
theorem dX11_mask_49 : decode cX11_mask 49 = .ok (.getfield 47, 3) := by decide +kernel
theorem dX11_mask_52 : decode cX11_mask 52 = .ok (.iload_n 3, 1) := by decide +kernel
theorem dX11_mask_53 : decode cX11_mask 53 = .ok (.iload 4, 2) := by decide +kernel
theorem dX11_mask_55 : decode cX11_mask 55 = .ok (.invokespecial 122, 3) := by decide +kernel
theorem dX11_mask_58 : decode cX11_mask 58 = .ok (.invokevirtual 108, 3) := by decide +kernel
theorem dX11_mask_61 : decode cX11_mask 61 = .ok (.ireturn, 1) := by decide +kernel
theorem dX11_swap_0 : decode cX11_swap 0 = .ok (.iload_n 1, 1) := by decide +kernel
theorem dX11_swap_1 : decode cX11_swap 1 = .ok (.invokestatic 93, 3) := by decide +kernel
theorem dX11_swap_4 : decode cX11_swap 4 = .ok (.ifCond .eq 17, 3) := by decide +kernel
theorem dX11_swap_7 : decode cX11_swap 7 = .ok (.iload_n 2, 1) := by decide +kernel
theorem dX11_swap_8 : decode cX11_swap 8 = .ok (.invokestatic 97, 3) := by decide +kernel
theorem dX11_swap_11 : decode cX11_swap 11 = .ok (.ifCond .eq 10, 3) := by decide +kernel
theorem dX11_swap_14 : decode cX11_swap 14 = .ok (.iload_n 3, 1) := by decide +kernel
theorem dX11_swap_15 : decode cX11_swap 15 = .ok (.invokestatic 112, 3) := by decide +kernel
theorem dX11_swap_18 : decode cX11_swap 18 = .ok (.ifCond .ne 5, 3) := by decide +kernel
theorem dX11_swap_21 : decode cX11_swap 21 = .ok (.iconst (-1), 1) := by decide +kernel
theorem dX11_swap_22 : decode cX11_swap 22 = .ok (.ireturn, 1) := by decide +kernel
theorem dX11_swap_23 : decode cX11_swap 23 = .ok (.aload_n 0, 1) := by decide +kernel
theorem dX11_swap_24 : decode cX11_swap 24 = .ok (.getfield 37, 3) := by decide +kernel
theorem dX11_swap_27 : decode cX11_swap 27 = .ok (.new 125, 3) := by decide +kernel
theorem dX11_swap_30 : decode cX11_swap 30 = .ok (.dup, 1) := by decide +kernel
theorem dX11_swap_31 : decode cX11_swap 31 = .ok (.aload_n 0, 1) := by decide +kernel
theorem dX11_swap_32 : decode cX11_swap 32 = .ok (.getfield 37, 3) := by decide +kernel
theorem dX11_swap_35 : decode cX11_swap 35 = .ok (.getfield 102, 3) := by decide +kernel
theorem dX11_swap_38 : decode cX11_swap 38 = .ok (.iload_n 1, 1) := by decide +kernel
theorem dX11_swap_39 : decode cX11_swap 39 = .ok (.iload_n 2, 1) := by decide +kernel
theorem dX11_swap_40 : decode cX11_swap 40 = .ok (.aload_n 0, 1) := by decide +kernel
theorem dX11_swap_41 : decode cX11_swap 41 = .ok (.getfield 47, 3) := by decide +kernel
theorem dX11_swap_44 : decode cX11_swap 44 = .ok (.iload_n 3, 1) := by decide +kernel
theorem dX11_swap_45 : decode cX11_swap 45 = .ok (.invokespecial 127, 3) := by decide +kernel
theorem dX11_swap_48 : decode cX11_swap 48 = .ok (.invokevirtual 108, 3) := by decide +kernel
theorem dX11_swap_51 : decode cX11_swap 51 = .ok (.ireturn, 1) := by decide +kernel
theorem dX11_fence_0 : decode cX11_fence 0 = .ok (.iload_n 1, 1) := by decide +kernel
theorem dX11_fence_1 : decode cX11_fence 1 = .ok (.invokestatic 93, 3) := by decide +kernel
theorem dX11_fence_4 : decode cX11_fence 4 = .ok (.ifCond .ne 5, 3) := by decide +kernel
theorem dX11_fence_7 : decode cX11_fence 7 = .ok (.iconst (-1), 1) := by decide +kernel
theorem dX11_fence_8 : decode cX11_fence 8 = .ok (.ireturn, 1) := by decide +kernel
theorem dX11_fence_9 : decode cX11_fence 9 = .ok (.aload_n 0, 1) := by decide +kernel
theorem dX11_fence_10 : decode cX11_fence 10 = .ok (.getfield 37, 3) := by decide +kernel
theorem dX11_fence_13 : decode cX11_fence 13 = .ok (.new 128, 3) := by decide +kernel
theorem dX11_fence_16 : decode cX11_fence 16 = .ok (.dup, 1) := by decide +kernel
theorem dX11_fence_17 : decode cX11_fence 17 = .ok (.aload_n 0, 1) := by decide +kernel
theorem dX11_fence_18 : decode cX11_fence 18 = .ok (.getfield 37, 3) := by decide +kernel
theorem dX11_fence_21 : decode cX11_fence 21 = .ok (.getfield 102, 3) := by decide +kernel
theorem dX11_fence_24 : decode cX11_fence 24 = .ok (.iload_n 1, 1) := by decide +kernel
theorem dX11_fence_25 : decode cX11_fence 25 = .ok (.aload_n 0, 1) := by decide +kernel
theorem dX11_fence_26 : decode cX11_fence 26 = .ok (.getfield 47, 3) := by decide +kernel
theorem dX11_fence_29 : decode cX11_fence 29 = .ok (.invokespecial 130, 3) := by decide +kernel
theorem dX11_fence_32 : decode cX11_fence 32 = .ok (.invokevirtual 108, 3) := by decide +kernel
theorem dX11_fence_35 : decode cX11_fence 35 = .ok (.ireturn, 1) := by decide +kernel
theorem dX11_run_0 : decode cX11_run 0 = .ok (.iload_n 1, 1) := by decide +kernel
theorem dX11_run_1 : decode cX11_run 1 = .ok (.iconst 1, 1) := by decide +kernel
theorem dX11_run_2 : decode cX11_run 2 = .ok (.sipush 500, 3) := by decide +kernel
theorem dX11_run_5 : decode cX11_run 5 = .ok (.invokestatic 89, 3) := by decide +kernel
theorem dX11_run_8 : decode cX11_run 8 = .ok (.ifCond .ne 5, 3) := by decide +kernel
theorem dX11_run_11 : decode cX11_run 11 = .ok (.iconst (-1), 1) := by decide +kernel
theorem dX11_run_12 : decode cX11_run 12 = .ok (.ireturn, 1) := by decide +kernel
theorem dX11_run_13 : decode cX11_run 13 = .ok (.iconst 0, 1) := by decide +kernel
theorem dX11_run_14 : decode cX11_run 14 = .ok (.istore_n 2, 1) := by decide +kernel
theorem dX11_run_15 : decode cX11_run 15 = .ok (.iconst 0, 1) := by decide +kernel
theorem dX11_run_16 : decode cX11_run 16 = .ok (.istore_n 3, 1) := by decide +kernel
theorem dX11_run_17 : decode cX11_run 17 = .ok (.iload_n 3, 1) := by decide +kernel
theorem dX11_run_18 : decode cX11_run 18 = .ok (.iload_n 1, 1) := by decide +kernel
theorem dX11_run_19 : decode cX11_run 19 = .ok (.if_icmp .ge 16, 3) := by decide +kernel
theorem dX11_run_22 : decode cX11_run 22 = .ok (.iload_n 2, 1) := by decide +kernel
theorem dX11_run_23 : decode cX11_run 23 = .ok (.aload_n 0, 1) := by decide +kernel
theorem dX11_run_24 : decode cX11_run 24 = .ok (.invokevirtual 133, 3) := by decide +kernel
theorem dX11_run_27 : decode cX11_run 27 = .ok (.iadd, 1) := by decide +kernel
theorem dX11_run_28 : decode cX11_run 28 = .ok (.istore_n 2, 1) := by decide +kernel
theorem dX11_run_29 : decode cX11_run 29 = .ok (.iinc 3 1, 3) := by decide +kernel
theorem dX11_run_32 : decode cX11_run 32 = .ok (.goto (-15), 3) := by decide +kernel
theorem dX11_run_35 : decode cX11_run 35 = .ok (.iload_n 2, 1) := by decide +kernel
theorem dX11_run_36 : decode cX11_run 36 = .ok (.ireturn, 1) := by decide +kernel
theorem dX11_drain_0 : decode cX11_drain 0 = .ok (.iload_n 1, 1) := by decide +kernel
theorem dX11_drain_1 : decode cX11_drain 1 = .ok (.iconst 1, 1) := by decide +kernel
theorem dX11_drain_2 : decode cX11_drain 2 = .ok (.sipush 500, 3) := by decide +kernel
theorem dX11_drain_5 : decode cX11_drain 5 = .ok (.invokestatic 89, 3) := by decide +kernel
theorem dX11_drain_8 : decode cX11_drain 8 = .ok (.ifCond .ne 5, 3) := by decide +kernel
theorem dX11_drain_11 : decode cX11_drain 11 = .ok (.iconst (-1), 1) := by decide +kernel
theorem dX11_drain_12 : decode cX11_drain 12 = .ok (.ireturn, 1) := by decide +kernel
theorem dX11_drain_13 : decode cX11_drain 13 = .ok (.iconst 0, 1) := by decide +kernel
theorem dX11_drain_14 : decode cX11_drain 14 = .ok (.istore_n 2, 1) := by decide +kernel
theorem dX11_drain_15 : decode cX11_drain 15 = .ok (.iload_n 2, 1) := by decide +kernel
theorem dX11_drain_16 : decode cX11_drain 16 = .ok (.iload_n 1, 1) := by decide +kernel
theorem dX11_drain_17 : decode cX11_drain 17 = .ok (.if_icmp .ge 24, 3) := by decide +kernel
theorem dX11_drain_20 : decode cX11_drain 20 = .ok (.aload_n 0, 1) := by decide +kernel
theorem dX11_drain_21 : decode cX11_drain 21 = .ok (.getfield 37, 3) := by decide +kernel
theorem dX11_drain_24 : decode cX11_drain 24 = .ok (.getfield 137, 3) := by decide +kernel
theorem dX11_drain_27 : decode cX11_drain 27 = .ok (.ifCond .le 14, 3) := by decide +kernel
theorem dX11_drain_30 : decode cX11_drain 30 = .ok (.aload_n 0, 1) := by decide +kernel
theorem dX11_drain_31 : decode cX11_drain 31 = .ok (.invokevirtual 133, 3) := by decide +kernel
theorem dX11_drain_34 : decode cX11_drain 34 = .ok (.pop, 1) := by decide +kernel
theorem dX11_drain_35 : decode cX11_drain 35 = .ok (.iinc 2 1, 3) := by decide +kernel
theorem dX11_drain_38 : decode cX11_drain 38 = .ok (.goto (-23), 3) := by decide +kernel
theorem dX11_drain_41 : decode cX11_drain 41 = .ok (.iload_n 2, 1) := by decide +kernel
theorem dX11_drain_42 : decode cX11_drain 42 = .ok (.ireturn, 1) := by decide +kernel
theorem dX11_next_0 : decode cX11_next 0 = .ok (.aload_n 0, 1) := by decide +kernel
theorem dX11_next_1 : decode cX11_next 1 = .ok (.aload_n 0, 1) := by decide +kernel
theorem dX11_next_2 : decode cX11_next 2 = .ok (.invokevirtual 140, 3) := by decide +kernel
theorem dX11_next_5 : decode cX11_next 5 = .ok (.invokevirtual 143, 3) := by decide +kernel
theorem dX11_next_8 : decode cX11_next 8 = .ok (.ireturn, 1) := by decide +kernel
theorem dX11_passTick_0 : decode cX11_passTick 0 = .ok (.aload_n 0, 1) := by decide +kernel
theorem dX11_passTick_1 : decode cX11_passTick 1 = .ok (.aload_n 0, 1) := by decide +kernel
theorem dX11_passTick_2 : decode cX11_passTick 2 = .ok (.invokevirtual 140, 3) := by decide +kernel
theorem dX11_passTick_5 : decode cX11_passTick 5 = .ok (.putfield 57, 3) := by decide +kernel
theorem dX11_passTick_8 : decode cX11_passTick 8 = .ok (.aload_n 0, 1) := by decide +kernel
theorem dX11_passTick_9 : decode cX11_passTick 9 = .ok (.getfield 37, 3) := by decide +kernel
theorem dX11_passTick_12 : decode cX11_passTick 12 = .ok (.getfield 137, 3) := by decide +kernel
theorem dX11_passTick_15 : decode cX11_passTick 15 = .ok (.istore_n 1, 1) := by decide +kernel
theorem dX11_passTick_16 : decode cX11_passTick 16 = .ok (.aload_n 0, 1) := by decide +kernel
theorem dX11_passTick_17 : decode cX11_passTick 17 = .ok (.getfield 37, 3) := by decide +kernel
theorem dX11_passTick_20 : decode cX11_passTick 20 = .ok (.aload_n 0, 1) := by decide +kernel
theorem dX11_passTick_21 : decode cX11_passTick 21 = .ok (.getfield 47, 3) := by decide +kernel
theorem dX11_passTick_24 : decode cX11_passTick 24 = .ok (.invokevirtual 147, 3) := by decide +kernel
theorem dX11_passTick_27 : decode cX11_passTick 27 = .ok (.aload_n 0, 1) := by decide +kernel
theorem dX11_passTick_28 : decode cX11_passTick 28 = .ok (.aload_n 0, 1) := by decide +kernel
theorem dX11_passTick_29 : decode cX11_passTick 29 = .ok (.getfield 57, 3) := by decide +kernel
theorem dX11_passTick_32 : decode cX11_passTick 32 = .ok (.invokevirtual 143, 3) := by decide +kernel
theorem dX11_passTick_35 : decode cX11_passTick 35 = .ok (.istore_n 2, 1) := by decide +kernel
theorem dX11_passTick_36 : decode cX11_passTick 36 = .ok (.iload_n 2, 1) := by decide +kernel
theorem dX11_passTick_37 : decode cX11_passTick 37 = .ok (.bipush (-2), 2) := by decide +kernel
theorem dX11_passTick_39 : decode cX11_passTick 39 = .ok (.if_icmp .eq 16, 3) := by decide +kernel
theorem dX11_passTick_42 : decode cX11_passTick 42 = .ok (.aload_n 0, 1) := by decide +kernel
theorem dX11_passTick_43 : decode cX11_passTick 43 = .ok (.iload_n 2, 1) := by decide +kernel
theorem dX11_passTick_44 : decode cX11_passTick 44 = .ok (.aload_n 0, 1) := by decide +kernel
theorem dX11_passTick_45 : decode cX11_passTick 45 = .ok (.getfield 72, 3) := by decide +kernel
theorem dX11_passTick_48 : decode cX11_passTick 48 = .ok (.aload_n 0, 1) := by decide +kernel
theorem dX11_passTick_49 : decode cX11_passTick 49 = .ok (.getfield 75, 3) := by decide +kernel
theorem dX11_passTick_52 : decode cX11_passTick 52 = .ok (.invokevirtual 151, 3) := by decide +kernel
theorem dX11_passTick_55 : decode cX11_passTick 55 = .ok (.aload_n 0, 1) := by decide +kernel
theorem dX11_passTick_56 : decode cX11_passTick 56 = .ok (.dup, 1) := by decide +kernel
theorem dX11_passTick_57 : decode cX11_passTick 57 = .ok (.getfield 47, 3) := by decide +kernel
theorem dX11_passTick_60 : decode cX11_passTick 60 = .ok (.iconst 1, 1) := by decide +kernel
theorem dX11_passTick_61 : decode cX11_passTick 61 = .ok (.iadd, 1) := by decide +kernel
theorem dX11_passTick_62 : decode cX11_passTick 62 = .ok (.putfield 47, 3) := by decide +kernel
theorem dX11_passTick_65 : decode cX11_passTick 65 = .ok (.iload_n 1, 1) := by decide +kernel
theorem dX11_passTick_66 : decode cX11_passTick 66 = .ok (.aload_n 0, 1) := by decide +kernel
theorem dX11_passTick_67 : decode cX11_passTick 67 = .ok (.getfield 37, 3) := by decide +kernel
theorem dX11_passTick_70 : decode cX11_passTick 70 = .ok (.getfield 137, 3) := by decide +kernel
theorem dX11_passTick_73 : decode cX11_passTick 73 = .ok (.isub, 1) := by decide +kernel
theorem dX11_passTick_74 : decode cX11_passTick 74 = .ok (.ireturn, 1) := by decide +kernel
theorem dX11_owedThisTick_0 : decode cX11_owedThisTick 0 = .ok (.aload_n 0, 1) := by decide +kernel
theorem dX11_owedThisTick_1 : decode cX11_owedThisTick 1 = .ok (.getfield 51, 3) := by decide +kernel
theorem dX11_owedThisTick_4 : decode cX11_owedThisTick 4 = .ok (.ifCond .eq 24, 3) := by decide +kernel
theorem dX11_owedThisTick_7 : decode cX11_owedThisTick 7 = .ok (.aload_n 0, 1) := by decide +kernel
theorem dX11_owedThisTick_8 : decode cX11_owedThisTick 8 = .ok (.getfield 47, 3) := by decide +kernel
theorem dX11_owedThisTick_11 : decode cX11_owedThisTick 11 = .ok (.aload_n 0, 1) := by decide +kernel
theorem dX11_owedThisTick_12 : decode cX11_owedThisTick 12 = .ok (.getfield 51, 3) := by decide +kernel
theorem dX11_owedThisTick_15 : decode cX11_owedThisTick 15 = .ok (.irem, 1) := by decide +kernel
theorem dX11_owedThisTick_16 : decode cX11_owedThisTick 16 = .ok (.ifCond .ne 12, 3) := by decide +kernel
theorem dX11_owedThisTick_19 : decode cX11_owedThisTick 19 = .ok (.aload_n 0, 1) := by decide +kernel
theorem dX11_owedThisTick_20 : decode cX11_owedThisTick 20 = .ok (.getfield 57, 3) := by decide +kernel
theorem dX11_owedThisTick_23 : decode cX11_owedThisTick 23 = .ok (.iconst 1, 1) := by decide +kernel
theorem dX11_owedThisTick_24 : decode cX11_owedThisTick 24 = .ok (.iadd, 1) := by decide +kernel
theorem dX11_owedThisTick_25 : decode cX11_owedThisTick 25 = .ok (.goto 7, 3) := by decide +kernel
theorem dX11_owedThisTick_28 : decode cX11_owedThisTick 28 = .ok (.aload_n 0, 1) := by decide +kernel
theorem dX11_owedThisTick_29 : decode cX11_owedThisTick 29 = .ok (.getfield 57, 3) := by decide +kernel
theorem dX11_owedThisTick_32 : decode cX11_owedThisTick 32 = .ok (.ireturn, 1) := by decide +kernel
theorem dX11_choose_0 : decode cX11_choose 0 = .ok (.aload_n 0, 1) := by decide +kernel
theorem dX11_choose_1 : decode cX11_choose 1 = .ok (.bipush (-2), 2) := by decide +kernel
theorem dX11_choose_3 : decode cX11_choose 3 = .ok (.putfield 72, 3) := by decide +kernel
theorem dX11_choose_6 : decode cX11_choose 6 = .ok (.aload_n 0, 1) := by decide +kernel
theorem dX11_choose_7 : decode cX11_choose 7 = .ok (.aconst_null, 1) := by decide +kernel
theorem dX11_choose_8 : decode cX11_choose 8 = .ok (.putfield 75, 3) := by decide +kernel
theorem dX11_choose_11 : decode cX11_choose 11 = .ok (.iload_n 1, 1) := by decide +kernel
theorem dX11_choose_12 : decode cX11_choose 12 = .ok (.aload_n 0, 1) := by decide +kernel
theorem dX11_choose_13 : decode cX11_choose 13 = .ok (.getfield 54, 3) := by decide +kernel
theorem dX11_choose_16 : decode cX11_choose 16 = .ok (.if_icmp .ge 24, 3) := by decide +kernel
theorem dX11_choose_19 : decode cX11_choose 19 = .ok (.iload_n 1, 1) := by decide +kernel
theorem dX11_choose_20 : decode cX11_choose 20 = .ok (.ifCond .le 24, 3) := by decide +kernel
theorem dX11_choose_23 : decode cX11_choose 23 = .ok (.aload_n 0, 1) := by decide +kernel
theorem dX11_choose_24 : decode cX11_choose 24 = .ok (.getfield 37, 3) := by decide +kernel
theorem dX11_choose_27 : decode cX11_choose 27 = .ok (.getfield 137, 3) := by decide +kernel
theorem dX11_choose_30 : decode cX11_choose 30 = .ok (.aload_n 0, 1) := by decide +kernel
theorem dX11_choose_31 : decode cX11_choose 31 = .ok (.getfield 37, 3) := by decide +kernel
theorem dX11_choose_34 : decode cX11_choose 34 = .ok (.getfield 155, 3) := by decide +kernel
theorem dX11_choose_37 : decode cX11_choose 37 = .ok (.if_icmp .ne 7, 3) := by decide +kernel
theorem dX11_choose_40 : decode cX11_choose 40 = .ok (.iconst 1, 1) := by decide +kernel
theorem dX11_choose_41 : decode cX11_choose 41 = .ok (.goto 4, 3) := by decide +kernel
theorem dX11_choose_44 : decode cX11_choose 44 = .ok (.iconst 0, 1) := by decide +kernel
theorem dX11_choose_45 : decode cX11_choose 45 = .ok (.istore_n 2, 1) := by decide +kernel
theorem dX11_choose_46 : decode cX11_choose 46 = .ok (.iload_n 2, 1) := by decide +kernel
theorem dX11_choose_47 : decode cX11_choose 47 = .ok (.ifCond .eq 10, 3) := by decide +kernel
theorem dX11_choose_50 : decode cX11_choose 50 = .ok (.aload_n 0, 1) := by decide +kernel
theorem dX11_choose_51 : decode cX11_choose 51 = .ok (.invokevirtual 158, 3) := by decide +kernel
theorem dX11_choose_54 : decode cX11_choose 54 = .ok (.goto 7, 3) := by decide +kernel
theorem dX11_choose_57 : decode cX11_choose 57 = .ok (.aload_n 0, 1) := by decide +kernel
theorem dX11_choose_58 : decode cX11_choose 58 = .ok (.invokevirtual 161, 3) := by decide +kernel
theorem dX11_choose_61 : decode cX11_choose 61 = .ok (.ireturn, 1) := by decide +kernel
theorem dX11_chooseForRefresh_0 : decode cX11_chooseForRefresh 0 = .ok (.aload_n 0, 1) := by decide +kernel
theorem dX11_chooseForRefresh_1 : decode cX11_chooseForRefresh 1 = .ok (.iconst 4, 1) := by decide +kernel
theorem dX11_chooseForRefresh_2 : decode cX11_chooseForRefresh 2 = .ok (.iconst 0, 1) := by decide +kernel
theorem dX11_chooseForRefresh_3 : decode cX11_chooseForRefresh 3 = .ok (.invokevirtual 164, 3) := by decide +kernel
theorem dX11_chooseForRefresh_6 : decode cX11_chooseForRefresh 6 = .ok (.ifCond .eq 5, 3) := by decide +kernel
theorem dX11_chooseForRefresh_9 : decode cX11_chooseForRefresh 9 = .ok (.iconst 4, 1) := by decide +kernel
theorem dX11_chooseForRefresh_10 : decode cX11_chooseForRefresh 10 = .ok (.ireturn, 1) := by decide +kernel
theorem dX11_chooseForRefresh_11 : decode cX11_chooseForRefresh 11 = .ok (.iconst 0, 1) := by decide +kernel
theorem dX11_chooseForRefresh_12 : decode cX11_chooseForRefresh 12 = .ok (.istore_n 1, 1) := by decide +kernel
theorem dX11_chooseForRefresh_13 : decode cX11_chooseForRefresh 13 = .ok (.iload_n 1, 1) := by decide +kernel
theorem dX11_chooseForRefresh_14 : decode cX11_chooseForRefresh 14 = .ok (.iconst 4, 1) := by decide +kernel
theorem dX11_chooseForRefresh_15 : decode cX11_chooseForRefresh 15 = .ok (.if_icmp .ge 25, 3) := by decide +kernel
theorem dX11_chooseForRefresh_18 : decode cX11_chooseForRefresh 18 = .ok (.aload_n 0, 1) := by decide +kernel
theorem dX11_chooseForRefresh_19 : decode cX11_chooseForRefresh 19 = .ok (.iconst 1, 1) := by decide +kernel
theorem dX11_chooseForRefresh_20 : decode cX11_chooseForRefresh 20 = .ok (.iload_n 1, 1) := by decide +kernel
theorem dX11_chooseForRefresh_21 : decode cX11_chooseForRefresh 21 = .ok (.invokevirtual 164, 3) := by decide +kernel
theorem dX11_chooseForRefresh_24 : decode cX11_chooseForRefresh 24 = .ok (.ifCond .eq 10, 3) := by decide +kernel
theorem dX11_chooseForRefresh_27 : decode cX11_chooseForRefresh 27 = .ok (.aload_n 0, 1) := by decide +kernel
theorem dX11_chooseForRefresh_28 : decode cX11_chooseForRefresh 28 = .ok (.iload_n 1, 1) := by decide +kernel
theorem dX11_chooseForRefresh_29 : decode cX11_chooseForRefresh 29 = .ok (.putfield 72, 3) := by decide +kernel
theorem dX11_chooseForRefresh_32 : decode cX11_chooseForRefresh 32 = .ok (.iconst 1, 1) := by decide +kernel
theorem dX11_chooseForRefresh_33 : decode cX11_chooseForRefresh 33 = .ok (.ireturn, 1) := by decide +kernel
theorem dX11_chooseForRefresh_34 : decode cX11_chooseForRefresh 34 = .ok (.iinc 1 1, 3) := by decide +kernel
theorem dX11_chooseForRefresh_37 : decode cX11_chooseForRefresh 37 = .ok (.goto (-24), 3) := by decide +kernel
theorem dX11_chooseForRefresh_40 : decode cX11_chooseForRefresh 40 = .ok (.bipush (-2), 2) := by decide +kernel
theorem dX11_chooseForRefresh_42 : decode cX11_chooseForRefresh 42 = .ok (.ireturn, 1) := by decide +kernel
theorem dX11_chooseForAsks_0 : decode cX11_chooseForAsks 0 = .ok (.iconst 0, 1) := by decide +kernel
theorem dX11_chooseForAsks_1 : decode cX11_chooseForAsks 1 = .ok (.istore_n 1, 1) := by decide +kernel
theorem dX11_chooseForAsks_2 : decode cX11_chooseForAsks 2 = .ok (.aload_n 0, 1) := by decide +kernel
theorem dX11_chooseForAsks_3 : decode cX11_chooseForAsks 3 = .ok (.getfield 37, 3) := by decide +kernel
theorem dX11_chooseForAsks_6 : decode cX11_chooseForAsks 6 = .ok (.aload_n 0, 1) := by decide +kernel
theorem dX11_chooseForAsks_7 : decode cX11_chooseForAsks 7 = .ok (.getfield 60, 3) := by decide +kernel
theorem dX11_chooseForAsks_10 : decode cX11_chooseForAsks 10 = .ok (.aload_n 0, 1) := by decide +kernel
theorem dX11_chooseForAsks_11 : decode cX11_chooseForAsks 11 = .ok (.getfield 63, 3) := by decide +kernel
theorem dX11_chooseForAsks_14 : decode cX11_chooseForAsks 14 = .ok (.aload_n 0, 1) := by decide +kernel
theorem dX11_chooseForAsks_15 : decode cX11_chooseForAsks 15 = .ok (.getfield 30, 3) := by decide +kernel
theorem dX11_chooseForAsks_18 : decode cX11_chooseForAsks 18 = .ok (.invokevirtual 168, 3) := by decide +kernel
theorem dX11_chooseForAsks_21 : decode cX11_chooseForAsks 21 = .ok (.astore_n 2, 1) := by decide +kernel
theorem dX11_chooseForAsks_22 : decode cX11_chooseForAsks 22 = .ok (.aload_n 2, 1) := by decide +kernel
theorem dX11_chooseForAsks_23 : decode cX11_chooseForAsks 23 = .ok (.astore_n 3, 1) := by decide +kernel
theorem dX11_chooseForAsks_24 : decode cX11_chooseForAsks 24 = .ok (.aload_n 3, 1) := by decide +kernel
theorem dX11_chooseForAsks_25 : decode cX11_chooseForAsks 25 = .ok (.ifnull 121, 3) := by decide +kernel
theorem dX11_chooseForAsks_28 : decode cX11_chooseForAsks 28 = .ok (.aload_n 0, 1) := by decide +kernel
theorem dX11_chooseForAsks_29 : decode cX11_chooseForAsks 29 = .ok (.getfield 37, 3) := by decide +kernel
theorem dX11_chooseForAsks_32 : decode cX11_chooseForAsks 32 = .ok (.aload_n 3, 1) := by decide +kernel
theorem dX11_chooseForAsks_33 : decode cX11_chooseForAsks 33 = .ok (.iconst 0, 1) := by decide +kernel
theorem dX11_chooseForAsks_34 : decode cX11_chooseForAsks 34 = .ok (.invokevirtual 172, 3) := by decide +kernel
theorem dX11_chooseForAsks_37 : decode cX11_chooseForAsks 37 = .ok (.ifCond .eq 6, 3) := by decide +kernel
theorem dX11_chooseForAsks_40 : decode cX11_chooseForAsks 40 = .ok (.goto 98, 3) := by decide +kernel
theorem dX11_chooseForAsks_43 : decode cX11_chooseForAsks 43 = .ok (.iload_n 1, 1) := by decide +kernel
theorem dX11_chooseForAsks_44 : decode cX11_chooseForAsks 44 = .ok (.aload_n 3, 1) := by decide +kernel
theorem dX11_chooseForAsks_45 : decode cX11_chooseForAsks 45 = .ok (.getfield 176, 3) := by decide +kernel
theorem dX11_chooseForAsks_48 : decode cX11_chooseForAsks 48 = .ok (.ishr, 1) := by decide +kernel
theorem dX11_chooseForAsks_49 : decode cX11_chooseForAsks 49 = .ok (.iconst 1, 1) := by decide +kernel
theorem dX11_chooseForAsks_50 : decode cX11_chooseForAsks 50 = .ok (.iand, 1) := by decide +kernel
theorem dX11_chooseForAsks_51 : decode cX11_chooseForAsks 51 = .ok (.ifCond .ne 7, 3) := by decide +kernel
theorem dX11_chooseForAsks_54 : decode cX11_chooseForAsks 54 = .ok (.iconst 1, 1) := by decide +kernel
theorem dX11_chooseForAsks_55 : decode cX11_chooseForAsks 55 = .ok (.goto 4, 3) := by decide +kernel
theorem dX11_chooseForAsks_58 : decode cX11_chooseForAsks 58 = .ok (.iconst 0, 1) := by decide +kernel
theorem dX11_chooseForAsks_59 : decode cX11_chooseForAsks 59 = .ok (.istore 4, 2) := by decide +kernel
theorem dX11_chooseForAsks_61 : decode cX11_chooseForAsks 61 = .ok (.iload_n 1, 1) := by decide +kernel
theorem dX11_chooseForAsks_62 : decode cX11_chooseForAsks 62 = .ok (.iconst 1, 1) := by decide +kernel
theorem dX11_chooseForAsks_63 : decode cX11_chooseForAsks 63 = .ok (.aload_n 3, 1) := by decide +kernel
theorem dX11_chooseForAsks_64 : decode cX11_chooseForAsks 64 = .ok (.getfield 176, 3) := by decide +kernel
theorem dX11_chooseForAsks_67 : decode cX11_chooseForAsks 67 = .ok (.ishl, 1) := by decide +kernel
theorem dX11_chooseForAsks_68 : decode cX11_chooseForAsks 68 = .ok (.ior, 1) := by decide +kernel
theorem dX11_chooseForAsks_69 : decode cX11_chooseForAsks 69 = .ok (.istore_n 1, 1) := by decide +kernel
theorem dX11_chooseForAsks_70 : decode cX11_chooseForAsks 70 = .ok (.aload_n 0, 1) := by decide +kernel
theorem dX11_chooseForAsks_71 : decode cX11_chooseForAsks 71 = .ok (.getfield 30, 3) := by decide +kernel
theorem dX11_chooseForAsks_74 : decode cX11_chooseForAsks 74 = .ok (.aload_n 3, 1) := by decide +kernel
theorem dX11_chooseForAsks_75 : decode cX11_chooseForAsks 75 = .ok (.invokevirtual 181, 3) := by decide +kernel
theorem dX11_chooseForAsks_78 : decode cX11_chooseForAsks 78 = .ok (.istore 5, 2) := by decide +kernel
theorem dX11_chooseForAsks_80 : decode cX11_chooseForAsks 80 = .ok (.iload 4, 2) := by decide +kernel
theorem dX11_chooseForAsks_82 : decode cX11_chooseForAsks 82 = .ok (.ifCond .ne 15, 3) := by decide +kernel
theorem dX11_chooseForAsks_85 : decode cX11_chooseForAsks 85 = .ok (.iload 5, 2) := by decide +kernel
theorem dX11_chooseForAsks_87 : decode cX11_chooseForAsks 87 = .ok (.iconst 2, 1) := by decide +kernel
theorem dX11_chooseForAsks_88 : decode cX11_chooseForAsks 88 = .ok (.if_icmp .eq 9, 3) := by decide +kernel
theorem dX11_chooseForAsks_91 : decode cX11_chooseForAsks 91 = .ok (.iload 5, 2) := by decide +kernel
theorem dX11_chooseForAsks_93 : decode cX11_chooseForAsks 93 = .ok (.iconst 3, 1) := by decide +kernel
theorem dX11_chooseForAsks_94 : decode cX11_chooseForAsks 94 = .ok (.if_icmp .ne 7, 3) := by decide +kernel
theorem dX11_chooseForAsks_97 : decode cX11_chooseForAsks 97 = .ok (.iconst 1, 1) := by decide +kernel
theorem dX11_chooseForAsks_98 : decode cX11_chooseForAsks 98 = .ok (.goto 4, 3) := by decide +kernel
theorem dX11_chooseForAsks_101 : decode cX11_chooseForAsks 101 = .ok (.iconst 0, 1) := by decide +kernel
theorem dX11_chooseForAsks_102 : decode cX11_chooseForAsks 102 = .ok (.istore 6, 2) := by decide +kernel
theorem dX11_chooseForAsks_104 : decode cX11_chooseForAsks 104 = .ok (.iload 6, 2) := by decide +kernel
theorem dX11_chooseForAsks_106 : decode cX11_chooseForAsks 106 = .ok (.ifCond .eq 32, 3) := by decide +kernel
theorem dX11_chooseForAsks_109 : decode cX11_chooseForAsks 109 = .ok (.aload_n 0, 1) := by decide +kernel
theorem dX11_chooseForAsks_110 : decode cX11_chooseForAsks 110 = .ok (.iload 5, 2) := by decide +kernel
theorem dX11_chooseForAsks_112 : decode cX11_chooseForAsks 112 = .ok (.aload_n 3, 1) := by decide +kernel
theorem dX11_chooseForAsks_113 : decode cX11_chooseForAsks 113 = .ok (.getfield 176, 3) := by decide +kernel
theorem dX11_chooseForAsks_116 : decode cX11_chooseForAsks 116 = .ok (.invokevirtual 164, 3) := by decide +kernel
theorem dX11_chooseForAsks_119 : decode cX11_chooseForAsks 119 = .ok (.ifCond .eq 19, 3) := by decide +kernel
theorem dX11_chooseForAsks_122 : decode cX11_chooseForAsks 122 = .ok (.aload_n 0, 1) := by decide +kernel
theorem dX11_chooseForAsks_123 : decode cX11_chooseForAsks 123 = .ok (.aload_n 3, 1) := by decide +kernel
theorem dX11_chooseForAsks_124 : decode cX11_chooseForAsks 124 = .ok (.getfield 176, 3) := by decide +kernel
theorem dX11_chooseForAsks_127 : decode cX11_chooseForAsks 127 = .ok (.putfield 72, 3) := by decide +kernel
theorem dX11_chooseForAsks_130 : decode cX11_chooseForAsks 130 = .ok (.aload_n 0, 1) := by decide +kernel
theorem dX11_chooseForAsks_131 : decode cX11_chooseForAsks 131 = .ok (.aload_n 3, 1) := by decide +kernel
theorem dX11_chooseForAsks_132 : decode cX11_chooseForAsks 132 = .ok (.putfield 75, 3) := by decide +kernel
theorem dX11_chooseForAsks_135 : decode cX11_chooseForAsks 135 = .ok (.iload 5, 2) := by decide +kernel
theorem dX11_chooseForAsks_137 : decode cX11_chooseForAsks 137 = .ok (.ireturn, 1) := by decide +kernel
theorem dX11_chooseForAsks_138 : decode cX11_chooseForAsks 138 = .ok (.aload_n 3, 1) := by decide +kernel
theorem dX11_chooseForAsks_139 : decode cX11_chooseForAsks 139 = .ok (.getfield 184, 3) := by decide +kernel
theorem dX11_chooseForAsks_142 : decode cX11_chooseForAsks 142 = .ok (.astore_n 3, 1) := by decide +kernel
theorem dX11_chooseForAsks_143 : decode cX11_chooseForAsks 143 = .ok (.goto (-119), 3) := by decide +kernel
theorem dX11_chooseForAsks_146 : decode cX11_chooseForAsks 146 = .ok (.bipush (-2), 2) := by decide +kernel
theorem dX11_chooseForAsks_148 : decode cX11_chooseForAsks 148 = .ok (.ireturn, 1) := by decide +kernel
theorem dX11_canGo_0 : decode cX11_canGo 0 = .ok (.aload_n 0, 1) := by decide +kernel
theorem dX11_canGo_1 : decode cX11_canGo 1 = .ok (.getfield 30, 3) := by decide +kernel
theorem dX11_canGo_4 : decode cX11_canGo 4 = .ok (.iload_n 1, 1) := by decide +kernel
theorem dX11_canGo_5 : decode cX11_canGo 5 = .ok (.iload_n 2, 1) := by decide +kernel
theorem dX11_canGo_6 : decode cX11_canGo 6 = .ok (.invokevirtual 187, 3) := by decide +kernel
theorem dX11_canGo_9 : decode cX11_canGo 9 = .ok (.ifCond .eq 27, 3) := by decide +kernel
theorem dX11_canGo_12 : decode cX11_canGo 12 = .ok (.aload_n 0, 1) := by decide +kernel
theorem dX11_canGo_13 : decode cX11_canGo 13 = .ok (.getfield 16, 3) := by decide +kernel
theorem dX11_canGo_16 : decode cX11_canGo 16 = .ok (.aload_n 0, 1) := by decide +kernel
theorem dX11_canGo_17 : decode cX11_canGo 17 = .ok (.getfield 9, 3) := by decide +kernel
theorem dX11_canGo_20 : decode cX11_canGo 20 = .ok (.iload_n 1, 1) := by decide +kernel
theorem dX11_canGo_21 : decode cX11_canGo 21 = .ok (.iload_n 2, 1) := by decide +kernel
theorem dX11_canGo_22 : decode cX11_canGo 22 = .ok (.invokevirtual 190, 3) := by decide +kernel
theorem dX11_canGo_25 : decode cX11_canGo 25 = .ok (.aload_n 0, 1) := by decide +kernel
theorem dX11_canGo_26 : decode cX11_canGo 26 = .ok (.getfield 47, 3) := by decide +kernel
theorem dX11_canGo_29 : decode cX11_canGo 29 = .ok (.if_icmp .gt 7, 3) := by decide +kernel
theorem dX11_canGo_32 : decode cX11_canGo 32 = .ok (.iconst 1, 1) := by decide +kernel
theorem dX11_canGo_33 : decode cX11_canGo 33 = .ok (.goto 4, 3) := by decide +kernel
theorem dX11_canGo_36 : decode cX11_canGo 36 = .ok (.iconst 0, 1) := by decide +kernel
theorem dX11_canGo_37 : decode cX11_canGo 37 = .ok (.ireturn, 1) := by decide +kernel
theorem dX11_carryOut_0 : decode cX11_carryOut 0 = .ok (.aload_n 0, 1) := by decide +kernel
theorem dX11_carryOut_1 : decode cX11_carryOut 1 = .ok (.getfield 16, 3) := by decide +kernel
theorem dX11_carryOut_4 : decode cX11_carryOut 4 = .ok (.iload_n 1, 1) := by decide +kernel
theorem dX11_carryOut_5 : decode cX11_carryOut 5 = .ok (.iload_n 2, 1) := by decide +kernel
theorem dX11_carryOut_6 : decode cX11_carryOut 6 = .ok (.aload_n 0, 1) := by decide +kernel
theorem dX11_carryOut_7 : decode cX11_carryOut 7 = .ok (.getfield 47, 3) := by decide +kernel
theorem dX11_carryOut_10 : decode cX11_carryOut 10 = .ok (.invokevirtual 194, 3) := by decide +kernel
theorem dX11_carryOut_13 : decode cX11_carryOut 13 = .ok (.aload_n 0, 1) := by decide +kernel
theorem dX11_carryOut_14 : decode cX11_carryOut 14 = .ok (.dup, 1) := by decide +kernel
theorem dX11_carryOut_15 : decode cX11_carryOut 15 = .ok (.getfield 66, 3) := by decide +kernel
theorem dX11_carryOut_18 : decode cX11_carryOut 18 = .ok (.iconst 1, 1) := by decide +kernel
theorem dX11_carryOut_19 : decode cX11_carryOut 19 = .ok (.iadd, 1) := by decide +kernel
theorem dX11_carryOut_20 : decode cX11_carryOut 20 = .ok (.putfield 66, 3) := by decide +kernel
theorem dX11_carryOut_23 : decode cX11_carryOut 23 = .ok (.aload_n 0, 1) := by decide +kernel
theorem dX11_carryOut_24 : decode cX11_carryOut 24 = .ok (.getfield 23, 3) := by decide +kernel
theorem dX11_carryOut_27 : decode cX11_carryOut 27 = .ok (.iload_n 1, 1) := by decide +kernel
theorem dX11_carryOut_28 : decode cX11_carryOut 28 = .ok (.iload_n 2, 1) := by decide +kernel
theorem dX11_carryOut_29 : decode cX11_carryOut 29 = .ok (.aload_n 3, 1) := by decide +kernel
theorem dX11_carryOut_30 : decode cX11_carryOut 30 = .ok (.aload_n 0, 1) := by decide +kernel
theorem dX11_carryOut_31 : decode cX11_carryOut 31 = .ok (.getfield 47, 3) := by decide +kernel
theorem dX11_carryOut_34 : decode cX11_carryOut 34 = .ok (.invokevirtual 197, 3) := by decide +kernel
theorem dX11_carryOut_37 : decode cX11_carryOut 37 = .ok (.iload_n 1, 1) := by decide +kernel
theorem dX11_carryOut_38 : decode cX11_carryOut 38 = .ok (.iconst 4, 1) := by decide +kernel
theorem dX11_carryOut_39 : decode cX11_carryOut 39 = .ok (.if_icmp .ne 26, 3) := by decide +kernel
theorem dX11_carryOut_42 : decode cX11_carryOut 42 = .ok (.aload_n 0, 1) := by decide +kernel
theorem dX11_carryOut_43 : decode cX11_carryOut 43 = .ok (.dup, 1) := by decide +kernel
theorem dX11_carryOut_44 : decode cX11_carryOut 44 = .ok (.getfield 57, 3) := by decide +kernel
theorem dX11_carryOut_47 : decode cX11_carryOut 47 = .ok (.iconst 1, 1) := by decide +kernel
theorem dX11_carryOut_48 : decode cX11_carryOut 48 = .ok (.isub, 1) := by decide +kernel
theorem dX11_carryOut_49 : decode cX11_carryOut 49 = .ok (.putfield 57, 3) := by decide +kernel
theorem dX11_carryOut_52 : decode cX11_carryOut 52 = .ok (.aload_n 0, 1) := by decide +kernel
theorem dX11_carryOut_53 : decode cX11_carryOut 53 = .ok (.dup, 1) := by decide +kernel
theorem dX11_carryOut_54 : decode cX11_carryOut 54 = .ok (.getfield 69, 3) := by decide +kernel
theorem dX11_carryOut_57 : decode cX11_carryOut 57 = .ok (.iconst 1, 1) := by decide +kernel
theorem dX11_carryOut_58 : decode cX11_carryOut 58 = .ok (.iadd, 1) := by decide +kernel
theorem dX11_carryOut_59 : decode cX11_carryOut 59 = .ok (.putfield 69, 3) := by decide +kernel
theorem dX11_carryOut_62 : decode cX11_carryOut 62 = .ok (.goto 62, 3) := by decide +kernel
theorem dX11_carryOut_65 : decode cX11_carryOut 65 = .ok (.iload_n 1, 1) := by decide +kernel
theorem dX11_carryOut_66 : decode cX11_carryOut 66 = .ok (.iconst 1, 1) := by decide +kernel
theorem dX11_carryOut_67 : decode cX11_carryOut 67 = .ok (.if_icmp .ne 14, 3) := by decide +kernel
theorem dX11_carryOut_70 : decode cX11_carryOut 70 = .ok (.aload_n 0, 1) := by decide +kernel
theorem dX11_carryOut_71 : decode cX11_carryOut 71 = .ok (.getfield 30, 3) := by decide +kernel
theorem dX11_carryOut_74 : decode cX11_carryOut 74 = .ok (.iload_n 2, 1) := by decide +kernel
theorem dX11_carryOut_75 : decode cX11_carryOut 75 = .ok (.invokevirtual 200, 3) := by decide +kernel
theorem dX11_carryOut_78 : decode cX11_carryOut 78 = .ok (.goto 46, 3) := by decide +kernel
theorem dX11_carryOut_81 : decode cX11_carryOut 81 = .ok (.aload_n 3, 1) := by decide +kernel
theorem dX11_carryOut_82 : decode cX11_carryOut 82 = .ok (.ifnull 42, 3) := by decide +kernel
theorem dX11_carryOut_85 : decode cX11_carryOut 85 = .ok (.iload_n 1, 1) := by decide +kernel
theorem dX11_carryOut_86 : decode cX11_carryOut 86 = .ok (.ifCond .ne 18, 3) := by decide +kernel
theorem dX11_carryOut_89 : decode cX11_carryOut 89 = .ok (.aload_n 0, 1) := by decide +kernel
theorem dX11_carryOut_90 : decode cX11_carryOut 90 = .ok (.getfield 30, 3) := by decide +kernel
theorem dX11_carryOut_93 : decode cX11_carryOut 93 = .ok (.iload_n 2, 1) := by decide +kernel
theorem dX11_carryOut_94 : decode cX11_carryOut 94 = .ok (.aload_n 3, 1) := by decide +kernel
theorem dX11_carryOut_95 : decode cX11_carryOut 95 = .ok (.getfield 203, 3) := by decide +kernel
theorem dX11_carryOut_98 : decode cX11_carryOut 98 = .ok (.invokevirtual 206, 3) := by decide +kernel
theorem dX11_carryOut_101 : decode cX11_carryOut 101 = .ok (.goto 23, 3) := by decide +kernel
theorem dX11_carryOut_104 : decode cX11_carryOut 104 = .ok (.aload_n 0, 1) := by decide +kernel
theorem dX11_carryOut_105 : decode cX11_carryOut 105 = .ok (.getfield 30, 3) := by decide +kernel
theorem dX11_carryOut_108 : decode cX11_carryOut 108 = .ok (.aload_n 3, 1) := by decide +kernel
theorem dX11_carryOut_109 : decode cX11_carryOut 109 = .ok (.invokevirtual 210, 3) := by decide +kernel
theorem dX11_carryOut_112 : decode cX11_carryOut 112 = .ok (.aload_n 0, 1) := by decide +kernel
theorem dX11_carryOut_113 : decode cX11_carryOut 113 = .ok (.getfield 37, 3) := by decide +kernel
theorem dX11_carryOut_116 : decode cX11_carryOut 116 = .ok (.aload_n 3, 1) := by decide +kernel
theorem dX11_carryOut_117 : decode cX11_carryOut 117 = .ok (.aload_n 0, 1) := by decide +kernel
theorem dX11_carryOut_118 : decode cX11_carryOut 118 = .ok (.getfield 47, 3) := by decide +kernel
theorem dX11_carryOut_121 : decode cX11_carryOut 121 = .ok (.invokevirtual 214, 3) := by decide +kernel
theorem dX11_carryOut_124 : decode cX11_carryOut 124 = .ok (.return_, 1) := by decide +kernel
theorem dX11_look_0 : decode cX11_look 0 = .ok (.aload_n 0, 1) := by decide +kernel
theorem dX11_look_1 : decode cX11_look 1 = .ok (.getfield 37, 3) := by decide +kernel
theorem dX11_look_4 : decode cX11_look 4 = .ok (.iload_n 1, 1) := by decide +kernel
theorem dX11_look_5 : decode cX11_look 5 = .ok (.invokevirtual 218, 3) := by decide +kernel
theorem dX11_look_8 : decode cX11_look 8 = .ok (.astore_n 3, 1) := by decide +kernel
theorem dX11_look_9 : decode cX11_look 9 = .ok (.aload_n 3, 1) := by decide +kernel
theorem dX11_look_10 : decode cX11_look 10 = .ok (.ifnonnull 5, 3) := by decide +kernel
theorem dX11_look_13 : decode cX11_look 13 = .ok (.iconst (-1), 1) := by decide +kernel
theorem dX11_look_14 : decode cX11_look 14 = .ok (.ireturn, 1) := by decide +kernel
theorem dX11_look_15 : decode cX11_look 15 = .ok (.iload_n 2, 1) := by decide +kernel
theorem dX11_look_16 : decode cX11_look 16 = .ok (.tableswitch 99 0 6 #[44, 49, 54, 59, 64, 69, 74], 44) := by decide +kernel
theorem dX11_look_60 : decode cX11_look 60 = .ok (.aload_n 3, 1) := by decide +kernel
theorem dX11_look_61 : decode cX11_look 61 = .ok (.invokevirtual 222, 3) := by decide +kernel
theorem dX11_look_64 : decode cX11_look 64 = .ok (.ireturn, 1) := by decide +kernel
theorem dX11_look_65 : decode cX11_look 65 = .ok (.aload_n 3, 1) := by decide +kernel
theorem dX11_look_66 : decode cX11_look 66 = .ok (.getfield 225, 3) := by decide +kernel
theorem dX11_look_69 : decode cX11_look 69 = .ok (.ireturn, 1) := by decide +kernel
theorem dX11_look_70 : decode cX11_look 70 = .ok (.aload_n 3, 1) := by decide +kernel
theorem dX11_look_71 : decode cX11_look 71 = .ok (.getfield 228, 3) := by decide +kernel
theorem dX11_look_74 : decode cX11_look 74 = .ok (.ireturn, 1) := by decide +kernel
theorem dX11_look_75 : decode cX11_look 75 = .ok (.aload_n 3, 1) := by decide +kernel
theorem dX11_look_76 : decode cX11_look 76 = .ok (.getfield 231, 3) := by decide +kernel
theorem dX11_look_79 : decode cX11_look 79 = .ok (.ireturn, 1) := by decide +kernel
theorem dX11_look_80 : decode cX11_look 80 = .ok (.aload_n 3, 1) := by decide +kernel
theorem dX11_look_81 : decode cX11_look 81 = .ok (.getfield 232, 3) := by decide +kernel
theorem dX11_look_84 : decode cX11_look 84 = .ok (.ireturn, 1) := by decide +kernel
theorem dX11_look_85 : decode cX11_look 85 = .ok (.aload_n 3, 1) := by decide +kernel
theorem dX11_look_86 : decode cX11_look 86 = .ok (.getfield 235, 3) := by decide +kernel
theorem dX11_look_89 : decode cX11_look 89 = .ok (.ireturn, 1) := by decide +kernel
theorem dX11_look_90 : decode cX11_look 90 = .ok (.aload_n 3, 1) := by decide +kernel
theorem dX11_look_91 : decode cX11_look 91 = .ok (.getfield 232, 3) := by decide +kernel
theorem dX11_look_94 : decode cX11_look 94 = .ok (.ifCond .ne 19, 3) := by decide +kernel
theorem dX11_look_97 : decode cX11_look 97 = .ok (.aload_n 0, 1) := by decide +kernel
theorem dX11_look_98 : decode cX11_look 98 = .ok (.getfield 37, 3) := by decide +kernel
theorem dX11_look_101 : decode cX11_look 101 = .ok (.aload_n 3, 1) := by decide +kernel
theorem dX11_look_102 : decode cX11_look 102 = .ok (.iconst 1, 1) := by decide +kernel
theorem dX11_look_103 : decode cX11_look 103 = .ok (.invokevirtual 172, 3) := by decide +kernel
theorem dX11_look_106 : decode cX11_look 106 = .ok (.ifCond .eq 7, 3) := by decide +kernel
theorem dX11_look_109 : decode cX11_look 109 = .ok (.iconst 1, 1) := by decide +kernel
theorem dX11_look_110 : decode cX11_look 110 = .ok (.goto 4, 3) := by decide +kernel
theorem dX11_look_113 : decode cX11_look 113 = .ok (.iconst 0, 1) := by decide +kernel
theorem dX11_look_114 : decode cX11_look 114 = .ok (.ireturn, 1) := by decide +kernel
theorem dX11_look_115 : decode cX11_look 115 = .ok (.iconst (-1), 1) := by decide +kernel
theorem dX11_look_116 : decode cX11_look 116 = .ok (.ireturn, 1) := by decide +kernel
theorem dX11_at_0 : decode cX11_at 0 = .ok (.iload_n 1, 1) := by decide +kernel
theorem dX11_at_1 : decode cX11_at 1 = .ok (.ifCond .ge 5, 3) := by decide +kernel
theorem dX11_at_4 : decode cX11_at 4 = .ok (.iconst (-1), 1) := by decide +kernel
theorem dX11_at_5 : decode cX11_at 5 = .ok (.ireturn, 1) := by decide +kernel
theorem dX11_at_6 : decode cX11_at 6 = .ok (.iconst 0, 1) := by decide +kernel
theorem dX11_at_7 : decode cX11_at 7 = .ok (.istore_n 2, 1) := by decide +kernel
theorem dX11_at_8 : decode cX11_at 8 = .ok (.aload_n 0, 1) := by decide +kernel
theorem dX11_at_9 : decode cX11_at 9 = .ok (.getfield 37, 3) := by decide +kernel
theorem dX11_at_12 : decode cX11_at 12 = .ok (.aload_n 0, 1) := by decide +kernel
theorem dX11_at_13 : decode cX11_at 13 = .ok (.getfield 60, 3) := by decide +kernel
theorem dX11_at_16 : decode cX11_at 16 = .ok (.aload_n 0, 1) := by decide +kernel
theorem dX11_at_17 : decode cX11_at 17 = .ok (.getfield 63, 3) := by decide +kernel
theorem dX11_at_20 : decode cX11_at 20 = .ok (.aload_n 0, 1) := by decide +kernel
theorem dX11_at_21 : decode cX11_at 21 = .ok (.getfield 30, 3) := by decide +kernel
theorem dX11_at_24 : decode cX11_at 24 = .ok (.invokevirtual 168, 3) := by decide +kernel
theorem dX11_at_27 : decode cX11_at 27 = .ok (.astore_n 3, 1) := by decide +kernel
theorem dX11_at_28 : decode cX11_at 28 = .ok (.aload_n 3, 1) := by decide +kernel
theorem dX11_at_29 : decode cX11_at 29 = .ok (.ifnull 24, 3) := by decide +kernel
theorem dX11_at_32 : decode cX11_at 32 = .ok (.iload_n 2, 1) := by decide +kernel
theorem dX11_at_33 : decode cX11_at 33 = .ok (.iload_n 1, 1) := by decide +kernel
theorem dX11_at_34 : decode cX11_at 34 = .ok (.if_icmp .ne 8, 3) := by decide +kernel
theorem dX11_at_37 : decode cX11_at 37 = .ok (.aload_n 3, 1) := by decide +kernel
theorem dX11_at_38 : decode cX11_at 38 = .ok (.getfield 238, 3) := by decide +kernel
theorem dX11_at_41 : decode cX11_at 41 = .ok (.ireturn, 1) := by decide +kernel
theorem dX11_at_42 : decode cX11_at 42 = .ok (.iinc 2 1, 3) := by decide +kernel
theorem dX11_at_45 : decode cX11_at 45 = .ok (.aload_n 3, 1) := by decide +kernel
theorem dX11_at_46 : decode cX11_at 46 = .ok (.getfield 184, 3) := by decide +kernel
theorem dX11_at_49 : decode cX11_at 49 = .ok (.astore_n 3, 1) := by decide +kernel
theorem dX11_at_50 : decode cX11_at 50 = .ok (.goto (-22), 3) := by decide +kernel
theorem dX11_at_53 : decode cX11_at 53 = .ok (.bipush (-2), 2) := by decide +kernel
theorem dX11_at_55 : decode cX11_at 55 = .ok (.ireturn, 1) := by decide +kernel
theorem dX11_soonest_0 : decode cX11_soonest 0 = .ok (.iload_n 1, 1) := by decide +kernel
theorem dX11_soonest_1 : decode cX11_soonest 1 = .ok (.iconst 0, 1) := by decide +kernel
theorem dX11_soonest_2 : decode cX11_soonest 2 = .ok (.iconst 4, 1) := by decide +kernel
theorem dX11_soonest_3 : decode cX11_soonest 3 = .ok (.invokestatic 89, 3) := by decide +kernel
theorem dX11_soonest_6 : decode cX11_soonest 6 = .ok (.ifCond .eq 15, 3) := by decide +kernel
theorem dX11_soonest_9 : decode cX11_soonest 9 = .ok (.iload_n 1, 1) := by decide +kernel
theorem dX11_soonest_10 : decode cX11_soonest 10 = .ok (.iconst 4, 1) := by decide +kernel
theorem dX11_soonest_11 : decode cX11_soonest 11 = .ok (.if_icmp .eq 12, 3) := by decide +kernel
theorem dX11_soonest_14 : decode cX11_soonest 14 = .ok (.iload_n 2, 1) := by decide +kernel
theorem dX11_soonest_15 : decode cX11_soonest 15 = .ok (.invokestatic 241, 3) := by decide +kernel
theorem dX11_soonest_18 : decode cX11_soonest 18 = .ok (.ifCond .ne 5, 3) := by decide +kernel
theorem dX11_soonest_21 : decode cX11_soonest 21 = .ok (.iconst (-1), 1) := by decide +kernel
theorem dX11_soonest_22 : decode cX11_soonest 22 = .ok (.ireturn, 1) := by decide +kernel
theorem dX11_soonest_23 : decode cX11_soonest 23 = .ok (.aload_n 0, 1) := by decide +kernel
theorem dX11_soonest_24 : decode cX11_soonest 24 = .ok (.getfield 30, 3) := by decide +kernel
theorem dX11_soonest_27 : decode cX11_soonest 27 = .ok (.iload_n 1, 1) := by decide +kernel
theorem dX11_soonest_28 : decode cX11_soonest 28 = .ok (.iload_n 2, 1) := by decide +kernel
theorem dX11_soonest_29 : decode cX11_soonest 29 = .ok (.invokevirtual 187, 3) := by decide +kernel
theorem dX11_soonest_32 : decode cX11_soonest 32 = .ok (.ifCond .ne 6, 3) := by decide +kernel
theorem dX11_soonest_35 : decode cX11_soonest 35 = .ok (.bipush (-2), 2) := by decide +kernel
theorem dX11_soonest_37 : decode cX11_soonest 37 = .ok (.ireturn, 1) := by decide +kernel
theorem dX11_soonest_38 : decode cX11_soonest 38 = .ok (.aload_n 0, 1) := by decide +kernel
theorem dX11_soonest_39 : decode cX11_soonest 39 = .ok (.getfield 47, 3) := by decide +kernel
theorem dX11_soonest_42 : decode cX11_soonest 42 = .ok (.aload_n 0, 1) := by decide +kernel
theorem dX11_soonest_43 : decode cX11_soonest 43 = .ok (.getfield 16, 3) := by decide +kernel
theorem dX11_soonest_46 : decode cX11_soonest 46 = .ok (.aload_n 0, 1) := by decide +kernel
theorem dX11_soonest_47 : decode cX11_soonest 47 = .ok (.getfield 9, 3) := by decide +kernel
theorem dX11_soonest_50 : decode cX11_soonest 50 = .ok (.iload_n 1, 1) := by decide +kernel
theorem dX11_soonest_51 : decode cX11_soonest 51 = .ok (.iload_n 2, 1) := by decide +kernel
theorem dX11_soonest_52 : decode cX11_soonest 52 = .ok (.invokevirtual 190, 3) := by decide +kernel
theorem dX11_soonest_55 : decode cX11_soonest 55 = .ok (.invokestatic 244, 3) := by decide +kernel
theorem dX11_soonest_58 : decode cX11_soonest 58 = .ok (.ireturn, 1) := by decide +kernel
theorem dX11_row_0 : decode cX11_row 0 = .ok (.iload_n 1, 1) := by decide +kernel
theorem dX11_row_1 : decode cX11_row 1 = .ok (.invokestatic 241, 3) := by decide +kernel
theorem dX11_row_4 : decode cX11_row 4 = .ok (.ifCond .eq 15, 3) := by decide +kernel
theorem dX11_row_7 : decode cX11_row 7 = .ok (.aload_n 0, 1) := by decide +kernel
theorem dX11_row_8 : decode cX11_row 8 = .ok (.getfield 30, 3) := by decide +kernel
theorem dX11_row_11 : decode cX11_row 11 = .ok (.getfield 250, 3) := by decide +kernel
theorem dX11_row_14 : decode cX11_row 14 = .ok (.iload_n 1, 1) := by decide +kernel
theorem dX11_row_15 : decode cX11_row 15 = .ok (.iaload, 1) := by decide +kernel
theorem dX11_row_16 : decode cX11_row 16 = .ok (.goto 4, 3) := by decide +kernel
theorem dX11_row_19 : decode cX11_row 19 = .ok (.iconst (-1), 1) := by decide +kernel
theorem dX11_row_20 : decode cX11_row 20 = .ok (.ireturn, 1) := by decide +kernel
theorem dX11_octet_0 : decode cX11_octet 0 = .ok (.iload_n 1, 1) := by decide +kernel
theorem dX11_octet_1 : decode cX11_octet 1 = .ok (.invokestatic 97, 3) := by decide +kernel
theorem dX11_octet_4 : decode cX11_octet 4 = .ok (.ifCond .eq 15, 3) := by decide +kernel
theorem dX11_octet_7 : decode cX11_octet 7 = .ok (.aload_n 0, 1) := by decide +kernel
theorem dX11_octet_8 : decode cX11_octet 8 = .ok (.getfield 30, 3) := by decide +kernel
theorem dX11_octet_11 : decode cX11_octet 11 = .ok (.getfield 253, 3) := by decide +kernel
theorem dX11_octet_14 : decode cX11_octet 14 = .ok (.iload_n 1, 1) := by decide +kernel
theorem dX11_octet_15 : decode cX11_octet 15 = .ok (.iaload, 1) := by decide +kernel
theorem dX11_octet_16 : decode cX11_octet 16 = .ok (.goto 4, 3) := by decide +kernel
theorem dX11_octet_19 : decode cX11_octet 19 = .ok (.iconst (-1), 1) := by decide +kernel
theorem dX11_octet_20 : decode cX11_octet 20 = .ok (.ireturn, 1) := by decide +kernel
theorem dX11_log_0 : decode cX11_log 0 = .ok (.aload_n 0, 1) := by decide +kernel
theorem dX11_log_1 : decode cX11_log 1 = .ok (.getfield 23, 3) := by decide +kernel
theorem dX11_log_4 : decode cX11_log 4 = .ok (.iload_n 1, 1) := by decide +kernel
theorem dX11_log_5 : decode cX11_log 5 = .ok (.invokevirtual 256, 3) := by decide +kernel
theorem dX11_log_8 : decode cX11_log 8 = .ok (.ifCond .ne 5, 3) := by decide +kernel
theorem dX11_log_11 : decode cX11_log 11 = .ok (.iconst (-1), 1) := by decide +kernel
theorem dX11_log_12 : decode cX11_log 12 = .ok (.ireturn, 1) := by decide +kernel
theorem dX11_log_13 : decode cX11_log 13 = .ok (.iload_n 2, 1) := by decide +kernel
theorem dX11_log_14 : decode cX11_log 14 = .ok (.tableswitch 84 0 4 #[34, 44, 54, 64, 74], 34) := by decide +kernel
theorem dX11_log_48 : decode cX11_log 48 = .ok (.aload_n 0, 1) := by decide +kernel
theorem dX11_log_49 : decode cX11_log 49 = .ok (.getfield 23, 3) := by decide +kernel
theorem dX11_log_52 : decode cX11_log 52 = .ok (.getfield 259, 3) := by decide +kernel
theorem dX11_log_55 : decode cX11_log 55 = .ok (.iload_n 1, 1) := by decide +kernel
theorem dX11_log_56 : decode cX11_log 56 = .ok (.iaload, 1) := by decide +kernel
theorem dX11_log_57 : decode cX11_log 57 = .ok (.ireturn, 1) := by decide +kernel
theorem dX11_log_58 : decode cX11_log 58 = .ok (.aload_n 0, 1) := by decide +kernel
theorem dX11_log_59 : decode cX11_log 59 = .ok (.getfield 23, 3) := by decide +kernel
theorem dX11_log_62 : decode cX11_log 62 = .ok (.getfield 262, 3) := by decide +kernel
theorem dX11_log_65 : decode cX11_log 65 = .ok (.iload_n 1, 1) := by decide +kernel
theorem dX11_log_66 : decode cX11_log 66 = .ok (.iaload, 1) := by decide +kernel
theorem dX11_log_67 : decode cX11_log 67 = .ok (.ireturn, 1) := by decide +kernel
theorem dX11_log_68 : decode cX11_log 68 = .ok (.aload_n 0, 1) := by decide +kernel
theorem dX11_log_69 : decode cX11_log 69 = .ok (.getfield 23, 3) := by decide +kernel
theorem dX11_log_72 : decode cX11_log 72 = .ok (.getfield 265, 3) := by decide +kernel
theorem dX11_log_75 : decode cX11_log 75 = .ok (.iload_n 1, 1) := by decide +kernel
theorem dX11_log_76 : decode cX11_log 76 = .ok (.iaload, 1) := by decide +kernel
theorem dX11_log_77 : decode cX11_log 77 = .ok (.ireturn, 1) := by decide +kernel
theorem dX11_log_78 : decode cX11_log 78 = .ok (.aload_n 0, 1) := by decide +kernel
theorem dX11_log_79 : decode cX11_log 79 = .ok (.getfield 23, 3) := by decide +kernel
theorem dX11_log_82 : decode cX11_log 82 = .ok (.getfield 268, 3) := by decide +kernel
theorem dX11_log_85 : decode cX11_log 85 = .ok (.iload_n 1, 1) := by decide +kernel
theorem dX11_log_86 : decode cX11_log 86 = .ok (.iaload, 1) := by decide +kernel
theorem dX11_log_87 : decode cX11_log 87 = .ok (.ireturn, 1) := by decide +kernel
theorem dX11_log_88 : decode cX11_log 88 = .ok (.aload_n 0, 1) := by decide +kernel
theorem dX11_log_89 : decode cX11_log 89 = .ok (.getfield 23, 3) := by decide +kernel
theorem dX11_log_92 : decode cX11_log 92 = .ok (.getfield 271, 3) := by decide +kernel
theorem dX11_log_95 : decode cX11_log 95 = .ok (.iload_n 1, 1) := by decide +kernel
theorem dX11_log_96 : decode cX11_log 96 = .ok (.iaload, 1) := by decide +kernel
theorem dX11_log_97 : decode cX11_log 97 = .ok (.ireturn, 1) := by decide +kernel
theorem dX11_log_98 : decode cX11_log 98 = .ok (.iconst (-1), 1) := by decide +kernel
theorem dX11_log_99 : decode cX11_log 99 = .ok (.ireturn, 1) := by decide +kernel
theorem dX11_forge_0 : decode cX11_forge 0 = .ok (.aload_n 0, 1) := by decide +kernel
theorem dX11_forge_1 : decode cX11_forge 1 = .ok (.getfield 23, 3) := by decide +kernel
theorem dX11_forge_4 : decode cX11_forge 4 = .ok (.iload_n 1, 1) := by decide +kernel
theorem dX11_forge_5 : decode cX11_forge 5 = .ok (.invokevirtual 256, 3) := by decide +kernel
theorem dX11_forge_8 : decode cX11_forge 8 = .ok (.ifCond .eq 14, 3) := by decide +kernel
theorem dX11_forge_11 : decode cX11_forge 11 = .ok (.iload_n 2, 1) := by decide +kernel
theorem dX11_forge_12 : decode cX11_forge 12 = .ok (.iconst 1, 1) := by decide +kernel
theorem dX11_forge_13 : decode cX11_forge 13 = .ok (.ldc_w 274, 3) := by decide +kernel
theorem dX11_forge_16 : decode cX11_forge 16 = .ok (.invokestatic 89, 3) := by decide +kernel
theorem dX11_forge_19 : decode cX11_forge 19 = .ok (.ifCond .ne 5, 3) := by decide +kernel
theorem dX11_forge_22 : decode cX11_forge 22 = .ok (.iconst (-1), 1) := by decide +kernel
theorem dX11_forge_23 : decode cX11_forge 23 = .ok (.ireturn, 1) := by decide +kernel
theorem dX11_forge_24 : decode cX11_forge 24 = .ok (.aload_n 0, 1) := by decide +kernel
theorem dX11_forge_25 : decode cX11_forge 25 = .ok (.getfield 23, 3) := by decide +kernel
theorem dX11_forge_28 : decode cX11_forge 28 = .ok (.getfield 275, 3) := by decide +kernel
theorem dX11_forge_31 : decode cX11_forge 31 = .ok (.iload_n 1, 1) := by decide +kernel
theorem dX11_forge_32 : decode cX11_forge 32 = .ok (.iaload, 1) := by decide +kernel
theorem dX11_forge_33 : decode cX11_forge 33 = .ok (.istore_n 3, 1) := by decide +kernel
theorem dX11_forge_34 : decode cX11_forge 34 = .ok (.aload_n 0, 1) := by decide +kernel
theorem dX11_forge_35 : decode cX11_forge 35 = .ok (.getfield 23, 3) := by decide +kernel
theorem dX11_forge_38 : decode cX11_forge 38 = .ok (.getfield 275, 3) := by decide +kernel
theorem dX11_forge_41 : decode cX11_forge 41 = .ok (.iload_n 1, 1) := by decide +kernel
theorem dX11_forge_42 : decode cX11_forge 42 = .ok (.iload_n 2, 1) := by decide +kernel
theorem dX11_forge_43 : decode cX11_forge 43 = .ok (.iastore, 1) := by decide +kernel
theorem dX11_forge_44 : decode cX11_forge 44 = .ok (.iload_n 3, 1) := by decide +kernel
theorem dX11_forge_45 : decode cX11_forge 45 = .ok (.ireturn, 1) := by decide +kernel
theorem dX11_check_0 : decode cX11_check 0 = .ok (.aload_n 0, 1) := by decide +kernel
theorem dX11_check_1 : decode cX11_check 1 = .ok (.getfield 23, 3) := by decide +kernel
theorem dX11_check_4 : decode cX11_check 4 = .ok (.aload_n 0, 1) := by decide +kernel
theorem dX11_check_5 : decode cX11_check 5 = .ok (.getfield 9, 3) := by decide +kernel
theorem dX11_check_8 : decode cX11_check 8 = .ok (.invokevirtual 278, 3) := by decide +kernel
theorem dX11_check_11 : decode cX11_check 11 = .ok (.ireturn, 1) := by decide +kernel
theorem dX11_broken_0 : decode cX11_broken 0 = .ok (.aload_n 0, 1) := by decide +kernel
theorem dX11_broken_1 : decode cX11_broken 1 = .ok (.getfield 23, 3) := by decide +kernel
theorem dX11_broken_4 : decode cX11_broken 4 = .ok (.getfield 282, 3) := by decide +kernel
theorem dX11_broken_7 : decode cX11_broken 7 = .ok (.ireturn, 1) := by decide +kernel
theorem dX11_worst_0 : decode cX11_worst 0 = .ok (.iload_n 1, 1) := by decide +kernel
theorem dX11_worst_1 : decode cX11_worst 1 = .ok (.invokestatic 93, 3) := by decide +kernel
theorem dX11_worst_4 : decode cX11_worst 4 = .ok (.ifCond .eq 15, 3) := by decide +kernel
theorem dX11_worst_7 : decode cX11_worst 7 = .ok (.aload_n 0, 1) := by decide +kernel
theorem dX11_worst_8 : decode cX11_worst 8 = .ok (.getfield 37, 3) := by decide +kernel
theorem dX11_worst_11 : decode cX11_worst 11 = .ok (.getfield 285, 3) := by decide +kernel
theorem dX11_worst_14 : decode cX11_worst 14 = .ok (.iload_n 1, 1) := by decide +kernel
theorem dX11_worst_15 : decode cX11_worst 15 = .ok (.iaload, 1) := by decide +kernel
theorem dX11_worst_16 : decode cX11_worst 16 = .ok (.goto 4, 3) := by decide +kernel
theorem dX11_worst_19 : decode cX11_worst 19 = .ok (.iconst (-1), 1) := by decide +kernel
theorem dX11_worst_20 : decode cX11_worst 20 = .ok (.ireturn, 1) := by decide +kernel
theorem dX11_beside_0 : decode cX11_beside 0 = .ok (.aload_n 0, 1) := by decide +kernel
theorem dX11_beside_1 : decode cX11_beside 1 = .ok (.getfield 37, 3) := by decide +kernel
theorem dX11_beside_4 : decode cX11_beside 4 = .ok (.aload_n 0, 1) := by decide +kernel
theorem dX11_beside_5 : decode cX11_beside 5 = .ok (.getfield 30, 3) := by decide +kernel
theorem dX11_beside_8 : decode cX11_beside 8 = .ok (.getfield 253, 3) := by decide +kernel
theorem dX11_beside_11 : decode cX11_beside 11 = .ok (.invokevirtual 288, 3) := by decide +kernel
theorem dX11_beside_14 : decode cX11_beside 14 = .ok (.ifCond .eq 7, 3) := by decide +kernel
theorem dX11_beside_17 : decode cX11_beside 17 = .ok (.iconst 1, 1) := by decide +kernel
theorem dX11_beside_18 : decode cX11_beside 18 = .ok (.goto 4, 3) := by decide +kernel
theorem dX11_beside_21 : decode cX11_beside 21 = .ok (.iconst 0, 1) := by decide +kernel
theorem dX11_beside_22 : decode cX11_beside 22 = .ok (.ireturn, 1) := by decide +kernel
theorem dX11_count_0 : decode cX11_count 0 = .ok (.iload_n 1, 1) := by decide +kernel
theorem dX11_count_1 : decode cX11_count 1 = .ok (.tableswitch 128 0 11 #[63, 68, 76, 84, 89, 94, 99, 107, 115, 115, 115, 115], 63) := by decide +kernel
theorem dX11_count_64 : decode cX11_count 64 = .ok (.aload_n 0, 1) := by decide +kernel
theorem dX11_count_65 : decode cX11_count 65 = .ok (.getfield 47, 3) := by decide +kernel
theorem dX11_count_68 : decode cX11_count 68 = .ok (.ireturn, 1) := by decide +kernel
theorem dX11_count_69 : decode cX11_count 69 = .ok (.aload_n 0, 1) := by decide +kernel
theorem dX11_count_70 : decode cX11_count 70 = .ok (.getfield 37, 3) := by decide +kernel
theorem dX11_count_73 : decode cX11_count 73 = .ok (.getfield 102, 3) := by decide +kernel
theorem dX11_count_76 : decode cX11_count 76 = .ok (.ireturn, 1) := by decide +kernel
theorem dX11_count_77 : decode cX11_count 77 = .ok (.aload_n 0, 1) := by decide +kernel
theorem dX11_count_78 : decode cX11_count 78 = .ok (.getfield 37, 3) := by decide +kernel
theorem dX11_count_81 : decode cX11_count 81 = .ok (.getfield 137, 3) := by decide +kernel
theorem dX11_count_84 : decode cX11_count 84 = .ok (.ireturn, 1) := by decide +kernel
theorem dX11_count_85 : decode cX11_count 85 = .ok (.aload_n 0, 1) := by decide +kernel
theorem dX11_count_86 : decode cX11_count 86 = .ok (.getfield 57, 3) := by decide +kernel
theorem dX11_count_89 : decode cX11_count 89 = .ok (.ireturn, 1) := by decide +kernel
theorem dX11_count_90 : decode cX11_count 90 = .ok (.aload_n 0, 1) := by decide +kernel
theorem dX11_count_91 : decode cX11_count 91 = .ok (.getfield 69, 3) := by decide +kernel
theorem dX11_count_94 : decode cX11_count 94 = .ok (.ireturn, 1) := by decide +kernel
theorem dX11_count_95 : decode cX11_count 95 = .ok (.aload_n 0, 1) := by decide +kernel
theorem dX11_count_96 : decode cX11_count 96 = .ok (.getfield 66, 3) := by decide +kernel
theorem dX11_count_99 : decode cX11_count 99 = .ok (.ireturn, 1) := by decide +kernel
theorem dX11_count_100 : decode cX11_count 100 = .ok (.aload_n 0, 1) := by decide +kernel
theorem dX11_count_101 : decode cX11_count 101 = .ok (.getfield 23, 3) := by decide +kernel
theorem dX11_count_104 : decode cX11_count 104 = .ok (.getfield 292, 3) := by decide +kernel
theorem dX11_count_107 : decode cX11_count 107 = .ok (.ireturn, 1) := by decide +kernel
theorem dX11_count_108 : decode cX11_count 108 = .ok (.aload_n 0, 1) := by decide +kernel
theorem dX11_count_109 : decode cX11_count 109 = .ok (.getfield 16, 3) := by decide +kernel
theorem dX11_count_112 : decode cX11_count 112 = .ok (.getfield 295, 3) := by decide +kernel
theorem dX11_count_115 : decode cX11_count 115 = .ok (.ireturn, 1) := by decide +kernel
theorem dX11_count_116 : decode cX11_count 116 = .ok (.aload_n 0, 1) := by decide +kernel
theorem dX11_count_117 : decode cX11_count 117 = .ok (.getfield 37, 3) := by decide +kernel
theorem dX11_count_120 : decode cX11_count 120 = .ok (.getfield 298, 3) := by decide +kernel
theorem dX11_count_123 : decode cX11_count 123 = .ok (.iload_n 1, 1) := by decide +kernel
theorem dX11_count_124 : decode cX11_count 124 = .ok (.bipush 8, 2) := by decide +kernel
theorem dX11_count_126 : decode cX11_count 126 = .ok (.isub, 1) := by decide +kernel
theorem dX11_count_127 : decode cX11_count 127 = .ok (.iaload, 1) := by decide +kernel
theorem dX11_count_128 : decode cX11_count 128 = .ok (.ireturn, 1) := by decide +kernel
theorem dX11_count_129 : decode cX11_count 129 = .ok (.iconst (-1), 1) := by decide +kernel
theorem dX11_count_130 : decode cX11_count 130 = .ok (.ireturn, 1) := by decide +kernel
theorem dX11_keep_0 : decode cX11_keep 0 = .ok (.aload_n 0, 1) := by decide +kernel
theorem dX11_keep_1 : decode cX11_keep 1 = .ok (.iload_n 1, 1) := by decide +kernel
theorem dX11_keep_2 : decode cX11_keep 2 = .ok (.invokevirtual 301, 3) := by decide +kernel
theorem dX11_keep_5 : decode cX11_keep 5 = .ok (.astore 4, 2) := by decide +kernel
theorem dX11_keep_7 : decode cX11_keep 7 = .ok (.aload 4, 2) := by decide +kernel
theorem dX11_keep_9 : decode cX11_keep 9 = .ok (.ifnonnull 5, 3) := by decide +kernel
theorem dX11_keep_12 : decode cX11_keep 12 = .ok (.iconst (-1), 1) := by decide +kernel
theorem dX11_keep_13 : decode cX11_keep 13 = .ok (.ireturn, 1) := by decide +kernel
theorem dX11_keep_14 : decode cX11_keep 14 = .ok (.iload_n 2, 1) := by decide +kernel
theorem dX11_keep_15 : decode cX11_keep 15 = .ok (.tableswitch 83 0 4 #[33, 43, 83, 57, 65], 33) := by decide +kernel
theorem dX11_keep_48 : decode cX11_keep 48 = .ok (.aload 4, 2) := by decide +kernel
theorem dX11_keep_50 : decode cX11_keep 50 = .ok (.aconst_null, 1) := by decide +kernel
theorem dX11_keep_51 : decode cX11_keep 51 = .ok (.aconst_null, 1) := by decide +kernel
theorem dX11_keep_52 : decode cX11_keep 52 = .ok (.iconst 0, 1) := by decide +kernel
theorem dX11_keep_53 : decode cX11_keep 53 = .ok (.invokevirtual 305, 3) := by decide +kernel
theorem dX11_keep_56 : decode cX11_keep 56 = .ok (.iconst 0, 1) := by decide +kernel
theorem dX11_keep_57 : decode cX11_keep 57 = .ok (.ireturn, 1) := by decide +kernel
theorem dX11_keep_58 : decode cX11_keep 58 = .ok (.aload 4, 2) := by decide +kernel
theorem dX11_keep_60 : decode cX11_keep 60 = .ok (.aload_n 0, 1) := by decide +kernel
theorem dX11_keep_61 : decode cX11_keep 61 = .ok (.getfield 37, 3) := by decide +kernel
theorem dX11_keep_64 : decode cX11_keep 64 = .ok (.iload_n 3, 1) := by decide +kernel
theorem dX11_keep_65 : decode cX11_keep 65 = .ok (.invokevirtual 218, 3) := by decide +kernel
theorem dX11_keep_68 : decode cX11_keep 68 = .ok (.invokestatic 309, 3) := by decide +kernel
theorem dX11_keep_71 : decode cX11_keep 71 = .ok (.ireturn, 1) := by decide +kernel
theorem dX11_keep_72 : decode cX11_keep 72 = .ok (.aload_n 0, 1) := by decide +kernel
theorem dX11_keep_73 : decode cX11_keep 73 = .ok (.aload 4, 2) := by decide +kernel
theorem dX11_keep_75 : decode cX11_keep 75 = .ok (.iload_n 3, 1) := by decide +kernel
theorem dX11_keep_76 : decode cX11_keep 76 = .ok (.invokevirtual 313, 3) := by decide +kernel
theorem dX11_keep_79 : decode cX11_keep 79 = .ok (.ireturn, 1) := by decide +kernel
theorem dX11_keep_80 : decode cX11_keep 80 = .ok (.aload 4, 2) := by decide +kernel
theorem dX11_keep_82 : decode cX11_keep 82 = .ok (.aconst_null, 1) := by decide +kernel
theorem dX11_keep_83 : decode cX11_keep 83 = .ok (.aload_n 0, 1) := by decide +kernel
theorem dX11_keep_84 : decode cX11_keep 84 = .ok (.getfield 9, 3) := by decide +kernel
theorem dX11_keep_87 : decode cX11_keep 87 = .ok (.bipush 13, 2) := by decide +kernel
theorem dX11_keep_89 : decode cX11_keep 89 = .ok (.invokestatic 317, 3) := by decide +kernel
theorem dX11_keep_92 : decode cX11_keep 92 = .ok (.iconst 0, 1) := by decide +kernel
theorem dX11_keep_93 : decode cX11_keep 93 = .ok (.invokevirtual 305, 3) := by decide +kernel
theorem dX11_keep_96 : decode cX11_keep 96 = .ok (.iconst 0, 1) := by decide +kernel
theorem dX11_keep_97 : decode cX11_keep 97 = .ok (.ireturn, 1) := by decide +kernel
theorem dX11_keep_98 : decode cX11_keep 98 = .ok (.iconst (-1), 1) := by decide +kernel
theorem dX11_keep_99 : decode cX11_keep 99 = .ok (.ireturn, 1) := by decide +kernel
theorem dX11_keepAsk_0 : decode cX11_keepAsk 0 = .ok (.aload_n 1, 1) := by decide +kernel
theorem dX11_keepAsk_1 : decode cX11_keepAsk 1 = .ok (.ifnonnull 5, 3) := by decide +kernel
theorem dX11_keepAsk_4 : decode cX11_keepAsk 4 = .ok (.iconst (-1), 1) := by decide +kernel
theorem dX11_keepAsk_5 : decode cX11_keepAsk 5 = .ok (.ireturn, 1) := by decide +kernel
theorem dX11_keepAsk_6 : decode cX11_keepAsk 6 = .ok (.aload_n 0, 1) := by decide +kernel
theorem dX11_keepAsk_7 : decode cX11_keepAsk 7 = .ok (.aload_n 1, 1) := by decide +kernel
theorem dX11_keepAsk_8 : decode cX11_keepAsk 8 = .ok (.aconst_null, 1) := by decide +kernel
theorem dX11_keepAsk_9 : decode cX11_keepAsk 9 = .ok (.iconst 0, 1) := by decide +kernel
theorem dX11_keepAsk_10 : decode cX11_keepAsk 10 = .ok (.invokevirtual 305, 3) := by decide +kernel
theorem dX11_keepAsk_13 : decode cX11_keepAsk 13 = .ok (.iconst 0, 1) := by decide +kernel
theorem dX11_keepAsk_14 : decode cX11_keepAsk 14 = .ok (.ireturn, 1) := by decide +kernel
theorem dX11_keepBytes_0 : decode cX11_keepBytes 0 = .ok (.iload_n 2, 1) := by decide +kernel
theorem dX11_keepBytes_1 : decode cX11_keepBytes 1 = .ok (.iconst 0, 1) := by decide +kernel
theorem dX11_keepBytes_2 : decode cX11_keepBytes 2 = .ok (.bipush 63, 2) := by decide +kernel
theorem dX11_keepBytes_4 : decode cX11_keepBytes 4 = .ok (.invokestatic 89, 3) := by decide +kernel
theorem dX11_keepBytes_7 : decode cX11_keepBytes 7 = .ok (.ifCond .ne 5, 3) := by decide +kernel
theorem dX11_keepBytes_10 : decode cX11_keepBytes 10 = .ok (.iconst (-1), 1) := by decide +kernel
theorem dX11_keepBytes_11 : decode cX11_keepBytes 11 = .ok (.ireturn, 1) := by decide +kernel
theorem dX11_keepBytes_12 : decode cX11_keepBytes 12 = .ok (.aload_n 1, 1) := by decide +kernel
theorem dX11_keepBytes_13 : decode cX11_keepBytes 13 = .ok (.aconst_null, 1) := by decide +kernel
theorem dX11_keepBytes_14 : decode cX11_keepBytes 14 = .ok (.aload_n 0, 1) := by decide +kernel
theorem dX11_keepBytes_15 : decode cX11_keepBytes 15 = .ok (.getfield 30, 3) := by decide +kernel
theorem dX11_keepBytes_18 : decode cX11_keepBytes 18 = .ok (.iload_n 2, 1) := by decide +kernel
theorem dX11_keepBytes_19 : decode cX11_keepBytes 19 = .ok (.bipush 16, 2) := by decide +kernel
theorem dX11_keepBytes_21 : decode cX11_keepBytes 21 = .ok (.idiv, 1) := by decide +kernel
theorem dX11_keepBytes_22 : decode cX11_keepBytes 22 = .ok (.iload_n 2, 1) := by decide +kernel
theorem dX11_keepBytes_23 : decode cX11_keepBytes 23 = .ok (.bipush 16, 2) := by decide +kernel
theorem dX11_keepBytes_25 : decode cX11_keepBytes 25 = .ok (.irem, 1) := by decide +kernel
theorem dX11_keepBytes_26 : decode cX11_keepBytes 26 = .ok (.invokevirtual 323, 3) := by decide +kernel
theorem dX11_keepBytes_29 : decode cX11_keepBytes 29 = .ok (.iconst 1, 1) := by decide +kernel
theorem dX11_keepBytes_30 : decode cX11_keepBytes 30 = .ok (.invokevirtual 305, 3) := by decide +kernel
theorem dX11_keepBytes_33 : decode cX11_keepBytes 33 = .ok (.iconst 0, 1) := by decide +kernel
theorem dX11_keepBytes_34 : decode cX11_keepBytes 34 = .ok (.ireturn, 1) := by decide +kernel
theorem dX11_make_0 : decode cX11_make 0 = .ok (.aload_n 0, 1) := by decide +kernel
theorem dX11_make_1 : decode cX11_make 1 = .ok (.iload_n 1, 1) := by decide +kernel
theorem dX11_make_2 : decode cX11_make 2 = .ok (.invokevirtual 301, 3) := by decide +kernel
theorem dX11_make_5 : decode cX11_make 5 = .ok (.astore 4, 2) := by decide +kernel
theorem dX11_make_7 : decode cX11_make 7 = .ok (.aload 4, 2) := by decide +kernel
theorem dX11_make_9 : decode cX11_make 9 = .ok (.ifnull 19, 3) := by decide +kernel
theorem dX11_make_12 : decode cX11_make 12 = .ok (.iload_n 2, 1) := by decide +kernel
theorem dX11_make_13 : decode cX11_make 13 = .ok (.iconst 3, 1) := by decide +kernel
theorem dX11_make_14 : decode cX11_make 14 = .ok (.if_icmp .eq 8, 3) := by decide +kernel
theorem dX11_make_17 : decode cX11_make 17 = .ok (.iload_n 2, 1) := by decide +kernel
theorem dX11_make_18 : decode cX11_make 18 = .ok (.iconst 4, 1) := by decide +kernel
theorem dX11_make_19 : decode cX11_make 19 = .ok (.if_icmp .ne 9, 3) := by decide +kernel
theorem dX11_make_22 : decode cX11_make 22 = .ok (.iload_n 3, 1) := by decide +kernel
theorem dX11_make_23 : decode cX11_make 23 = .ok (.bipush 60, 2) := by decide +kernel
theorem dX11_make_25 : decode cX11_make 25 = .ok (.if_icmp .le 5, 3) := by decide +kernel
theorem dX11_make_28 : decode cX11_make 28 = .ok (.iconst (-1), 1) := by decide +kernel
theorem dX11_make_29 : decode cX11_make 29 = .ok (.ireturn, 1) := by decide +kernel
theorem dX11_make_30 : decode cX11_make 30 = .ok (.iload_n 3, 1) := by decide +kernel
theorem dX11_make_31 : decode cX11_make 31 = .ok (.ifCond .ge 6, 3) := by decide +kernel
theorem dX11_make_34 : decode cX11_make 34 = .ok (.bipush (-14), 2) := by decide +kernel
theorem dX11_make_36 : decode cX11_make 36 = .ok (.ireturn, 1) := by decide +kernel
theorem dX11_make_37 : decode cX11_make 37 = .ok (.aload 4, 2) := by decide +kernel
theorem dX11_make_39 : decode cX11_make 39 = .ok (.aconst_null, 1) := by decide +kernel
theorem dX11_make_40 : decode cX11_make 40 = .ok (.iload_n 3, 1) := by decide +kernel
theorem dX11_make_41 : decode cX11_make 41 = .ok (.newarray .int, 2) := by decide +kernel
theorem dX11_make_43 : decode cX11_make 43 = .ok (.iload_n 2, 1) := by decide +kernel
theorem dX11_make_44 : decode cX11_make 44 = .ok (.iconst 3, 1) := by decide +kernel
theorem dX11_make_45 : decode cX11_make 45 = .ok (.if_icmp .ne 7, 3) := by decide +kernel
theorem dX11_make_48 : decode cX11_make 48 = .ok (.iconst 1, 1) := by decide +kernel
theorem dX11_make_49 : decode cX11_make 49 = .ok (.goto 4, 3) := by decide +kernel
theorem dX11_make_52 : decode cX11_make 52 = .ok (.iconst 0, 1) := by decide +kernel
theorem dX11_make_53 : decode cX11_make 53 = .ok (.invokevirtual 305, 3) := by decide +kernel
theorem dX11_make_56 : decode cX11_make 56 = .ok (.iconst 0, 1) := by decide +kernel
theorem dX11_make_57 : decode cX11_make 57 = .ok (.ireturn, 1) := by decide +kernel
theorem dX11_element_0 : decode cX11_element 0 = .ok (.aload_n 0, 1) := by decide +kernel
theorem dX11_element_1 : decode cX11_element 1 = .ok (.iload_n 1, 1) := by decide +kernel
theorem dX11_element_2 : decode cX11_element 2 = .ok (.invokevirtual 301, 3) := by decide +kernel
theorem dX11_element_5 : decode cX11_element 5 = .ok (.astore_n 3, 1) := by decide +kernel
theorem dX11_element_6 : decode cX11_element 6 = .ok (.aload_n 3, 1) := by decide +kernel
theorem dX11_element_7 : decode cX11_element 7 = .ok (.ifnonnull 14, 3) := by decide +kernel
theorem dX11_element_10 : decode cX11_element 10 = .ok (.new 327, 3) := by decide +kernel
theorem dX11_element_13 : decode cX11_element 13 = .ok (.dup, 1) := by decide +kernel
theorem dX11_element_14 : decode cX11_element 14 = .ok (.ldc_w 329, 3) := by decide +kernel
theorem dX11_element_17 : decode cX11_element 17 = .ok (.invokespecial 331, 3) := by decide +kernel
theorem dX11_element_20 : decode cX11_element 20 = .ok (.athrow, 1) := by decide +kernel
theorem dX11_element_21 : decode cX11_element 21 = .ok (.aload_n 3, 1) := by decide +kernel
theorem dX11_element_22 : decode cX11_element 22 = .ok (.getfield 334, 3) := by decide +kernel
theorem dX11_element_25 : decode cX11_element 25 = .ok (.astore 4, 2) := by decide +kernel
theorem dX11_element_27 : decode cX11_element 27 = .ok (.aload 4, 2) := by decide +kernel
theorem dX11_element_29 : decode cX11_element 29 = .ok (.ifnonnull 14, 3) := by decide +kernel
theorem dX11_element_32 : decode cX11_element 32 = .ok (.new 337, 3) := by decide +kernel
theorem dX11_element_35 : decode cX11_element 35 = .ok (.dup, 1) := by decide +kernel
theorem dX11_element_36 : decode cX11_element 36 = .ok (.ldc_w 339, 3) := by decide +kernel
theorem dX11_element_39 : decode cX11_element 39 = .ok (.invokespecial 341, 3) := by decide +kernel
theorem dX11_element_42 : decode cX11_element 42 = .ok (.athrow, 1) := by decide +kernel
theorem dX11_element_43 : decode cX11_element 43 = .ok (.iload_n 2, 1) := by decide +kernel
theorem dX11_element_44 : decode cX11_element 44 = .ok (.ifCond .lt 10, 3) := by decide +kernel
theorem dX11_element_47 : decode cX11_element 47 = .ok (.iload_n 2, 1) := by decide +kernel
theorem dX11_element_48 : decode cX11_element 48 = .ok (.aload 4, 2) := by decide +kernel
theorem dX11_element_50 : decode cX11_element 50 = .ok (.arraylength, 1) := by decide +kernel
theorem dX11_element_51 : decode cX11_element 51 = .ok (.if_icmp .lt 14, 3) := by decide +kernel
theorem dX11_element_54 : decode cX11_element 54 = .ok (.new 337, 3) := by decide +kernel
theorem dX11_element_57 : decode cX11_element 57 = .ok (.dup, 1) := by decide +kernel
theorem dX11_element_58 : decode cX11_element 58 = .ok (.ldc_w 342, 3) := by decide +kernel
theorem dX11_element_61 : decode cX11_element 61 = .ok (.invokespecial 341, 3) := by decide +kernel
theorem dX11_element_64 : decode cX11_element 64 = .ok (.athrow, 1) := by decide +kernel
theorem dX11_element_65 : decode cX11_element 65 = .ok (.aload 4, 2) := by decide +kernel
theorem dX11_element_67 : decode cX11_element 67 = .ok (.iload_n 2, 1) := by decide +kernel
theorem dX11_element_68 : decode cX11_element 68 = .ok (.iaload, 1) := by decide +kernel
theorem dX11_element_69 : decode cX11_element 69 = .ok (.i2l, 1) := by decide +kernel
theorem dX11_element_70 : decode cX11_element 70 = .ok (.lreturn, 1) := by decide +kernel
theorem dX11_copy_0 : decode cX11_copy 0 = .ok (.aload_n 0, 1) := by decide +kernel
theorem dX11_copy_1 : decode cX11_copy 1 = .ok (.iload_n 1, 1) := by decide +kernel
theorem dX11_copy_2 : decode cX11_copy 2 = .ok (.invokevirtual 301, 3) := by decide +kernel
theorem dX11_copy_5 : decode cX11_copy 5 = .ok (.astore 6, 2) := by decide +kernel
theorem dX11_copy_7 : decode cX11_copy 7 = .ok (.aload_n 0, 1) := by decide +kernel
theorem dX11_copy_8 : decode cX11_copy 8 = .ok (.iload_n 3, 1) := by decide +kernel
theorem dX11_copy_9 : decode cX11_copy 9 = .ok (.invokevirtual 301, 3) := by decide +kernel
theorem dX11_copy_12 : decode cX11_copy 12 = .ok (.astore 7, 2) := by decide +kernel
theorem dX11_copy_14 : decode cX11_copy 14 = .ok (.aload 6, 2) := by decide +kernel
theorem dX11_copy_16 : decode cX11_copy 16 = .ok (.ifnull 8, 3) := by decide +kernel
theorem dX11_copy_19 : decode cX11_copy 19 = .ok (.aload 7, 2) := by decide +kernel
theorem dX11_copy_21 : decode cX11_copy 21 = .ok (.ifnonnull 5, 3) := by decide +kernel
theorem dX11_copy_24 : decode cX11_copy 24 = .ok (.iconst (-1), 1) := by decide +kernel
theorem dX11_copy_25 : decode cX11_copy 25 = .ok (.ireturn, 1) := by decide +kernel
theorem dX11_copy_26 : decode cX11_copy 26 = .ok (.aload 6, 2) := by decide +kernel
theorem dX11_copy_28 : decode cX11_copy 28 = .ok (.invokevirtual 344, 3) := by decide +kernel
theorem dX11_copy_31 : decode cX11_copy 31 = .ok (.ifCond .ne 11, 3) := by decide +kernel
theorem dX11_copy_34 : decode cX11_copy 34 = .ok (.aload 7, 2) := by decide +kernel
theorem dX11_copy_36 : decode cX11_copy 36 = .ok (.invokevirtual 344, 3) := by decide +kernel
theorem dX11_copy_39 : decode cX11_copy 39 = .ok (.ifCond .eq 6, 3) := by decide +kernel
theorem dX11_copy_42 : decode cX11_copy 42 = .ok (.bipush (-11), 2) := by decide +kernel
theorem dX11_copy_44 : decode cX11_copy 44 = .ok (.ireturn, 1) := by decide +kernel
theorem dX11_copy_45 : decode cX11_copy 45 = .ok (.aload 6, 2) := by decide +kernel
theorem dX11_copy_47 : decode cX11_copy 47 = .ok (.getfield 334, 3) := by decide +kernel
theorem dX11_copy_50 : decode cX11_copy 50 = .ok (.astore 8, 2) := by decide +kernel
theorem dX11_copy_52 : decode cX11_copy 52 = .ok (.aload 7, 2) := by decide +kernel
theorem dX11_copy_54 : decode cX11_copy 54 = .ok (.getfield 334, 3) := by decide +kernel
theorem dX11_copy_57 : decode cX11_copy 57 = .ok (.astore 9, 2) := by decide +kernel
theorem dX11_copy_59 : decode cX11_copy 59 = .ok (.aload 8, 2) := by decide +kernel
theorem dX11_copy_61 : decode cX11_copy 61 = .ok (.ifnull 21, 3) := by decide +kernel
theorem dX11_copy_64 : decode cX11_copy 64 = .ok (.aload 9, 2) := by decide +kernel
theorem dX11_copy_66 : decode cX11_copy 66 = .ok (.ifnull 16, 3) := by decide +kernel
theorem dX11_copy_69 : decode cX11_copy 69 = .ok (.aload 6, 2) := by decide +kernel
theorem dX11_copy_71 : decode cX11_copy 71 = .ok (.getfield 348, 3) := by decide +kernel
theorem dX11_copy_74 : decode cX11_copy 74 = .ok (.aload 7, 2) := by decide +kernel
theorem dX11_copy_76 : decode cX11_copy 76 = .ok (.getfield 348, 3) := by decide +kernel
theorem dX11_copy_79 : decode cX11_copy 79 = .ok (.if_icmp .eq 6, 3) := by decide +kernel
theorem dX11_copy_82 : decode cX11_copy 82 = .ok (.bipush (-12), 2) := by decide +kernel
theorem dX11_copy_84 : decode cX11_copy 84 = .ok (.ireturn, 1) := by decide +kernel
theorem dX11_copy_85 : decode cX11_copy 85 = .ok (.aload 8, 2) := by decide +kernel
theorem dX11_copy_87 : decode cX11_copy 87 = .ok (.iload_n 2, 1) := by decide +kernel
theorem dX11_copy_88 : decode cX11_copy 88 = .ok (.iload 5, 2) := by decide +kernel
theorem dX11_copy_90 : decode cX11_copy 90 = .ok (.invokestatic 352, 3) := by decide +kernel
theorem dX11_copy_93 : decode cX11_copy 93 = .ok (.ifCond .eq 15, 3) := by decide +kernel
theorem dX11_copy_96 : decode cX11_copy 96 = .ok (.aload 9, 2) := by decide +kernel
theorem dX11_copy_98 : decode cX11_copy 98 = .ok (.iload 4, 2) := by decide +kernel
theorem dX11_copy_100 : decode cX11_copy 100 = .ok (.iload 5, 2) := by decide +kernel
theorem dX11_copy_102 : decode cX11_copy 102 = .ok (.invokestatic 352, 3) := by decide +kernel
theorem dX11_copy_105 : decode cX11_copy 105 = .ok (.ifCond .ne 6, 3) := by decide +kernel
theorem dX11_copy_108 : decode cX11_copy 108 = .ok (.bipush (-13), 2) := by decide +kernel
theorem dX11_copy_110 : decode cX11_copy 110 = .ok (.ireturn, 1) := by decide +kernel
theorem dX11_copy_111 : decode cX11_copy 111 = .ok (.aload 8, 2) := by decide +kernel
theorem dX11_copy_113 : decode cX11_copy 113 = .ok (.iload_n 2, 1) := by decide +kernel
theorem dX11_copy_114 : decode cX11_copy 114 = .ok (.aload 9, 2) := by decide +kernel
theorem dX11_copy_116 : decode cX11_copy 116 = .ok (.iload 4, 2) := by decide +kernel
theorem dX11_copy_118 : decode cX11_copy 118 = .ok (.iload 5, 2) := by decide +kernel
theorem dX11_copy_120 : decode cX11_copy 120 = .ok (.invokestatic 82, 3) := by decide +kernel
theorem dX11_copy_123 : decode cX11_copy 123 = .ok (.iload 5, 2) := by decide +kernel
theorem dX11_copy_125 : decode cX11_copy 125 = .ok (.ireturn, 1) := by decide +kernel
theorem dX11_weight_0 : decode cX11_weight 0 = .ok (.aload_n 0, 1) := by decide +kernel
theorem dX11_weight_1 : decode cX11_weight 1 = .ok (.iload_n 1, 1) := by decide +kernel
theorem dX11_weight_2 : decode cX11_weight 2 = .ok (.invokevirtual 301, 3) := by decide +kernel
theorem dX11_weight_5 : decode cX11_weight 5 = .ok (.astore_n 2, 1) := by decide +kernel
theorem dX11_weight_6 : decode cX11_weight 6 = .ok (.aload_n 2, 1) := by decide +kernel
theorem dX11_weight_7 : decode cX11_weight 7 = .ok (.ifnonnull 5, 3) := by decide +kernel
theorem dX11_weight_10 : decode cX11_weight 10 = .ok (.iconst (-1), 1) := by decide +kernel
theorem dX11_weight_11 : decode cX11_weight 11 = .ok (.ireturn, 1) := by decide +kernel
theorem dX11_weight_12 : decode cX11_weight 12 = .ok (.aload_n 2, 1) := by decide +kernel
theorem dX11_weight_13 : decode cX11_weight 13 = .ok (.getfield 356, 3) := by decide +kernel
theorem dX11_weight_16 : decode cX11_weight 16 = .ok (.astore_n 3, 1) := by decide +kernel
theorem dX11_weight_17 : decode cX11_weight 17 = .ok (.aload_n 3, 1) := by decide +kernel
theorem dX11_weight_18 : decode cX11_weight 18 = .ok (.ifnonnull 10, 3) := by decide +kernel
theorem dX11_weight_21 : decode cX11_weight 21 = .ok (.aload_n 2, 1) := by decide +kernel
theorem dX11_weight_22 : decode cX11_weight 22 = .ok (.invokevirtual 359, 3) := by decide +kernel
theorem dX11_weight_25 : decode cX11_weight 25 = .ok (.goto 7, 3) := by decide +kernel
theorem dX11_weight_28 : decode cX11_weight 28 = .ok (.aload_n 3, 1) := by decide +kernel
theorem dX11_weight_29 : decode cX11_weight 29 = .ok (.invokevirtual 362, 3) := by decide +kernel
theorem dX11_weight_32 : decode cX11_weight 32 = .ok (.ireturn, 1) := by decide +kernel
theorem dX11_toss_0 : decode cX11_toss 0 = .ok (.aload_n 0, 1) := by decide +kernel
theorem dX11_toss_1 : decode cX11_toss 1 = .ok (.iload_n 1, 1) := by decide +kernel
theorem dX11_toss_2 : decode cX11_toss 2 = .ok (.invokevirtual 301, 3) := by decide +kernel
theorem dX11_toss_5 : decode cX11_toss 5 = .ok (.astore_n 2, 1) := by decide +kernel
theorem dX11_toss_6 : decode cX11_toss 6 = .ok (.aload_n 2, 1) := by decide +kernel
theorem dX11_toss_7 : decode cX11_toss 7 = .ok (.ifnonnull 5, 3) := by decide +kernel
theorem dX11_toss_10 : decode cX11_toss 10 = .ok (.iconst (-1), 1) := by decide +kernel
theorem dX11_toss_11 : decode cX11_toss 11 = .ok (.ireturn, 1) := by decide +kernel
theorem dX11_toss_12 : decode cX11_toss 12 = .ok (.aload_n 2, 1) := by decide +kernel
theorem dX11_toss_13 : decode cX11_toss 13 = .ok (.getfield 356, 3) := by decide +kernel
theorem dX11_toss_16 : decode cX11_toss 16 = .ok (.astore_n 3, 1) := by decide +kernel
theorem dX11_toss_17 : decode cX11_toss 17 = .ok (.aload_n 3, 1) := by decide +kernel
theorem dX11_toss_18 : decode cX11_toss 18 = .ok (.ifnonnull 8, 3) := by decide +kernel
theorem dX11_toss_21 : decode cX11_toss 21 = .ok (.aload_n 2, 1) := by decide +kernel
theorem dX11_toss_22 : decode cX11_toss 22 = .ok (.invokevirtual 359, 3) := by decide +kernel
theorem dX11_toss_25 : decode cX11_toss 25 = .ok (.ireturn, 1) := by decide +kernel
theorem dX11_toss_26 : decode cX11_toss 26 = .ok (.aload_n 3, 1) := by decide +kernel
theorem dX11_toss_27 : decode cX11_toss 27 = .ok (.invokevirtual 365, 3) := by decide +kernel
theorem dX11_toss_30 : decode cX11_toss 30 = .ok (.goto 10, 3) := by decide +kernel
theorem dX11_toss_33 : decode cX11_toss 33 = .ok (.astore 4, 2) := by decide +kernel
theorem dX11_toss_35 : decode cX11_toss 35 = .ok (.aload_n 3, 1) := by decide +kernel
theorem dX11_toss_36 : decode cX11_toss 36 = .ok (.getfield 238, 3) := by decide +kernel
theorem dX11_toss_39 : decode cX11_toss 39 = .ok (.ireturn, 1) := by decide +kernel
theorem dX11_toss_40 : decode cX11_toss 40 = .ok (.bipush (-15), 2) := by decide +kernel
theorem dX11_toss_42 : decode cX11_toss 42 = .ok (.ireturn, 1) := by decide +kernel
theorem dX11_findShelf_0 : decode cX11_findShelf 0 = .ok (.iload_n 1, 1) := by decide +kernel
theorem dX11_findShelf_1 : decode cX11_findShelf 1 = .ok (.ifCond .lt 9, 3) := by decide +kernel
theorem dX11_findShelf_4 : decode cX11_findShelf 4 = .ok (.iload_n 1, 1) := by decide +kernel
theorem dX11_findShelf_5 : decode cX11_findShelf 5 = .ok (.bipush 8, 2) := by decide +kernel
theorem dX11_findShelf_7 : decode cX11_findShelf 7 = .ok (.if_icmp .lt 7, 3) := by decide +kernel
theorem dX11_findShelf_10 : decode cX11_findShelf 10 = .ok (.aconst_null, 1) := by decide +kernel
theorem dX11_findShelf_11 : decode cX11_findShelf 11 = .ok (.goto 9, 3) := by decide +kernel
theorem dX11_findShelf_14 : decode cX11_findShelf 14 = .ok (.aload_n 0, 1) := by decide +kernel
theorem dX11_findShelf_15 : decode cX11_findShelf 15 = .ok (.getfield 43, 3) := by decide +kernel
theorem dX11_findShelf_18 : decode cX11_findShelf 18 = .ok (.iload_n 1, 1) := by decide +kernel
theorem dX11_findShelf_19 : decode cX11_findShelf 19 = .ok (.aaload, 1) := by decide +kernel
theorem dX11_findShelf_20 : decode cX11_findShelf 20 = .ok (.areturn, 1) := by decide +kernel
theorem dX11_isWithin_0 : decode cX11_isWithin 0 = .ok (.iload_n 0, 1) := by decide +kernel
theorem dX11_isWithin_1 : decode cX11_isWithin 1 = .ok (.iload_n 1, 1) := by decide +kernel
theorem dX11_isWithin_2 : decode cX11_isWithin 2 = .ok (.if_icmp .lt 12, 3) := by decide +kernel
theorem dX11_isWithin_5 : decode cX11_isWithin 5 = .ok (.iload_n 0, 1) := by decide +kernel
theorem dX11_isWithin_6 : decode cX11_isWithin 6 = .ok (.iload_n 2, 1) := by decide +kernel
theorem dX11_isWithin_7 : decode cX11_isWithin 7 = .ok (.if_icmp .gt 7, 3) := by decide +kernel
theorem dX11_isWithin_10 : decode cX11_isWithin 10 = .ok (.iconst 1, 1) := by decide +kernel
theorem dX11_isWithin_11 : decode cX11_isWithin 11 = .ok (.goto 4, 3) := by decide +kernel
theorem dX11_isWithin_14 : decode cX11_isWithin 14 = .ok (.iconst 0, 1) := by decide +kernel
theorem dX11_isWithin_15 : decode cX11_isWithin 15 = .ok (.ireturn, 1) := by decide +kernel
theorem dX11_isAsker_0 : decode cX11_isAsker 0 = .ok (.iload_n 0, 1) := by decide +kernel
theorem dX11_isAsker_1 : decode cX11_isAsker 1 = .ok (.iconst 0, 1) := by decide +kernel
theorem dX11_isAsker_2 : decode cX11_isAsker 2 = .ok (.iconst 3, 1) := by decide +kernel
theorem dX11_isAsker_3 : decode cX11_isAsker 3 = .ok (.invokestatic 89, 3) := by decide +kernel
theorem dX11_isAsker_6 : decode cX11_isAsker 6 = .ok (.ireturn, 1) := by decide +kernel
theorem dX11_isBank_0 : decode cX11_isBank 0 = .ok (.iload_n 0, 1) := by decide +kernel
theorem dX11_isBank_1 : decode cX11_isBank 1 = .ok (.iconst 0, 1) := by decide +kernel
theorem dX11_isBank_2 : decode cX11_isBank 2 = .ok (.iconst 3, 1) := by decide +kernel
theorem dX11_isBank_3 : decode cX11_isBank 3 = .ok (.invokestatic 89, 3) := by decide +kernel
theorem dX11_isBank_6 : decode cX11_isBank 6 = .ok (.ireturn, 1) := by decide +kernel
theorem dX11_isAddress_0 : decode cX11_isAddress 0 = .ok (.iload_n 0, 1) := by decide +kernel
theorem dX11_isAddress_1 : decode cX11_isAddress 1 = .ok (.iconst 0, 1) := by decide +kernel
theorem dX11_isAddress_2 : decode cX11_isAddress 2 = .ok (.sipush 1023, 3) := by decide +kernel
theorem dX11_isAddress_5 : decode cX11_isAddress 5 = .ok (.invokestatic 89, 3) := by decide +kernel
theorem dX11_isAddress_8 : decode cX11_isAddress 8 = .ok (.ireturn, 1) := by decide +kernel
theorem dX11_isOctet_0 : decode cX11_isOctet 0 = .ok (.iload_n 0, 1) := by decide +kernel
theorem dX11_isOctet_1 : decode cX11_isOctet 1 = .ok (.iconst 0, 1) := by decide +kernel
theorem dX11_isOctet_2 : decode cX11_isOctet 2 = .ok (.sipush 255, 3) := by decide +kernel
theorem dX11_isOctet_5 : decode cX11_isOctet 5 = .ok (.invokestatic 89, 3) := by decide +kernel
theorem dX11_isOctet_8 : decode cX11_isOctet 8 = .ok (.ireturn, 1) := by decide +kernel
theorem dX11_hasSpan_0 : decode cX11_hasSpan 0 = .ok (.iload_n 2, 1) := by decide +kernel
theorem dX11_hasSpan_1 : decode cX11_hasSpan 1 = .ok (.ifCond .lt 25, 3) := by decide +kernel
theorem dX11_hasSpan_4 : decode cX11_hasSpan 4 = .ok (.iload_n 1, 1) := by decide +kernel
theorem dX11_hasSpan_5 : decode cX11_hasSpan 5 = .ok (.iconst 0, 1) := by decide +kernel
theorem dX11_hasSpan_6 : decode cX11_hasSpan 6 = .ok (.aload_n 0, 1) := by decide +kernel
theorem dX11_hasSpan_7 : decode cX11_hasSpan 7 = .ok (.arraylength, 1) := by decide +kernel
theorem dX11_hasSpan_8 : decode cX11_hasSpan 8 = .ok (.invokestatic 89, 3) := by decide +kernel
theorem dX11_hasSpan_11 : decode cX11_hasSpan 11 = .ok (.ifCond .eq 15, 3) := by decide +kernel
theorem dX11_hasSpan_14 : decode cX11_hasSpan 14 = .ok (.iload_n 2, 1) := by decide +kernel
theorem dX11_hasSpan_15 : decode cX11_hasSpan 15 = .ok (.aload_n 0, 1) := by decide +kernel
theorem dX11_hasSpan_16 : decode cX11_hasSpan 16 = .ok (.arraylength, 1) := by decide +kernel
theorem dX11_hasSpan_17 : decode cX11_hasSpan 17 = .ok (.iload_n 1, 1) := by decide +kernel
theorem dX11_hasSpan_18 : decode cX11_hasSpan 18 = .ok (.isub, 1) := by decide +kernel
theorem dX11_hasSpan_19 : decode cX11_hasSpan 19 = .ok (.if_icmp .gt 7, 3) := by decide +kernel
theorem dX11_hasSpan_22 : decode cX11_hasSpan 22 = .ok (.iconst 1, 1) := by decide +kernel
theorem dX11_hasSpan_23 : decode cX11_hasSpan 23 = .ok (.goto 4, 3) := by decide +kernel
theorem dX11_hasSpan_26 : decode cX11_hasSpan 26 = .ok (.iconst 0, 1) := by decide +kernel
theorem dX11_hasSpan_27 : decode cX11_hasSpan 27 = .ok (.ireturn, 1) := by decide +kernel
end
section
theorem dX12_init_0 : decode cX12_init 0 = .ok (.aload_n 0, 1) := by decide +kernel
theorem dX12_init_1 : decode cX12_init 1 = .ok (.invokespecial 1, 3) := by decide +kernel
theorem dX12_init_4 : decode cX12_init 4 = .ok (.aload_n 0, 1) := by decide +kernel
theorem dX12_init_5 : decode cX12_init 5 = .ok (.bipush 13, 2) := by decide +kernel
theorem dX12_init_7 : decode cX12_init 7 = .ok (.newarray .int, 2) := by decide +kernel
theorem dX12_init_9 : decode cX12_init 9 = .ok (.dup, 1) := by decide +kernel
theorem dX12_init_10 : decode cX12_init 10 = .ok (.iconst 0, 1) := by decide +kernel
theorem dX12_init_11 : decode cX12_init 11 = .ok (.iconst 3, 1) := by decide +kernel
theorem dX12_init_12 : decode cX12_init 12 = .ok (.iastore, 1) := by decide +kernel
theorem dX12_init_13 : decode cX12_init 13 = .ok (.dup, 1) := by decide +kernel
theorem dX12_init_14 : decode cX12_init 14 = .ok (.iconst 1, 1) := by decide +kernel
theorem dX12_init_15 : decode cX12_init 15 = .ok (.bipush 8, 2) := by decide +kernel
theorem dX12_init_17 : decode cX12_init 17 = .ok (.iastore, 1) := by decide +kernel
theorem dX12_init_18 : decode cX12_init 18 = .ok (.dup, 1) := by decide +kernel
theorem dX12_init_19 : decode cX12_init 19 = .ok (.iconst 2, 1) := by decide +kernel
theorem dX12_init_20 : decode cX12_init 20 = .ok (.iconst 3, 1) := by decide +kernel
theorem dX12_init_21 : decode cX12_init 21 = .ok (.iastore, 1) := by decide +kernel
theorem dX12_init_22 : decode cX12_init 22 = .ok (.dup, 1) := by decide +kernel
theorem dX12_init_23 : decode cX12_init 23 = .ok (.iconst 3, 1) := by decide +kernel
theorem dX12_init_24 : decode cX12_init 24 = .ok (.iconst 2, 1) := by decide +kernel
theorem dX12_init_25 : decode cX12_init 25 = .ok (.iastore, 1) := by decide +kernel
theorem dX12_init_26 : decode cX12_init 26 = .ok (.dup, 1) := by decide +kernel
theorem dX12_init_27 : decode cX12_init 27 = .ok (.iconst 4, 1) := by decide +kernel
theorem dX12_init_28 : decode cX12_init 28 = .ok (.iconst 4, 1) := by decide +kernel
theorem dX12_init_29 : decode cX12_init 29 = .ok (.iastore, 1) := by decide +kernel
theorem dX12_init_30 : decode cX12_init 30 = .ok (.dup, 1) := by decide +kernel
theorem dX12_init_31 : decode cX12_init 31 = .ok (.iconst 5, 1) := by decide +kernel
theorem dX12_init_32 : decode cX12_init 32 = .ok (.iconst 4, 1) := by decide +kernel
theorem dX12_init_33 : decode cX12_init 33 = .ok (.iastore, 1) := by decide +kernel
theorem dX12_init_34 : decode cX12_init 34 = .ok (.dup, 1) := by decide +kernel
theorem dX12_init_35 : decode cX12_init 35 = .ok (.bipush 6, 2) := by decide +kernel
theorem dX12_init_37 : decode cX12_init 37 = .ok (.iconst 2, 1) := by decide +kernel
theorem dX12_init_38 : decode cX12_init 38 = .ok (.iastore, 1) := by decide +kernel
theorem dX12_init_39 : decode cX12_init 39 = .ok (.dup, 1) := by decide +kernel
theorem dX12_init_40 : decode cX12_init 40 = .ok (.bipush 7, 2) := by decide +kernel
theorem dX12_init_42 : decode cX12_init 42 = .ok (.iconst 5, 1) := by decide +kernel
theorem dX12_init_43 : decode cX12_init 43 = .ok (.iastore, 1) := by decide +kernel
theorem dX12_init_44 : decode cX12_init 44 = .ok (.dup, 1) := by decide +kernel
theorem dX12_init_45 : decode cX12_init 45 = .ok (.bipush 8, 2) := by decide +kernel
theorem dX12_init_47 : decode cX12_init 47 = .ok (.bipush 6, 2) := by decide +kernel
theorem dX12_init_49 : decode cX12_init 49 = .ok (.iastore, 1) := by decide +kernel
theorem dX12_init_50 : decode cX12_init 50 = .ok (.dup, 1) := by decide +kernel
theorem dX12_init_51 : decode cX12_init 51 = .ok (.bipush 9, 2) := by decide +kernel
theorem dX12_init_53 : decode cX12_init 53 = .ok (.iconst 2, 1) := by decide +kernel
theorem dX12_init_54 : decode cX12_init 54 = .ok (.iastore, 1) := by decide +kernel
theorem dX12_init_55 : decode cX12_init 55 = .ok (.dup, 1) := by decide +kernel
theorem dX12_init_56 : decode cX12_init 56 = .ok (.bipush 10, 2) := by decide +kernel
theorem dX12_init_58 : decode cX12_init 58 = .ok (.bipush 12, 2) := by decide +kernel
theorem dX12_init_60 : decode cX12_init 60 = .ok (.iastore, 1) := by decide +kernel
theorem dX12_init_61 : decode cX12_init 61 = .ok (.dup, 1) := by decide +kernel
theorem dX12_init_62 : decode cX12_init 62 = .ok (.bipush 11, 2) := by decide +kernel
theorem dX12_init_64 : decode cX12_init 64 = .ok (.bipush 10, 2) := by decide +kernel
theorem dX12_init_66 : decode cX12_init 66 = .ok (.iastore, 1) := by decide +kernel
theorem dX12_init_67 : decode cX12_init 67 = .ok (.dup, 1) := by decide +kernel
theorem dX12_init_68 : decode cX12_init 68 = .ok (.bipush 12, 2) := by decide +kernel
theorem dX12_init_70 : decode cX12_init 70 = .ok (.iconst 3, 1) := by decide +kernel
theorem dX12_init_71 : decode cX12_init 71 = .ok (.iastore, 1) := by decide +kernel
theorem dX12_init_72 : decode cX12_init 72 = .ok (.putfield 7, 3) := by decide +kernel
theorem dX12_init_75 : decode cX12_init 75 = .ok (.aload_n 0, 1) := by decide +kernel
theorem dX12_init_76 : decode cX12_init 76 = .ok (.iconst 4, 1) := by decide +kernel
theorem dX12_init_77 : decode cX12_init 77 = .ok (.putfield 13, 3) := by decide +kernel
theorem dX12_init_80 : decode cX12_init 80 = .ok (.aload_n 0, 1) := by decide +kernel
theorem dX12_init_81 : decode cX12_init 81 = .ok (.iconst 4, 1) := by decide +kernel
theorem dX12_init_82 : decode cX12_init 82 = .ok (.putfield 17, 3) := by decide +kernel
theorem dX12_init_85 : decode cX12_init 85 = .ok (.aload_n 0, 1) := by decide +kernel
theorem dX12_init_86 : decode cX12_init 86 = .ok (.iconst 1, 1) := by decide +kernel
theorem dX12_init_87 : decode cX12_init 87 = .ok (.putfield 20, 3) := by decide +kernel
theorem dX12_init_90 : decode cX12_init 90 = .ok (.aload_n 0, 1) := by decide +kernel
theorem dX12_init_91 : decode cX12_init 91 = .ok (.iconst 4, 1) := by decide +kernel
theorem dX12_init_92 : decode cX12_init 92 = .ok (.newarray .int, 2) := by decide +kernel
theorem dX12_init_94 : decode cX12_init 94 = .ok (.dup, 1) := by decide +kernel
theorem dX12_init_95 : decode cX12_init 95 = .ok (.iconst 0, 1) := by decide +kernel
theorem dX12_init_96 : decode cX12_init 96 = .ok (.bipush (-2), 2) := by decide +kernel
theorem dX12_init_98 : decode cX12_init 98 = .ok (.iastore, 1) := by decide +kernel
theorem dX12_init_99 : decode cX12_init 99 = .ok (.dup, 1) := by decide +kernel
theorem dX12_init_100 : decode cX12_init 100 = .ok (.iconst 1, 1) := by decide +kernel
theorem dX12_init_101 : decode cX12_init 101 = .ok (.bipush (-2), 2) := by decide +kernel
theorem dX12_init_103 : decode cX12_init 103 = .ok (.iastore, 1) := by decide +kernel
theorem dX12_init_104 : decode cX12_init 104 = .ok (.dup, 1) := by decide +kernel
theorem dX12_init_105 : decode cX12_init 105 = .ok (.iconst 2, 1) := by decide +kernel
theorem dX12_init_106 : decode cX12_init 106 = .ok (.bipush (-2), 2) := by decide +kernel
theorem dX12_init_108 : decode cX12_init 108 = .ok (.iastore, 1) := by decide +kernel
theorem dX12_init_109 : decode cX12_init 109 = .ok (.dup, 1) := by decide +kernel
theorem dX12_init_110 : decode cX12_init 110 = .ok (.iconst 3, 1) := by decide +kernel
theorem dX12_init_111 : decode cX12_init 111 = .ok (.bipush (-2), 2) := by decide +kernel
theorem dX12_init_113 : decode cX12_init 113 = .ok (.iastore, 1) := by decide +kernel
theorem dX12_init_114 : decode cX12_init 114 = .ok (.putfield 23, 3) := by decide +kernel
theorem dX12_init_117 : decode cX12_init 117 = .ok (.aload_n 0, 1) := by decide +kernel
theorem dX12_init_118 : decode cX12_init 118 = .ok (.sipush 1024, 3) := by decide +kernel
theorem dX12_init_121 : decode cX12_init 121 = .ok (.newarray .int, 2) := by decide +kernel
theorem dX12_init_123 : decode cX12_init 123 = .ok (.putfield 26, 3) := by decide +kernel
theorem dX12_init_126 : decode cX12_init 126 = .ok (.aload_n 0, 1) := by decide +kernel
theorem dX12_init_127 : decode cX12_init 127 = .ok (.sipush 400, 3) := by decide +kernel
theorem dX12_init_130 : decode cX12_init 130 = .ok (.newarray .int, 2) := by decide +kernel
theorem dX12_init_132 : decode cX12_init 132 = .ok (.putfield 29, 3) := by decide +kernel
theorem dX12_init_135 : decode cX12_init 135 = .ok (.aload_n 0, 1) := by decide +kernel
theorem dX12_init_136 : decode cX12_init 136 = .ok (.sipush 400, 3) := by decide +kernel
theorem dX12_init_139 : decode cX12_init 139 = .ok (.newarray .int, 2) := by decide +kernel
theorem dX12_init_141 : decode cX12_init 141 = .ok (.putfield 32, 3) := by decide +kernel
theorem dX12_init_144 : decode cX12_init 144 = .ok (.aload_n 0, 1) := by decide +kernel
theorem dX12_init_145 : decode cX12_init 145 = .ok (.sipush 400, 3) := by decide +kernel
theorem dX12_init_148 : decode cX12_init 148 = .ok (.newarray .int, 2) := by decide +kernel
theorem dX12_init_150 : decode cX12_init 150 = .ok (.putfield 35, 3) := by decide +kernel
theorem dX12_init_153 : decode cX12_init 153 = .ok (.aload_n 0, 1) := by decide +kernel
theorem dX12_init_154 : decode cX12_init 154 = .ok (.sipush 400, 3) := by decide +kernel
theorem dX12_init_157 : decode cX12_init 157 = .ok (.newarray .int, 2) := by decide +kernel
theorem dX12_init_159 : decode cX12_init 159 = .ok (.putfield 38, 3) := by decide +kernel
theorem dX12_init_162 : decode cX12_init 162 = .ok (.aload_n 0, 1) := by decide +kernel
theorem dX12_init_163 : decode cX12_init 163 = .ok (.sipush 400, 3) := by decide +kernel
theorem dX12_init_166 : decode cX12_init 166 = .ok (.newarray .int, 2) := by decide +kernel
theorem dX12_init_168 : decode cX12_init 168 = .ok (.putfield 41, 3) := by decide +kernel
theorem dX12_init_171 : decode cX12_init 171 = .ok (.aload_n 0, 1) := by decide +kernel
theorem dX12_init_172 : decode cX12_init 172 = .ok (.sipush 400, 3) := by decide +kernel
theorem dX12_init_175 : decode cX12_init 175 = .ok (.newarray .int, 2) := by decide +kernel
theorem dX12_init_177 : decode cX12_init 177 = .ok (.putfield 44, 3) := by decide +kernel
theorem dX12_init_180 : decode cX12_init 180 = .ok (.aload_n 0, 1) := by decide +kernel
theorem dX12_init_181 : decode cX12_init 181 = .ok (.sipush 400, 3) := by decide +kernel
theorem dX12_init_184 : decode cX12_init 184 = .ok (.newarray .int, 2) := by decide +kernel
theorem dX12_init_186 : decode cX12_init 186 = .ok (.putfield 47, 3) := by decide +kernel
theorem dX12_init_189 : decode cX12_init 189 = .ok (.aload_n 0, 1) := by decide +kernel
theorem dX12_init_190 : decode cX12_init 190 = .ok (.sipush 400, 3) := by decide +kernel
theorem dX12_init_193 : decode cX12_init 193 = .ok (.newarray .int, 2) := by decide +kernel
theorem dX12_init_195 : decode cX12_init 195 = .ok (.putfield 50, 3) := by decide +kernel
theorem dX12_init_198 : decode cX12_init 198 = .ok (.aload_n 0, 1) := by decide +kernel
theorem dX12_init_199 : decode cX12_init 199 = .ok (.iconst 4, 1) := by decide +kernel
theorem dX12_init_200 : decode cX12_init 200 = .ok (.newarray .int, 2) := by decide +kernel
theorem dX12_init_202 : decode cX12_init 202 = .ok (.putfield 53, 3) := by decide +kernel
theorem dX12_init_205 : decode cX12_init 205 = .ok (.aload_n 0, 1) := by decide +kernel
theorem dX12_init_206 : decode cX12_init 206 = .ok (.iconst (-1), 1) := by decide +kernel
theorem dX12_init_207 : decode cX12_init 207 = .ok (.putfield 56, 3) := by decide +kernel
theorem dX12_init_210 : decode cX12_init 210 = .ok (.aload_n 0, 1) := by decide +kernel
theorem dX12_init_211 : decode cX12_init 211 = .ok (.bipush 40, 2) := by decide +kernel
theorem dX12_init_213 : decode cX12_init 213 = .ok (.newarray .int, 2) := by decide +kernel
theorem dX12_init_215 : decode cX12_init 215 = .ok (.putfield 59, 3) := by decide +kernel
theorem dX12_init_218 : decode cX12_init 218 = .ok (.aload_n 0, 1) := by decide +kernel
theorem dX12_init_219 : decode cX12_init 219 = .ok (.bipush 40, 2) := by decide +kernel
theorem dX12_init_221 : decode cX12_init 221 = .ok (.newarray .int, 2) := by decide +kernel
theorem dX12_init_223 : decode cX12_init 223 = .ok (.putfield 62, 3) := by decide +kernel
theorem dX12_init_226 : decode cX12_init 226 = .ok (.aload_n 0, 1) := by decide +kernel
theorem dX12_init_227 : decode cX12_init 227 = .ok (.bipush 40, 2) := by decide +kernel
theorem dX12_init_229 : decode cX12_init 229 = .ok (.newarray .int, 2) := by decide +kernel
theorem dX12_init_231 : decode cX12_init 231 = .ok (.putfield 65, 3) := by decide +kernel
theorem dX12_init_234 : decode cX12_init 234 = .ok (.aload_n 0, 1) := by decide +kernel
theorem dX12_init_235 : decode cX12_init 235 = .ok (.sipush 400, 3) := by decide +kernel
theorem dX12_init_238 : decode cX12_init 238 = .ok (.newarray .int, 2) := by decide +kernel
theorem dX12_init_240 : decode cX12_init 240 = .ok (.putfield 68, 3) := by decide +kernel
theorem dX12_init_243 : decode cX12_init 243 = .ok (.aload_n 0, 1) := by decide +kernel
theorem dX12_init_244 : decode cX12_init 244 = .ok (.sipush 400, 3) := by decide +kernel
theorem dX12_init_247 : decode cX12_init 247 = .ok (.newarray .int, 2) := by decide +kernel
theorem dX12_init_249 : decode cX12_init 249 = .ok (.putfield 71, 3) := by decide +kernel
theorem dX12_init_252 : decode cX12_init 252 = .ok (.aload_n 0, 1) := by decide +kernel
theorem dX12_init_253 : decode cX12_init 253 = .ok (.sipush 400, 3) := by decide +kernel
theorem dX12_init_256 : decode cX12_init 256 = .ok (.newarray .int, 2) := by decide +kernel
theorem dX12_init_258 : decode cX12_init 258 = .ok (.putfield 74, 3) := by decide +kernel
theorem dX12_init_261 : decode cX12_init 261 = .ok (.aload_n 0, 1) := by decide +kernel
theorem dX12_init_262 : decode cX12_init 262 = .ok (.sipush 400, 3) := by decide +kernel
theorem dX12_init_265 : decode cX12_init 265 = .ok (.newarray .int, 2) := by decide +kernel
theorem dX12_init_267 : decode cX12_init 267 = .ok (.putfield 77, 3) := by decide +kernel
theorem dX12_init_270 : decode cX12_init 270 = .ok (.aload_n 0, 1) := by decide +kernel
theorem dX12_init_271 : decode cX12_init 271 = .ok (.sipush 400, 3) := by decide +kernel
theorem dX12_init_274 : decode cX12_init 274 = .ok (.newarray .int, 2) := by decide +kernel
theorem dX12_init_276 : decode cX12_init 276 = .ok (.putfield 80, 3) := by decide +kernel
theorem dX12_init_279 : decode cX12_init 279 = .ok (.aload_n 0, 1) := by decide +kernel
theorem dX12_init_280 : decode cX12_init 280 = .ok (.sipush 400, 3) := by decide +kernel
theorem dX12_init_283 : decode cX12_init 283 = .ok (.newarray .int, 2) := by decide +kernel
theorem dX12_init_285 : decode cX12_init 285 = .ok (.putfield 83, 3) := by decide +kernel
theorem dX12_init_288 : decode cX12_init 288 = .ok (.aload_n 0, 1) := by decide +kernel
theorem dX12_init_289 : decode cX12_init 289 = .ok (.bipush (-2), 2) := by decide +kernel
theorem dX12_init_291 : decode cX12_init 291 = .ok (.putfield 86, 3) := by decide +kernel
theorem dX12_init_294 : decode cX12_init 294 = .ok (.aload_n 0, 1) := by decide +kernel
theorem dX12_init_295 : decode cX12_init 295 = .ok (.bipush 12, 2) := by decide +kernel
theorem dX12_init_297 : decode cX12_init 297 = .ok (.newarray .int, 2) := by decide +kernel
theorem dX12_init_299 : decode cX12_init 299 = .ok (.putfield 89, 3) := by decide +kernel
theorem dX12_init_302 : decode cX12_init 302 = .ok (.aload_n 0, 1) := by decide +kernel
theorem dX12_init_303 : decode cX12_init 303 = .ok (.sipush 400, 3) := by decide +kernel
theorem dX12_init_306 : decode cX12_init 306 = .ok (.newarray .int, 2) := by decide +kernel
theorem dX12_init_308 : decode cX12_init 308 = .ok (.putfield 92, 3) := by decide +kernel
theorem dX12_init_311 : decode cX12_init 311 = .ok (.aload_n 0, 1) := by decide +kernel
theorem dX12_init_312 : decode cX12_init 312 = .ok (.sipush 1024, 3) := by decide +kernel
theorem dX12_init_315 : decode cX12_init 315 = .ok (.newarray .int, 2) := by decide +kernel
theorem dX12_init_317 : decode cX12_init 317 = .ok (.putfield 95, 3) := by decide +kernel
theorem dX12_init_320 : decode cX12_init 320 = .ok (.aload_n 0, 1) := by decide +kernel
theorem dX12_init_321 : decode cX12_init 321 = .ok (.bipush 8, 2) := by decide +kernel
theorem dX12_init_323 : decode cX12_init 323 = .ok (.newarray .int, 2) := by decide +kernel
theorem dX12_init_325 : decode cX12_init 325 = .ok (.putfield 98, 3) := by decide +kernel
theorem dX12_init_328 : decode cX12_init 328 = .ok (.aload_n 0, 1) := by decide +kernel
theorem dX12_init_329 : decode cX12_init 329 = .ok (.bipush 8, 2) := by decide +kernel
theorem dX12_init_331 : decode cX12_init 331 = .ok (.newarray .int, 2) := by decide +kernel
theorem dX12_init_333 : decode cX12_init 333 = .ok (.putfield 101, 3) := by decide +kernel
theorem dX12_init_336 : decode cX12_init 336 = .ok (.aload_n 0, 1) := by decide +kernel
theorem dX12_init_337 : decode cX12_init 337 = .ok (.bipush 8, 2) := by decide +kernel
theorem dX12_init_339 : decode cX12_init 339 = .ok (.newarray .int, 2) := by decide +kernel
theorem dX12_init_341 : decode cX12_init 341 = .ok (.putfield 104, 3) := by decide +kernel
theorem dX12_init_344 : decode cX12_init 344 = .ok (.aload_n 0, 1) := by decide +kernel
theorem dX12_init_345 : decode cX12_init 345 = .ok (.sipush 480, 3) := by decide +kernel
theorem dX12_init_348 : decode cX12_init 348 = .ok (.newarray .int, 2) := by decide +kernel
theorem dX12_init_350 : decode cX12_init 350 = .ok (.putfield 107, 3) := by decide +kernel
theorem dX12_init_353 : decode cX12_init 353 = .ok (.aload_n 0, 1) := by decide +kernel
theorem dX12_init_354 : decode cX12_init 354 = .ok (.bipush 60, 2) := by decide +kernel
theorem dX12_init_356 : decode cX12_init 356 = .ok (.newarray .int, 2) := by decide +kernel
theorem dX12_init_358 : decode cX12_init 358 = .ok (.putfield 110, 3) := by decide +kernel
theorem dX12_init_361 : decode cX12_init 361 = .ok (.return_, 1) := by decide +kernel
theorem dX12_thrown_0 : decode cX12_thrown 0 = .ok (.aload_n 0, 1) := by decide +kernel
theorem dX12_thrown_1 : decode cX12_thrown 1 = .ok (.getfield 113, 3) := by decide +kernel
theorem dX12_thrown_4 : decode cX12_thrown 4 = .ok (.ireturn, 1) := by decide +kernel
theorem dX12_isIn_0 : decode cX12_isIn 0 = .ok (.lload_n 0, 1) := by decide +kernel
theorem dX12_isIn_1 : decode cX12_isIn 1 = .ok (.lload_n 2, 1) := by decide +kernel
theorem dX12_isIn_2 : decode cX12_isIn 2 = .ok (.lcmp, 1) := by decide +kernel
theorem dX12_isIn_3 : decode cX12_isIn 3 = .ok (.ifCond .lt 14, 3) := by decide +kernel
theorem dX12_isIn_6 : decode cX12_isIn 6 = .ok (.lload_n 0, 1) := by decide +kernel
theorem dX12_isIn_7 : decode cX12_isIn 7 = .ok (.lload 4, 2) := by decide +kernel
theorem dX12_isIn_9 : decode cX12_isIn 9 = .ok (.lcmp, 1) := by decide +kernel
theorem dX12_isIn_10 : decode cX12_isIn 10 = .ok (.ifCond .gt 7, 3) := by decide +kernel
theorem dX12_isIn_13 : decode cX12_isIn 13 = .ok (.iconst 1, 1) := by decide +kernel
theorem dX12_isIn_14 : decode cX12_isIn 14 = .ok (.goto 4, 3) := by decide +kernel
theorem dX12_isIn_17 : decode cX12_isIn 17 = .ok (.iconst 0, 1) := by decide +kernel
theorem dX12_isIn_18 : decode cX12_isIn 18 = .ok (.ireturn, 1) := by decide +kernel
theorem dX12_time_0 : decode cX12_time 0 = .ok (.aload_n 0, 1) := by decide +kernel
theorem dX12_time_1 : decode cX12_time 1 = .ok (.iconst 0, 1) := by decide +kernel
theorem dX12_time_2 : decode cX12_time 2 = .ok (.putfield 113, 3) := by decide +kernel
theorem dX12_time_5 : decode cX12_time 5 = .ok (.iload_n 1, 1) := by decide +kernel
theorem dX12_time_6 : decode cX12_time 6 = .ok (.i2l, 1) := by decide +kernel
theorem dX12_time_7 : decode cX12_time 7 = .ok (.lconst 0, 1) := by decide +kernel
theorem dX12_time_8 : decode cX12_time 8 = .ok (.ldc2_w 116, 3) := by decide +kernel
theorem dX12_time_11 : decode cX12_time 11 = .ok (.invokestatic 118, 3) := by decide +kernel
theorem dX12_time_14 : decode cX12_time 14 = .ok (.ifCond .eq 15, 3) := by decide +kernel
theorem dX12_time_17 : decode cX12_time 17 = .ok (.iload_n 2, 1) := by decide +kernel
theorem dX12_time_18 : decode cX12_time 18 = .ok (.i2l, 1) := by decide +kernel
theorem dX12_time_19 : decode cX12_time 19 = .ok (.lconst 1, 1) := by decide +kernel
theorem dX12_time_20 : decode cX12_time 20 = .ok (.ldc2_w 122, 3) := by decide +kernel
theorem dX12_time_23 : decode cX12_time 23 = .ok (.invokestatic 118, 3) := by decide +kernel
theorem dX12_time_26 : decode cX12_time 26 = .ok (.ifCond .ne 5, 3) := by decide +kernel
theorem dX12_time_29 : decode cX12_time 29 = .ok (.iconst (-1), 1) := by decide +kernel
theorem dX12_time_30 : decode cX12_time 30 = .ok (.ireturn, 1) := by decide +kernel
theorem dX12_time_31 : decode cX12_time 31 = .ok (.aload_n 0, 1) := by decide +kernel
theorem dX12_time_32 : decode cX12_time 32 = .ok (.getfield 7, 3) := by decide +kernel
theorem dX12_time_35 : decode cX12_time 35 = .ok (.iload_n 1, 1) := by decide +kernel
theorem dX12_time_36 : decode cX12_time 36 = .ok (.iaload, 1) := by decide +kernel
theorem dX12_time_37 : decode cX12_time 37 = .ok (.istore_n 3, 1) := by decide +kernel
theorem dX12_time_38 : decode cX12_time 38 = .ok (.aload_n 0, 1) := by decide +kernel
theorem dX12_time_39 : decode cX12_time 39 = .ok (.getfield 7, 3) := by decide +kernel
theorem dX12_time_42 : decode cX12_time 42 = .ok (.iload_n 1, 1) := by decide +kernel
theorem dX12_time_43 : decode cX12_time 43 = .ok (.iload_n 2, 1) := by decide +kernel
theorem dX12_time_44 : decode cX12_time 44 = .ok (.iastore, 1) := by decide +kernel
theorem dX12_time_45 : decode cX12_time 45 = .ok (.iload_n 3, 1) := by decide +kernel
theorem dX12_time_46 : decode cX12_time 46 = .ok (.ireturn, 1) := by decide +kernel
theorem dX12_refresh_0 : decode cX12_refresh 0 = .ok (.aload_n 0, 1) := by decide +kernel
theorem dX12_refresh_1 : decode cX12_refresh 1 = .ok (.iconst 0, 1) := by decide +kernel
theorem dX12_refresh_2 : decode cX12_refresh 2 = .ok (.putfield 113, 3) := by decide +kernel
theorem dX12_refresh_5 : decode cX12_refresh 5 = .ok (.iload_n 1, 1) := by decide +kernel
theorem dX12_refresh_6 : decode cX12_refresh 6 = .ok (.ifCond .eq 17, 3) := by decide +kernel
theorem dX12_refresh_9 : decode cX12_refresh 9 = .ok (.iload_n 1, 1) := by decide +kernel
theorem dX12_refresh_10 : decode cX12_refresh 10 = .ok (.i2l, 1) := by decide +kernel
theorem dX12_refresh_11 : decode cX12_refresh 11 = .ok (.ldc2_w 124, 3) := by decide +kernel
theorem dX12_refresh_14 : decode cX12_refresh 14 = .ok (.ldc2_w 126, 3) := by decide +kernel
theorem dX12_refresh_17 : decode cX12_refresh 17 = .ok (.invokestatic 118, 3) := by decide +kernel
theorem dX12_refresh_20 : decode cX12_refresh 20 = .ok (.ifCond .eq 15, 3) := by decide +kernel
theorem dX12_refresh_23 : decode cX12_refresh 23 = .ok (.iload_n 2, 1) := by decide +kernel
theorem dX12_refresh_24 : decode cX12_refresh 24 = .ok (.i2l, 1) := by decide +kernel
theorem dX12_refresh_25 : decode cX12_refresh 25 = .ok (.lconst 1, 1) := by decide +kernel
theorem dX12_refresh_26 : decode cX12_refresh 26 = .ok (.ldc2_w 128, 3) := by decide +kernel
theorem dX12_refresh_29 : decode cX12_refresh 29 = .ok (.invokestatic 118, 3) := by decide +kernel
theorem dX12_refresh_32 : decode cX12_refresh 32 = .ok (.ifCond .ne 5, 3) := by decide +kernel
theorem dX12_refresh_35 : decode cX12_refresh 35 = .ok (.iconst (-1), 1) := by decide +kernel
theorem dX12_refresh_36 : decode cX12_refresh 36 = .ok (.ireturn, 1) := by decide +kernel
theorem dX12_refresh_37 : decode cX12_refresh 37 = .ok (.aload_n 0, 1) := by decide +kernel
theorem dX12_refresh_38 : decode cX12_refresh 38 = .ok (.iload_n 1, 1) := by decide +kernel
theorem dX12_refresh_39 : decode cX12_refresh 39 = .ok (.putfield 130, 3) := by decide +kernel
theorem dX12_refresh_42 : decode cX12_refresh 42 = .ok (.aload_n 0, 1) := by decide +kernel
theorem dX12_refresh_43 : decode cX12_refresh 43 = .ok (.iload_n 2, 1) := by decide +kernel
theorem dX12_refresh_44 : decode cX12_refresh 44 = .ok (.putfield 13, 3) := by decide +kernel
theorem dX12_refresh_47 : decode cX12_refresh 47 = .ok (.iconst 0, 1) := by decide +kernel
theorem dX12_refresh_48 : decode cX12_refresh 48 = .ok (.ireturn, 1) := by decide +kernel
theorem dX12_order_0 : decode cX12_order 0 = .ok (.aload_n 0, 1) := by decide +kernel
theorem dX12_order_1 : decode cX12_order 1 = .ok (.iconst 0, 1) := by decide +kernel
theorem dX12_order_2 : decode cX12_order 2 = .ok (.putfield 113, 3) := by decide +kernel
theorem dX12_order_5 : decode cX12_order 5 = .ok (.iload_n 1, 1) := by decide +kernel
theorem dX12_order_6 : decode cX12_order 6 = .ok (.i2l, 1) := by decide +kernel
theorem dX12_order_7 : decode cX12_order 7 = .ok (.lconst 0, 1) := by decide +kernel
theorem dX12_order_8 : decode cX12_order 8 = .ok (.ldc2_w 133, 3) := by decide +kernel
theorem dX12_order_11 : decode cX12_order 11 = .ok (.invokestatic 118, 3) := by decide +kernel
theorem dX12_order_14 : decode cX12_order 14 = .ok (.ifCond .eq 15, 3) := by decide +kernel
theorem dX12_order_17 : decode cX12_order 17 = .ok (.iload_n 2, 1) := by decide +kernel
theorem dX12_order_18 : decode cX12_order 18 = .ok (.i2l, 1) := by decide +kernel
theorem dX12_order_19 : decode cX12_order 19 = .ok (.lconst 1, 1) := by decide +kernel
theorem dX12_order_20 : decode cX12_order 20 = .ok (.ldc2_w 124, 3) := by decide +kernel
theorem dX12_order_23 : decode cX12_order 23 = .ok (.invokestatic 118, 3) := by decide +kernel
theorem dX12_order_26 : decode cX12_order 26 = .ok (.ifCond .ne 5, 3) := by decide +kernel
theorem dX12_order_29 : decode cX12_order 29 = .ok (.iconst (-1), 1) := by decide +kernel
theorem dX12_order_30 : decode cX12_order 30 = .ok (.ireturn, 1) := by decide +kernel
theorem dX12_order_31 : decode cX12_order 31 = .ok (.aload_n 0, 1) := by decide +kernel
theorem dX12_order_32 : decode cX12_order 32 = .ok (.iload_n 1, 1) := by decide +kernel
theorem dX12_order_33 : decode cX12_order 33 = .ok (.putfield 135, 3) := by decide +kernel
theorem dX12_order_36 : decode cX12_order 36 = .ok (.aload_n 0, 1) := by decide +kernel
theorem dX12_order_37 : decode cX12_order 37 = .ok (.iload_n 2, 1) := by decide +kernel
theorem dX12_order_38 : decode cX12_order 38 = .ok (.putfield 17, 3) := by decide +kernel
theorem dX12_order_41 : decode cX12_order 41 = .ok (.iconst 0, 1) := by decide +kernel
theorem dX12_order_42 : decode cX12_order 42 = .ok (.ireturn, 1) := by decide +kernel
theorem dX12_rowOf_0 : decode cX12_rowOf 0 = .ok (.iload_n 0, 1) := by decide +kernel
theorem dX12_rowOf_1 : decode cX12_rowOf 1 = .ok (.bipush 64, 2) := by decide +kernel
theorem dX12_rowOf_3 : decode cX12_rowOf 3 = .ok (.idiv, 1) := by decide +kernel
theorem dX12_rowOf_4 : decode cX12_rowOf 4 = .ok (.ireturn, 1) := by decide +kernel
theorem dX12_bankOf_0 : decode cX12_bankOf 0 = .ok (.iload_n 0, 1) := by decide +kernel
theorem dX12_bankOf_1 : decode cX12_bankOf 1 = .ok (.bipush 16, 2) := by decide +kernel
theorem dX12_bankOf_3 : decode cX12_bankOf 3 = .ok (.idiv, 1) := by decide +kernel
theorem dX12_bankOf_4 : decode cX12_bankOf 4 = .ok (.iconst 4, 1) := by decide +kernel
theorem dX12_bankOf_5 : decode cX12_bankOf 5 = .ok (.irem, 1) := by decide +kernel
theorem dX12_bankOf_6 : decode cX12_bankOf 6 = .ok (.iload_n 0, 1) := by decide +kernel
theorem dX12_bankOf_7 : decode cX12_bankOf 7 = .ok (.bipush 64, 2) := by decide +kernel
theorem dX12_bankOf_9 : decode cX12_bankOf 9 = .ok (.idiv, 1) := by decide +kernel
theorem dX12_bankOf_10 : decode cX12_bankOf 10 = .ok (.iconst 4, 1) := by decide +kernel
theorem dX12_bankOf_11 : decode cX12_bankOf 11 = .ok (.irem, 1) := by decide +kernel
theorem dX12_bankOf_12 : decode cX12_bankOf 12 = .ok (.ixor, 1) := by decide +kernel
theorem dX12_bankOf_13 : decode cX12_bankOf 13 = .ok (.ireturn, 1) := by decide +kernel
theorem dX12_added_0 : decode cX12_added 0 = .ok (.aload_n 0, 1) := by decide +kernel
theorem dX12_added_1 : decode cX12_added 1 = .ok (.getfield 138, 3) := by decide +kernel
theorem dX12_added_4 : decode cX12_added 4 = .ok (.bipush 12, 2) := by decide +kernel
theorem dX12_added_6 : decode cX12_added 6 = .ok (.if_icmp .eq 13, 3) := by decide +kernel
theorem dX12_added_9 : decode cX12_added 9 = .ok (.aload_n 0, 1) := by decide +kernel
theorem dX12_added_10 : decode cX12_added 10 = .ok (.getfield 141, 3) := by decide +kernel
theorem dX12_added_13 : decode cX12_added 13 = .ok (.sipush 400, 3) := by decide +kernel
theorem dX12_added_16 : decode cX12_added 16 = .ok (.if_icmp .ne 6, 3) := by decide +kernel
theorem dX12_added_19 : decode cX12_added 19 = .ok (.bipush (-2), 2) := by decide +kernel
theorem dX12_added_21 : decode cX12_added 21 = .ok (.ireturn, 1) := by decide +kernel
theorem dX12_added_22 : decode cX12_added 22 = .ok (.aload_n 0, 1) := by decide +kernel
theorem dX12_added_23 : decode cX12_added 23 = .ok (.getfield 29, 3) := by decide +kernel
theorem dX12_added_26 : decode cX12_added 26 = .ok (.aload_n 0, 1) := by decide +kernel
theorem dX12_added_27 : decode cX12_added 27 = .ok (.getfield 141, 3) := by decide +kernel
theorem dX12_added_30 : decode cX12_added 30 = .ok (.iload_n 1, 1) := by decide +kernel
theorem dX12_added_31 : decode cX12_added 31 = .ok (.iastore, 1) := by decide +kernel
theorem dX12_added_32 : decode cX12_added 32 = .ok (.aload_n 0, 1) := by decide +kernel
theorem dX12_added_33 : decode cX12_added 33 = .ok (.getfield 32, 3) := by decide +kernel
theorem dX12_added_36 : decode cX12_added 36 = .ok (.aload_n 0, 1) := by decide +kernel
theorem dX12_added_37 : decode cX12_added 37 = .ok (.getfield 141, 3) := by decide +kernel
theorem dX12_added_40 : decode cX12_added 40 = .ok (.iload_n 2, 1) := by decide +kernel
theorem dX12_added_41 : decode cX12_added 41 = .ok (.iastore, 1) := by decide +kernel
theorem dX12_added_42 : decode cX12_added 42 = .ok (.aload_n 0, 1) := by decide +kernel
theorem dX12_added_43 : decode cX12_added 43 = .ok (.getfield 35, 3) := by decide +kernel
theorem dX12_added_46 : decode cX12_added 46 = .ok (.aload_n 0, 1) := by decide +kernel
theorem dX12_added_47 : decode cX12_added 47 = .ok (.getfield 141, 3) := by decide +kernel
theorem dX12_added_50 : decode cX12_added 50 = .ok (.iload_n 3, 1) := by decide +kernel
theorem dX12_added_51 : decode cX12_added 51 = .ok (.iastore, 1) := by decide +kernel
theorem dX12_added_52 : decode cX12_added 52 = .ok (.aload_n 0, 1) := by decide +kernel
theorem dX12_added_53 : decode cX12_added 53 = .ok (.getfield 38, 3) := by decide +kernel
theorem dX12_added_56 : decode cX12_added 56 = .ok (.aload_n 0, 1) := by decide +kernel
theorem dX12_added_57 : decode cX12_added 57 = .ok (.getfield 141, 3) := by decide +kernel
theorem dX12_added_60 : decode cX12_added 60 = .ok (.iload 4, 2) := by decide +kernel
theorem dX12_added_62 : decode cX12_added 62 = .ok (.iastore, 1) := by decide +kernel
theorem dX12_added_63 : decode cX12_added 63 = .ok (.aload_n 0, 1) := by decide +kernel
theorem dX12_added_64 : decode cX12_added 64 = .ok (.getfield 41, 3) := by decide +kernel
theorem dX12_added_67 : decode cX12_added 67 = .ok (.aload_n 0, 1) := by decide +kernel
theorem dX12_added_68 : decode cX12_added 68 = .ok (.getfield 141, 3) := by decide +kernel
theorem dX12_added_71 : decode cX12_added 71 = .ok (.iload 5, 2) := by decide +kernel
theorem dX12_added_73 : decode cX12_added 73 = .ok (.iastore, 1) := by decide +kernel
theorem dX12_added_74 : decode cX12_added 74 = .ok (.aload_n 0, 1) := by decide +kernel
theorem dX12_added_75 : decode cX12_added 75 = .ok (.getfield 44, 3) := by decide +kernel
theorem dX12_added_78 : decode cX12_added 78 = .ok (.aload_n 0, 1) := by decide +kernel
theorem dX12_added_79 : decode cX12_added 79 = .ok (.getfield 141, 3) := by decide +kernel
theorem dX12_added_82 : decode cX12_added 82 = .ok (.aload_n 0, 1) := by decide +kernel
theorem dX12_added_83 : decode cX12_added 83 = .ok (.getfield 20, 3) := by decide +kernel
theorem dX12_added_86 : decode cX12_added 86 = .ok (.iastore, 1) := by decide +kernel
theorem dX12_added_87 : decode cX12_added 87 = .ok (.aload_n 0, 1) := by decide +kernel
theorem dX12_added_88 : decode cX12_added 88 = .ok (.getfield 47, 3) := by decide +kernel
theorem dX12_added_91 : decode cX12_added 91 = .ok (.aload_n 0, 1) := by decide +kernel
theorem dX12_added_92 : decode cX12_added 92 = .ok (.getfield 141, 3) := by decide +kernel
theorem dX12_added_95 : decode cX12_added 95 = .ok (.iconst 0, 1) := by decide +kernel
theorem dX12_added_96 : decode cX12_added 96 = .ok (.iastore, 1) := by decide +kernel
theorem dX12_added_97 : decode cX12_added 97 = .ok (.aload_n 0, 1) := by decide +kernel
theorem dX12_added_98 : decode cX12_added 98 = .ok (.getfield 50, 3) := by decide +kernel
theorem dX12_added_101 : decode cX12_added 101 = .ok (.aload_n 0, 1) := by decide +kernel
theorem dX12_added_102 : decode cX12_added 102 = .ok (.getfield 141, 3) := by decide +kernel
theorem dX12_added_105 : decode cX12_added 105 = .ok (.bipush (-2), 2) := by decide +kernel
theorem dX12_added_107 : decode cX12_added 107 = .ok (.iastore, 1) := by decide +kernel
theorem dX12_added_108 : decode cX12_added 108 = .ok (.aload_n 0, 1) := by decide +kernel
theorem dX12_added_109 : decode cX12_added 109 = .ok (.dup, 1) := by decide +kernel
theorem dX12_added_110 : decode cX12_added 110 = .ok (.getfield 141, 3) := by decide +kernel
theorem dX12_added_113 : decode cX12_added 113 = .ok (.iconst 1, 1) := by decide +kernel
theorem dX12_added_114 : decode cX12_added 114 = .ok (.iadd, 1) := by decide +kernel
theorem dX12_added_115 : decode cX12_added 115 = .ok (.putfield 141, 3) := by decide +kernel
theorem dX12_added_118 : decode cX12_added 118 = .ok (.aload_n 0, 1) := by decide +kernel
theorem dX12_added_119 : decode cX12_added 119 = .ok (.dup, 1) := by decide +kernel
theorem dX12_added_120 : decode cX12_added 120 = .ok (.getfield 138, 3) := by decide +kernel
theorem dX12_added_123 : decode cX12_added 123 = .ok (.iconst 1, 1) := by decide +kernel
theorem dX12_added_124 : decode cX12_added 124 = .ok (.iadd, 1) := by decide +kernel
theorem dX12_added_125 : decode cX12_added 125 = .ok (.putfield 138, 3) := by decide +kernel
theorem dX12_added_128 : decode cX12_added 128 = .ok (.aload_n 0, 1) := by decide +kernel
theorem dX12_added_129 : decode cX12_added 129 = .ok (.invokevirtual 144, 3) := by decide +kernel
theorem dX12_added_132 : decode cX12_added 132 = .ok (.aload_n 0, 1) := by decide +kernel
theorem dX12_added_133 : decode cX12_added 133 = .ok (.getfield 141, 3) := by decide +kernel
theorem dX12_added_136 : decode cX12_added 136 = .ok (.iconst 1, 1) := by decide +kernel
theorem dX12_added_137 : decode cX12_added 137 = .ok (.isub, 1) := by decide +kernel
theorem dX12_added_138 : decode cX12_added 138 = .ok (.ireturn, 1) := by decide +kernel
theorem dX12_findOldest_0 : decode cX12_findOldest 0 = .ok (.iconst (-1), 1) := by decide +kernel
theorem dX12_findOldest_1 : decode cX12_findOldest 1 = .ok (.istore_n 1, 1) := by decide +kernel
theorem dX12_findOldest_2 : decode cX12_findOldest 2 = .ok (.aload_n 0, 1) := by decide +kernel
theorem dX12_findOldest_3 : decode cX12_findOldest 3 = .ok (.getfield 141, 3) := by decide +kernel
theorem dX12_findOldest_6 : decode cX12_findOldest 6 = .ok (.iconst 1, 1) := by decide +kernel
theorem dX12_findOldest_7 : decode cX12_findOldest 7 = .ok (.isub, 1) := by decide +kernel
theorem dX12_findOldest_8 : decode cX12_findOldest 8 = .ok (.istore_n 2, 1) := by decide +kernel
theorem dX12_findOldest_9 : decode cX12_findOldest 9 = .ok (.iload_n 2, 1) := by decide +kernel
theorem dX12_findOldest_10 : decode cX12_findOldest 10 = .ok (.ifCond .lt 34, 3) := by decide +kernel
theorem dX12_findOldest_13 : decode cX12_findOldest 13 = .ok (.aload_n 0, 1) := by decide +kernel
theorem dX12_findOldest_14 : decode cX12_findOldest 14 = .ok (.getfield 47, 3) := by decide +kernel
theorem dX12_findOldest_17 : decode cX12_findOldest 17 = .ok (.iload_n 2, 1) := by decide +kernel
theorem dX12_findOldest_18 : decode cX12_findOldest 18 = .ok (.iaload, 1) := by decide +kernel
theorem dX12_findOldest_19 : decode cX12_findOldest 19 = .ok (.ifCond .ne 17, 3) := by decide +kernel
theorem dX12_findOldest_22 : decode cX12_findOldest 22 = .ok (.aload_n 0, 1) := by decide +kernel
theorem dX12_findOldest_23 : decode cX12_findOldest 23 = .ok (.getfield 29, 3) := by decide +kernel
theorem dX12_findOldest_26 : decode cX12_findOldest 26 = .ok (.iload_n 2, 1) := by decide +kernel
theorem dX12_findOldest_27 : decode cX12_findOldest 27 = .ok (.iaload, 1) := by decide +kernel
theorem dX12_findOldest_28 : decode cX12_findOldest 28 = .ok (.iconst 4, 1) := by decide +kernel
theorem dX12_findOldest_29 : decode cX12_findOldest 29 = .ok (.if_icmp .eq 7, 3) := by decide +kernel
theorem dX12_findOldest_32 : decode cX12_findOldest 32 = .ok (.iload_n 2, 1) := by decide +kernel
theorem dX12_findOldest_33 : decode cX12_findOldest 33 = .ok (.goto 4, 3) := by decide +kernel
theorem dX12_findOldest_36 : decode cX12_findOldest 36 = .ok (.iload_n 1, 1) := by decide +kernel
theorem dX12_findOldest_37 : decode cX12_findOldest 37 = .ok (.istore_n 1, 1) := by decide +kernel
theorem dX12_findOldest_38 : decode cX12_findOldest 38 = .ok (.iinc 2 (-1), 3) := by decide +kernel
theorem dX12_findOldest_41 : decode cX12_findOldest 41 = .ok (.goto (-32), 3) := by decide +kernel
theorem dX12_findOldest_44 : decode cX12_findOldest 44 = .ok (.aload_n 0, 1) := by decide +kernel
theorem dX12_findOldest_45 : decode cX12_findOldest 45 = .ok (.iload_n 1, 1) := by decide +kernel
theorem dX12_findOldest_46 : decode cX12_findOldest 46 = .ok (.aload_n 0, 1) := by decide +kernel
theorem dX12_findOldest_47 : decode cX12_findOldest 47 = .ok (.getfield 56, 3) := by decide +kernel
theorem dX12_findOldest_50 : decode cX12_findOldest 50 = .ok (.if_icmp .ne 10, 3) := by decide +kernel
theorem dX12_findOldest_53 : decode cX12_findOldest 53 = .ok (.aload_n 0, 1) := by decide +kernel
theorem dX12_findOldest_54 : decode cX12_findOldest 54 = .ok (.getfield 147, 3) := by decide +kernel
theorem dX12_findOldest_57 : decode cX12_findOldest 57 = .ok (.goto 4, 3) := by decide +kernel
theorem dX12_findOldest_60 : decode cX12_findOldest 60 = .ok (.iconst 0, 1) := by decide +kernel
theorem dX12_findOldest_61 : decode cX12_findOldest 61 = .ok (.putfield 147, 3) := by decide +kernel
theorem dX12_findOldest_64 : decode cX12_findOldest 64 = .ok (.aload_n 0, 1) := by decide +kernel
theorem dX12_findOldest_65 : decode cX12_findOldest 65 = .ok (.iload_n 1, 1) := by decide +kernel
theorem dX12_findOldest_66 : decode cX12_findOldest 66 = .ok (.putfield 56, 3) := by decide +kernel
theorem dX12_findOldest_69 : decode cX12_findOldest 69 = .ok (.return_, 1) := by decide +kernel
theorem dX12_isRight_0 : decode cX12_isRight 0 = .ok (.iload_n 0, 1) := by decide +kernel
theorem dX12_isRight_1 : decode cX12_isRight 1 = .ok (.i2l, 1) := by decide +kernel
theorem dX12_isRight_2 : decode cX12_isRight 2 = .ok (.lconst 0, 1) := by decide +kernel
theorem dX12_isRight_3 : decode cX12_isRight 3 = .ok (.ldc2_w 150, 3) := by decide +kernel
theorem dX12_isRight_6 : decode cX12_isRight 6 = .ok (.invokestatic 118, 3) := by decide +kernel
theorem dX12_isRight_9 : decode cX12_isRight 9 = .ok (.ifCond .eq 43, 3) := by decide +kernel
theorem dX12_isRight_12 : decode cX12_isRight 12 = .ok (.iload_n 1, 1) := by decide +kernel
theorem dX12_isRight_13 : decode cX12_isRight 13 = .ok (.i2l, 1) := by decide +kernel
theorem dX12_isRight_14 : decode cX12_isRight 14 = .ok (.lconst 0, 1) := by decide +kernel
theorem dX12_isRight_15 : decode cX12_isRight 15 = .ok (.ldc2_w 152, 3) := by decide +kernel
theorem dX12_isRight_18 : decode cX12_isRight 18 = .ok (.invokestatic 118, 3) := by decide +kernel
theorem dX12_isRight_21 : decode cX12_isRight 21 = .ok (.ifCond .eq 31, 3) := by decide +kernel
theorem dX12_isRight_24 : decode cX12_isRight 24 = .ok (.iload_n 2, 1) := by decide +kernel
theorem dX12_isRight_25 : decode cX12_isRight 25 = .ok (.i2l, 1) := by decide +kernel
theorem dX12_isRight_26 : decode cX12_isRight 26 = .ok (.lconst 0, 1) := by decide +kernel
theorem dX12_isRight_27 : decode cX12_isRight 27 = .ok (.ldc2_w 154, 3) := by decide +kernel
theorem dX12_isRight_30 : decode cX12_isRight 30 = .ok (.invokestatic 118, 3) := by decide +kernel
theorem dX12_isRight_33 : decode cX12_isRight 33 = .ok (.ifCond .eq 19, 3) := by decide +kernel
theorem dX12_isRight_36 : decode cX12_isRight 36 = .ok (.iload_n 3, 1) := by decide +kernel
theorem dX12_isRight_37 : decode cX12_isRight 37 = .ok (.i2l, 1) := by decide +kernel
theorem dX12_isRight_38 : decode cX12_isRight 38 = .ok (.lconst 0, 1) := by decide +kernel
theorem dX12_isRight_39 : decode cX12_isRight 39 = .ok (.ldc2_w 154, 3) := by decide +kernel
theorem dX12_isRight_42 : decode cX12_isRight 42 = .ok (.invokestatic 118, 3) := by decide +kernel
theorem dX12_isRight_45 : decode cX12_isRight 45 = .ok (.ifCond .eq 7, 3) := by decide +kernel
theorem dX12_isRight_48 : decode cX12_isRight 48 = .ok (.iconst 1, 1) := by decide +kernel
theorem dX12_isRight_49 : decode cX12_isRight 49 = .ok (.goto 4, 3) := by decide +kernel
theorem dX12_isRight_52 : decode cX12_isRight 52 = .ok (.iconst 0, 1) := by decide +kernel
theorem dX12_isRight_53 : decode cX12_isRight 53 = .ok (.ireturn, 1) := by decide +kernel
theorem dX12_ask_0 : decode cX12_ask 0 = .ok (.aload_n 0, 1) := by decide +kernel
theorem dX12_ask_1 : decode cX12_ask 1 = .ok (.iconst 0, 1) := by decide +kernel
theorem dX12_ask_2 : decode cX12_ask 2 = .ok (.putfield 113, 3) := by decide +kernel
theorem dX12_ask_5 : decode cX12_ask 5 = .ok (.iload_n 1, 1) := by decide +kernel
theorem dX12_ask_6 : decode cX12_ask 6 = .ok (.iload_n 2, 1) := by decide +kernel
theorem dX12_ask_7 : decode cX12_ask 7 = .ok (.iconst 0, 1) := by decide +kernel
theorem dX12_ask_8 : decode cX12_ask 8 = .ok (.iconst 0, 1) := by decide +kernel
theorem dX12_ask_9 : decode cX12_ask 9 = .ok (.invokestatic 156, 3) := by decide +kernel
theorem dX12_ask_12 : decode cX12_ask 12 = .ok (.ifCond .eq 15, 3) := by decide +kernel
theorem dX12_ask_15 : decode cX12_ask 15 = .ok (.aload_n 0, 1) := by decide +kernel
theorem dX12_ask_16 : decode cX12_ask 16 = .ok (.iconst 0, 1) := by decide +kernel
theorem dX12_ask_17 : decode cX12_ask 17 = .ok (.iload_n 1, 1) := by decide +kernel
theorem dX12_ask_18 : decode cX12_ask 18 = .ok (.iload_n 2, 1) := by decide +kernel
theorem dX12_ask_19 : decode cX12_ask 19 = .ok (.iconst 0, 1) := by decide +kernel
theorem dX12_ask_20 : decode cX12_ask 20 = .ok (.iconst 0, 1) := by decide +kernel
theorem dX12_ask_21 : decode cX12_ask 21 = .ok (.invokevirtual 160, 3) := by decide +kernel
theorem dX12_ask_24 : decode cX12_ask 24 = .ok (.goto 4, 3) := by decide +kernel
theorem dX12_ask_27 : decode cX12_ask 27 = .ok (.iconst (-1), 1) := by decide +kernel
theorem dX12_ask_28 : decode cX12_ask 28 = .ok (.ireturn, 1) := by decide +kernel
theorem dX12_write_0 : decode cX12_write 0 = .ok (.aload_n 0, 1) := by decide +kernel
theorem dX12_write_1 : decode cX12_write 1 = .ok (.iconst 0, 1) := by decide +kernel
theorem dX12_write_2 : decode cX12_write 2 = .ok (.putfield 113, 3) := by decide +kernel
theorem dX12_write_5 : decode cX12_write 5 = .ok (.iload_n 1, 1) := by decide +kernel
theorem dX12_write_6 : decode cX12_write 6 = .ok (.iload_n 2, 1) := by decide +kernel
theorem dX12_write_7 : decode cX12_write 7 = .ok (.iload_n 3, 1) := by decide +kernel
theorem dX12_write_8 : decode cX12_write 8 = .ok (.iconst 0, 1) := by decide +kernel
theorem dX12_write_9 : decode cX12_write 9 = .ok (.invokestatic 156, 3) := by decide +kernel
theorem dX12_write_12 : decode cX12_write 12 = .ok (.ifCond .eq 17, 3) := by decide +kernel
theorem dX12_write_15 : decode cX12_write 15 = .ok (.aload_n 0, 1) := by decide +kernel
theorem dX12_write_16 : decode cX12_write 16 = .ok (.iconst 1, 1) := by decide +kernel
theorem dX12_write_17 : decode cX12_write 17 = .ok (.iload_n 1, 1) := by decide +kernel
theorem dX12_write_18 : decode cX12_write 18 = .ok (.iload_n 2, 1) := by decide +kernel
theorem dX12_write_19 : decode cX12_write 19 = .ok (.iload_n 3, 1) := by decide +kernel
theorem dX12_write_20 : decode cX12_write 20 = .ok (.sipush 255, 3) := by decide +kernel
theorem dX12_write_23 : decode cX12_write 23 = .ok (.invokevirtual 160, 3) := by decide +kernel
theorem dX12_write_26 : decode cX12_write 26 = .ok (.goto 4, 3) := by decide +kernel
theorem dX12_write_29 : decode cX12_write 29 = .ok (.iconst (-1), 1) := by decide +kernel
theorem dX12_write_30 : decode cX12_write 30 = .ok (.ireturn, 1) := by decide +kernel
theorem dX12_mask_0 : decode cX12_mask 0 = .ok (.aload_n 0, 1) := by decide +kernel
theorem dX12_mask_1 : decode cX12_mask 1 = .ok (.iconst 0, 1) := by decide +kernel
theorem dX12_mask_2 : decode cX12_mask 2 = .ok (.putfield 113, 3) := by decide +kernel
theorem dX12_mask_5 : decode cX12_mask 5 = .ok (.iload_n 1, 1) := by decide +kernel
theorem dX12_mask_6 : decode cX12_mask 6 = .ok (.iload_n 2, 1) := by decide +kernel
theorem dX12_mask_7 : decode cX12_mask 7 = .ok (.iload_n 3, 1) := by decide +kernel
theorem dX12_mask_8 : decode cX12_mask 8 = .ok (.iload 4, 2) := by decide +kernel
theorem dX12_mask_10 : decode cX12_mask 10 = .ok (.invokestatic 156, 3) := by decide +kernel
theorem dX12_mask_13 : decode cX12_mask 13 = .ok (.ifCond .eq 16, 3) := by decide +kernel
theorem dX12_mask_16 : decode cX12_mask 16 = .ok (.aload_n 0, 1) := by decide +kernel
theorem dX12_mask_17 : decode cX12_mask 17 = .ok (.iconst 2, 1) := by decide +kernel
theorem dX12_mask_18 : decode cX12_mask 18 = .ok (.iload_n 1, 1) := by decide +kernel
theorem dX12_mask_19 : decode cX12_mask 19 = .ok (.iload_n 2, 1) := by decide +kernel
theorem dX12_mask_20 : decode cX12_mask 20 = .ok (.iload_n 3, 1) := by decide +kernel
theorem dX12_mask_21 : decode cX12_mask 21 = .ok (.iload 4, 2) := by decide +kernel
theorem dX12_mask_23 : decode cX12_mask 23 = .ok (.invokevirtual 160, 3) := by decide +kernel
theorem dX12_mask_26 : decode cX12_mask 26 = .ok (.goto 4, 3) := by decide +kernel
theorem dX12_mask_29 : decode cX12_mask 29 = .ok (.iconst (-1), 1) := by decide +kernel
theorem dX12_mask_30 : decode cX12_mask 30 = .ok (.ireturn, 1) := by decide +kernel
theorem dX12_swap_0 : decode cX12_swap 0 = .ok (.aload_n 0, 1) := by decide +kernel
theorem dX12_swap_1 : decode cX12_swap 1 = .ok (.iconst 0, 1) := by decide +kernel
theorem dX12_swap_2 : decode cX12_swap 2 = .ok (.putfield 113, 3) := by decide +kernel
theorem dX12_swap_5 : decode cX12_swap 5 = .ok (.iload_n 1, 1) := by decide +kernel
theorem dX12_swap_6 : decode cX12_swap 6 = .ok (.iload_n 2, 1) := by decide +kernel
theorem dX12_swap_7 : decode cX12_swap 7 = .ok (.iload_n 3, 1) := by decide +kernel
theorem dX12_swap_8 : decode cX12_swap 8 = .ok (.iconst 0, 1) := by decide +kernel
theorem dX12_swap_9 : decode cX12_swap 9 = .ok (.invokestatic 156, 3) := by decide +kernel
theorem dX12_swap_12 : decode cX12_swap 12 = .ok (.ifCond .eq 17, 3) := by decide +kernel
theorem dX12_swap_15 : decode cX12_swap 15 = .ok (.aload_n 0, 1) := by decide +kernel
theorem dX12_swap_16 : decode cX12_swap 16 = .ok (.iconst 3, 1) := by decide +kernel
theorem dX12_swap_17 : decode cX12_swap 17 = .ok (.iload_n 1, 1) := by decide +kernel
theorem dX12_swap_18 : decode cX12_swap 18 = .ok (.iload_n 2, 1) := by decide +kernel
theorem dX12_swap_19 : decode cX12_swap 19 = .ok (.iload_n 3, 1) := by decide +kernel
theorem dX12_swap_20 : decode cX12_swap 20 = .ok (.sipush 255, 3) := by decide +kernel
theorem dX12_swap_23 : decode cX12_swap 23 = .ok (.invokevirtual 160, 3) := by decide +kernel
theorem dX12_swap_26 : decode cX12_swap 26 = .ok (.goto 4, 3) := by decide +kernel
theorem dX12_swap_29 : decode cX12_swap 29 = .ok (.iconst (-1), 1) := by decide +kernel
theorem dX12_swap_30 : decode cX12_swap 30 = .ok (.ireturn, 1) := by decide +kernel
theorem dX12_fence_0 : decode cX12_fence 0 = .ok (.aload_n 0, 1) := by decide +kernel
theorem dX12_fence_1 : decode cX12_fence 1 = .ok (.iconst 0, 1) := by decide +kernel
theorem dX12_fence_2 : decode cX12_fence 2 = .ok (.putfield 113, 3) := by decide +kernel
theorem dX12_fence_5 : decode cX12_fence 5 = .ok (.iload_n 1, 1) := by decide +kernel
theorem dX12_fence_6 : decode cX12_fence 6 = .ok (.i2l, 1) := by decide +kernel
theorem dX12_fence_7 : decode cX12_fence 7 = .ok (.lconst 0, 1) := by decide +kernel
theorem dX12_fence_8 : decode cX12_fence 8 = .ok (.ldc2_w 150, 3) := by decide +kernel
theorem dX12_fence_11 : decode cX12_fence 11 = .ok (.invokestatic 118, 3) := by decide +kernel
theorem dX12_fence_14 : decode cX12_fence 14 = .ok (.ifCond .eq 16, 3) := by decide +kernel
theorem dX12_fence_17 : decode cX12_fence 17 = .ok (.aload_n 0, 1) := by decide +kernel
theorem dX12_fence_18 : decode cX12_fence 18 = .ok (.iconst 4, 1) := by decide +kernel
theorem dX12_fence_19 : decode cX12_fence 19 = .ok (.iload_n 1, 1) := by decide +kernel
theorem dX12_fence_20 : decode cX12_fence 20 = .ok (.bipush (-2), 2) := by decide +kernel
theorem dX12_fence_22 : decode cX12_fence 22 = .ok (.iconst 0, 1) := by decide +kernel
theorem dX12_fence_23 : decode cX12_fence 23 = .ok (.iconst 0, 1) := by decide +kernel
theorem dX12_fence_24 : decode cX12_fence 24 = .ok (.invokevirtual 160, 3) := by decide +kernel
theorem dX12_fence_27 : decode cX12_fence 27 = .ok (.goto 4, 3) := by decide +kernel
theorem dX12_fence_30 : decode cX12_fence 30 = .ok (.iconst (-1), 1) := by decide +kernel
theorem dX12_fence_31 : decode cX12_fence 31 = .ok (.ireturn, 1) := by decide +kernel
theorem dX12_waits_0 : decode cX12_waits 0 = .ok (.aload_n 0, 1) := by decide +kernel
theorem dX12_waits_1 : decode cX12_waits 1 = .ok (.getfield 47, 3) := by decide +kernel
theorem dX12_waits_4 : decode cX12_waits 4 = .ok (.iload_n 1, 1) := by decide +kernel
theorem dX12_waits_5 : decode cX12_waits 5 = .ok (.iaload, 1) := by decide +kernel
theorem dX12_waits_6 : decode cX12_waits 6 = .ok (.ifCond .ne 7, 3) := by decide +kernel
theorem dX12_waits_9 : decode cX12_waits 9 = .ok (.iconst 1, 1) := by decide +kernel
theorem dX12_waits_10 : decode cX12_waits 10 = .ok (.goto 4, 3) := by decide +kernel
theorem dX12_waits_13 : decode cX12_waits 13 = .ok (.iconst 0, 1) := by decide +kernel
theorem dX12_waits_14 : decode cX12_waits 14 = .ok (.ireturn, 1) := by decide +kernel
theorem dX12_isHeld_0 : decode cX12_isHeld 0 = .ok (.iconst 0, 1) := by decide +kernel
theorem dX12_isHeld_1 : decode cX12_isHeld 1 = .ok (.istore_n 2, 1) := by decide +kernel
theorem dX12_isHeld_2 : decode cX12_isHeld 2 = .ok (.iconst 0, 1) := by decide +kernel
theorem dX12_isHeld_3 : decode cX12_isHeld 3 = .ok (.istore_n 3, 1) := by decide +kernel
theorem dX12_isHeld_4 : decode cX12_isHeld 4 = .ok (.iload_n 3, 1) := by decide +kernel
theorem dX12_isHeld_5 : decode cX12_isHeld 5 = .ok (.iload_n 1, 1) := by decide +kernel
theorem dX12_isHeld_6 : decode cX12_isHeld 6 = .ok (.if_icmp .ge 137, 3) := by decide +kernel
theorem dX12_isHeld_9 : decode cX12_isHeld 9 = .ok (.aload_n 0, 1) := by decide +kernel
theorem dX12_isHeld_10 : decode cX12_isHeld 10 = .ok (.iload_n 1, 1) := by decide +kernel
theorem dX12_isHeld_11 : decode cX12_isHeld 11 = .ok (.invokevirtual 164, 3) := by decide +kernel
theorem dX12_isHeld_14 : decode cX12_isHeld 14 = .ok (.ifCond .eq 129, 3) := by decide +kernel
theorem dX12_isHeld_17 : decode cX12_isHeld 17 = .ok (.aload_n 0, 1) := by decide +kernel
theorem dX12_isHeld_18 : decode cX12_isHeld 18 = .ok (.getfield 29, 3) := by decide +kernel
theorem dX12_isHeld_21 : decode cX12_isHeld 21 = .ok (.iload_n 3, 1) := by decide +kernel
theorem dX12_isHeld_22 : decode cX12_isHeld 22 = .ok (.iaload, 1) := by decide +kernel
theorem dX12_isHeld_23 : decode cX12_isHeld 23 = .ok (.iconst 4, 1) := by decide +kernel
theorem dX12_isHeld_24 : decode cX12_isHeld 24 = .ok (.if_icmp .ne 22, 3) := by decide +kernel
theorem dX12_isHeld_27 : decode cX12_isHeld 27 = .ok (.aload_n 0, 1) := by decide +kernel
theorem dX12_isHeld_28 : decode cX12_isHeld 28 = .ok (.getfield 32, 3) := by decide +kernel
theorem dX12_isHeld_31 : decode cX12_isHeld 31 = .ok (.iload_n 3, 1) := by decide +kernel
theorem dX12_isHeld_32 : decode cX12_isHeld 32 = .ok (.iaload, 1) := by decide +kernel
theorem dX12_isHeld_33 : decode cX12_isHeld 33 = .ok (.aload_n 0, 1) := by decide +kernel
theorem dX12_isHeld_34 : decode cX12_isHeld 34 = .ok (.getfield 32, 3) := by decide +kernel
theorem dX12_isHeld_37 : decode cX12_isHeld 37 = .ok (.iload_n 1, 1) := by decide +kernel
theorem dX12_isHeld_38 : decode cX12_isHeld 38 = .ok (.iaload, 1) := by decide +kernel
theorem dX12_isHeld_39 : decode cX12_isHeld 39 = .ok (.if_icmp .ne 7, 3) := by decide +kernel
theorem dX12_isHeld_42 : decode cX12_isHeld 42 = .ok (.iconst 1, 1) := by decide +kernel
theorem dX12_isHeld_43 : decode cX12_isHeld 43 = .ok (.goto 4, 3) := by decide +kernel
theorem dX12_isHeld_46 : decode cX12_isHeld 46 = .ok (.iconst 0, 1) := by decide +kernel
theorem dX12_isHeld_47 : decode cX12_isHeld 47 = .ok (.istore 4, 2) := by decide +kernel
theorem dX12_isHeld_49 : decode cX12_isHeld 49 = .ok (.aload_n 0, 1) := by decide +kernel
theorem dX12_isHeld_50 : decode cX12_isHeld 50 = .ok (.getfield 29, 3) := by decide +kernel
theorem dX12_isHeld_53 : decode cX12_isHeld 53 = .ok (.iload_n 3, 1) := by decide +kernel
theorem dX12_isHeld_54 : decode cX12_isHeld 54 = .ok (.iaload, 1) := by decide +kernel
theorem dX12_isHeld_55 : decode cX12_isHeld 55 = .ok (.iconst 4, 1) := by decide +kernel
theorem dX12_isHeld_56 : decode cX12_isHeld 56 = .ok (.if_icmp .eq 50, 3) := by decide +kernel
theorem dX12_isHeld_59 : decode cX12_isHeld 59 = .ok (.aload_n 0, 1) := by decide +kernel
theorem dX12_isHeld_60 : decode cX12_isHeld 60 = .ok (.getfield 29, 3) := by decide +kernel
theorem dX12_isHeld_63 : decode cX12_isHeld 63 = .ok (.iload_n 1, 1) := by decide +kernel
theorem dX12_isHeld_64 : decode cX12_isHeld 64 = .ok (.iaload, 1) := by decide +kernel
theorem dX12_isHeld_65 : decode cX12_isHeld 65 = .ok (.iconst 4, 1) := by decide +kernel
theorem dX12_isHeld_66 : decode cX12_isHeld 66 = .ok (.if_icmp .eq 40, 3) := by decide +kernel
theorem dX12_isHeld_69 : decode cX12_isHeld 69 = .ok (.aload_n 0, 1) := by decide +kernel
theorem dX12_isHeld_70 : decode cX12_isHeld 70 = .ok (.getfield 35, 3) := by decide +kernel
theorem dX12_isHeld_73 : decode cX12_isHeld 73 = .ok (.iload_n 3, 1) := by decide +kernel
theorem dX12_isHeld_74 : decode cX12_isHeld 74 = .ok (.iaload, 1) := by decide +kernel
theorem dX12_isHeld_75 : decode cX12_isHeld 75 = .ok (.aload_n 0, 1) := by decide +kernel
theorem dX12_isHeld_76 : decode cX12_isHeld 76 = .ok (.getfield 35, 3) := by decide +kernel
theorem dX12_isHeld_79 : decode cX12_isHeld 79 = .ok (.iload_n 1, 1) := by decide +kernel
theorem dX12_isHeld_80 : decode cX12_isHeld 80 = .ok (.iaload, 1) := by decide +kernel
theorem dX12_isHeld_81 : decode cX12_isHeld 81 = .ok (.if_icmp .ne 25, 3) := by decide +kernel
theorem dX12_isHeld_84 : decode cX12_isHeld 84 = .ok (.aload_n 0, 1) := by decide +kernel
theorem dX12_isHeld_85 : decode cX12_isHeld 85 = .ok (.getfield 29, 3) := by decide +kernel
theorem dX12_isHeld_88 : decode cX12_isHeld 88 = .ok (.iload_n 3, 1) := by decide +kernel
theorem dX12_isHeld_89 : decode cX12_isHeld 89 = .ok (.iaload, 1) := by decide +kernel
theorem dX12_isHeld_90 : decode cX12_isHeld 90 = .ok (.ifCond .ne 12, 3) := by decide +kernel
theorem dX12_isHeld_93 : decode cX12_isHeld 93 = .ok (.aload_n 0, 1) := by decide +kernel
theorem dX12_isHeld_94 : decode cX12_isHeld 94 = .ok (.getfield 29, 3) := by decide +kernel
theorem dX12_isHeld_97 : decode cX12_isHeld 97 = .ok (.iload_n 1, 1) := by decide +kernel
theorem dX12_isHeld_98 : decode cX12_isHeld 98 = .ok (.iaload, 1) := by decide +kernel
theorem dX12_isHeld_99 : decode cX12_isHeld 99 = .ok (.ifCond .eq 7, 3) := by decide +kernel
theorem dX12_isHeld_102 : decode cX12_isHeld 102 = .ok (.iconst 1, 1) := by decide +kernel
theorem dX12_isHeld_103 : decode cX12_isHeld 103 = .ok (.goto 4, 3) := by decide +kernel
theorem dX12_isHeld_106 : decode cX12_isHeld 106 = .ok (.iconst 0, 1) := by decide +kernel
theorem dX12_isHeld_107 : decode cX12_isHeld 107 = .ok (.istore 5, 2) := by decide +kernel
theorem dX12_isHeld_109 : decode cX12_isHeld 109 = .ok (.iload_n 2, 1) := by decide +kernel
theorem dX12_isHeld_110 : decode cX12_isHeld 110 = .ok (.ifCond .ne 21, 3) := by decide +kernel
theorem dX12_isHeld_113 : decode cX12_isHeld 113 = .ok (.aload_n 0, 1) := by decide +kernel
theorem dX12_isHeld_114 : decode cX12_isHeld 114 = .ok (.iload_n 3, 1) := by decide +kernel
theorem dX12_isHeld_115 : decode cX12_isHeld 115 = .ok (.invokevirtual 164, 3) := by decide +kernel
theorem dX12_isHeld_118 : decode cX12_isHeld 118 = .ok (.ifCond .eq 17, 3) := by decide +kernel
theorem dX12_isHeld_121 : decode cX12_isHeld 121 = .ok (.iload 4, 2) := by decide +kernel
theorem dX12_isHeld_123 : decode cX12_isHeld 123 = .ok (.ifCond .ne 8, 3) := by decide +kernel
theorem dX12_isHeld_126 : decode cX12_isHeld 126 = .ok (.iload 5, 2) := by decide +kernel
theorem dX12_isHeld_128 : decode cX12_isHeld 128 = .ok (.ifCond .eq 7, 3) := by decide +kernel
theorem dX12_isHeld_131 : decode cX12_isHeld 131 = .ok (.iconst 1, 1) := by decide +kernel
theorem dX12_isHeld_132 : decode cX12_isHeld 132 = .ok (.goto 4, 3) := by decide +kernel
theorem dX12_isHeld_135 : decode cX12_isHeld 135 = .ok (.iconst 0, 1) := by decide +kernel
theorem dX12_isHeld_136 : decode cX12_isHeld 136 = .ok (.istore_n 2, 1) := by decide +kernel
theorem dX12_isHeld_137 : decode cX12_isHeld 137 = .ok (.iinc 3 1, 3) := by decide +kernel
theorem dX12_isHeld_140 : decode cX12_isHeld 140 = .ok (.goto (-136), 3) := by decide +kernel
theorem dX12_isHeld_143 : decode cX12_isHeld 143 = .ok (.iload_n 2, 1) := by decide +kernel
theorem dX12_isHeld_144 : decode cX12_isHeld 144 = .ok (.ireturn, 1) := by decide +kernel
theorem dX12_isOpen_0 : decode cX12_isOpen 0 = .ok (.aload_n 0, 1) := by decide +kernel
theorem dX12_isOpen_1 : decode cX12_isOpen 1 = .ok (.getfield 23, 3) := by decide +kernel
theorem dX12_isOpen_4 : decode cX12_isOpen 4 = .ok (.aload_n 0, 1) := by decide +kernel
theorem dX12_isOpen_5 : decode cX12_isOpen 5 = .ok (.getfield 35, 3) := by decide +kernel
theorem dX12_isOpen_8 : decode cX12_isOpen 8 = .ok (.iload_n 1, 1) := by decide +kernel
theorem dX12_isOpen_9 : decode cX12_isOpen 9 = .ok (.iaload, 1) := by decide +kernel
theorem dX12_isOpen_10 : decode cX12_isOpen 10 = .ok (.invokestatic 168, 3) := by decide +kernel
theorem dX12_isOpen_13 : decode cX12_isOpen 13 = .ok (.iaload, 1) := by decide +kernel
theorem dX12_isOpen_14 : decode cX12_isOpen 14 = .ok (.aload_n 0, 1) := by decide +kernel
theorem dX12_isOpen_15 : decode cX12_isOpen 15 = .ok (.getfield 35, 3) := by decide +kernel
theorem dX12_isOpen_18 : decode cX12_isOpen 18 = .ok (.iload_n 1, 1) := by decide +kernel
theorem dX12_isOpen_19 : decode cX12_isOpen 19 = .ok (.iaload, 1) := by decide +kernel
theorem dX12_isOpen_20 : decode cX12_isOpen 20 = .ok (.invokestatic 172, 3) := by decide +kernel
theorem dX12_isOpen_23 : decode cX12_isOpen 23 = .ok (.if_icmp .ne 7, 3) := by decide +kernel
theorem dX12_isOpen_26 : decode cX12_isOpen 26 = .ok (.iconst 1, 1) := by decide +kernel
theorem dX12_isOpen_27 : decode cX12_isOpen 27 = .ok (.goto 4, 3) := by decide +kernel
theorem dX12_isOpen_30 : decode cX12_isOpen 30 = .ok (.iconst 0, 1) := by decide +kernel
theorem dX12_isOpen_31 : decode cX12_isOpen 31 = .ok (.ireturn, 1) := by decide +kernel
theorem dX12_rank_0 : decode cX12_rank 0 = .ok (.aload_n 0, 1) := by decide +kernel
theorem dX12_rank_1 : decode cX12_rank 1 = .ok (.getfield 135, 3) := by decide +kernel
theorem dX12_rank_4 : decode cX12_rank 4 = .ok (.ifCond .eq 22, 3) := by decide +kernel
theorem dX12_rank_7 : decode cX12_rank 7 = .ok (.aload_n 0, 1) := by decide +kernel
theorem dX12_rank_8 : decode cX12_rank 8 = .ok (.getfield 135, 3) := by decide +kernel
theorem dX12_rank_11 : decode cX12_rank 11 = .ok (.iconst 1, 1) := by decide +kernel
theorem dX12_rank_12 : decode cX12_rank 12 = .ok (.if_icmp .ne 16, 3) := by decide +kernel
theorem dX12_rank_15 : decode cX12_rank 15 = .ok (.aload_n 0, 1) := by decide +kernel
theorem dX12_rank_16 : decode cX12_rank 16 = .ok (.getfield 147, 3) := by decide +kernel
theorem dX12_rank_19 : decode cX12_rank 19 = .ok (.aload_n 0, 1) := by decide +kernel
theorem dX12_rank_20 : decode cX12_rank 20 = .ok (.getfield 17, 3) := by decide +kernel
theorem dX12_rank_23 : decode cX12_rank 23 = .ok (.if_icmp .lt 5, 3) := by decide +kernel
theorem dX12_rank_26 : decode cX12_rank 26 = .ok (.iconst 0, 1) := by decide +kernel
theorem dX12_rank_27 : decode cX12_rank 27 = .ok (.ireturn, 1) := by decide +kernel
theorem dX12_rank_28 : decode cX12_rank 28 = .ok (.aload_n 0, 1) := by decide +kernel
theorem dX12_rank_29 : decode cX12_rank 29 = .ok (.getfield 135, 3) := by decide +kernel
theorem dX12_rank_32 : decode cX12_rank 32 = .ok (.iconst 1, 1) := by decide +kernel
theorem dX12_rank_33 : decode cX12_rank 33 = .ok (.if_icmp .ne 19, 3) := by decide +kernel
theorem dX12_rank_36 : decode cX12_rank 36 = .ok (.aload_n 0, 1) := by decide +kernel
theorem dX12_rank_37 : decode cX12_rank 37 = .ok (.iload_n 1, 1) := by decide +kernel
theorem dX12_rank_38 : decode cX12_rank 38 = .ok (.invokevirtual 175, 3) := by decide +kernel
theorem dX12_rank_41 : decode cX12_rank 41 = .ok (.ifCond .eq 7, 3) := by decide +kernel
theorem dX12_rank_44 : decode cX12_rank 44 = .ok (.iconst 0, 1) := by decide +kernel
theorem dX12_rank_45 : decode cX12_rank 45 = .ok (.goto 27, 3) := by decide +kernel
theorem dX12_rank_48 : decode cX12_rank 48 = .ok (.iconst 1, 1) := by decide +kernel
theorem dX12_rank_49 : decode cX12_rank 49 = .ok (.goto 23, 3) := by decide +kernel
theorem dX12_rank_52 : decode cX12_rank 52 = .ok (.iconst 4, 1) := by decide +kernel
theorem dX12_rank_53 : decode cX12_rank 53 = .ok (.aload_n 0, 1) := by decide +kernel
theorem dX12_rank_54 : decode cX12_rank 54 = .ok (.getfield 53, 3) := by decide +kernel
theorem dX12_rank_57 : decode cX12_rank 57 = .ok (.aload_n 0, 1) := by decide +kernel
theorem dX12_rank_58 : decode cX12_rank 58 = .ok (.getfield 32, 3) := by decide +kernel
theorem dX12_rank_61 : decode cX12_rank 61 = .ok (.iload_n 1, 1) := by decide +kernel
theorem dX12_rank_62 : decode cX12_rank 62 = .ok (.iaload, 1) := by decide +kernel
theorem dX12_rank_63 : decode cX12_rank 63 = .ok (.iaload, 1) := by decide +kernel
theorem dX12_rank_64 : decode cX12_rank 64 = .ok (.imul, 1) := by decide +kernel
theorem dX12_rank_65 : decode cX12_rank 65 = .ok (.aload_n 0, 1) := by decide +kernel
theorem dX12_rank_66 : decode cX12_rank 66 = .ok (.getfield 32, 3) := by decide +kernel
theorem dX12_rank_69 : decode cX12_rank 69 = .ok (.iload_n 1, 1) := by decide +kernel
theorem dX12_rank_70 : decode cX12_rank 70 = .ok (.iaload, 1) := by decide +kernel
theorem dX12_rank_71 : decode cX12_rank 71 = .ok (.iadd, 1) := by decide +kernel
theorem dX12_rank_72 : decode cX12_rank 72 = .ok (.ireturn, 1) := by decide +kernel
theorem dX12_findOrder_0 : decode cX12_findOrder 0 = .ok (.aload_n 0, 1) := by decide +kernel
theorem dX12_findOrder_1 : decode cX12_findOrder 1 = .ok (.iconst 0, 1) := by decide +kernel
theorem dX12_findOrder_2 : decode cX12_findOrder 2 = .ok (.putfield 178, 3) := by decide +kernel
theorem dX12_findOrder_5 : decode cX12_findOrder 5 = .ok (.iconst 0, 1) := by decide +kernel
theorem dX12_findOrder_6 : decode cX12_findOrder 6 = .ok (.istore_n 1, 1) := by decide +kernel
theorem dX12_findOrder_7 : decode cX12_findOrder 7 = .ok (.iload_n 1, 1) := by decide +kernel
theorem dX12_findOrder_8 : decode cX12_findOrder 8 = .ok (.aload_n 0, 1) := by decide +kernel
theorem dX12_findOrder_9 : decode cX12_findOrder 9 = .ok (.getfield 141, 3) := by decide +kernel
theorem dX12_findOrder_12 : decode cX12_findOrder 12 = .ok (.if_icmp .ge 96, 3) := by decide +kernel
theorem dX12_findOrder_15 : decode cX12_findOrder 15 = .ok (.aload_n 0, 1) := by decide +kernel
theorem dX12_findOrder_16 : decode cX12_findOrder 16 = .ok (.iload_n 1, 1) := by decide +kernel
theorem dX12_findOrder_17 : decode cX12_findOrder 17 = .ok (.invokevirtual 164, 3) := by decide +kernel
theorem dX12_findOrder_20 : decode cX12_findOrder 20 = .ok (.ifCond .eq 82, 3) := by decide +kernel
theorem dX12_findOrder_23 : decode cX12_findOrder 23 = .ok (.aload_n 0, 1) := by decide +kernel
theorem dX12_findOrder_24 : decode cX12_findOrder 24 = .ok (.getfield 29, 3) := by decide +kernel
theorem dX12_findOrder_27 : decode cX12_findOrder 27 = .ok (.iload_n 1, 1) := by decide +kernel
theorem dX12_findOrder_28 : decode cX12_findOrder 28 = .ok (.iaload, 1) := by decide +kernel
theorem dX12_findOrder_29 : decode cX12_findOrder 29 = .ok (.iconst 4, 1) := by decide +kernel
theorem dX12_findOrder_30 : decode cX12_findOrder 30 = .ok (.if_icmp .ne 6, 3) := by decide +kernel
theorem dX12_findOrder_33 : decode cX12_findOrder 33 = .ok (.goto 69, 3) := by decide +kernel
theorem dX12_findOrder_36 : decode cX12_findOrder 36 = .ok (.aload_n 0, 1) := by decide +kernel
theorem dX12_findOrder_37 : decode cX12_findOrder 37 = .ok (.getfield 178, 3) := by decide +kernel
theorem dX12_findOrder_40 : decode cX12_findOrder 40 = .ok (.istore_n 2, 1) := by decide +kernel
theorem dX12_findOrder_41 : decode cX12_findOrder 41 = .ok (.iload_n 2, 1) := by decide +kernel
theorem dX12_findOrder_42 : decode cX12_findOrder 42 = .ok (.ifCond .le 43, 3) := by decide +kernel
theorem dX12_findOrder_45 : decode cX12_findOrder 45 = .ok (.aload_n 0, 1) := by decide +kernel
theorem dX12_findOrder_46 : decode cX12_findOrder 46 = .ok (.aload_n 0, 1) := by decide +kernel
theorem dX12_findOrder_47 : decode cX12_findOrder 47 = .ok (.getfield 89, 3) := by decide +kernel
theorem dX12_findOrder_50 : decode cX12_findOrder 50 = .ok (.iload_n 2, 1) := by decide +kernel
theorem dX12_findOrder_51 : decode cX12_findOrder 51 = .ok (.iconst 1, 1) := by decide +kernel
theorem dX12_findOrder_52 : decode cX12_findOrder 52 = .ok (.isub, 1) := by decide +kernel
theorem dX12_findOrder_53 : decode cX12_findOrder 53 = .ok (.iaload, 1) := by decide +kernel
theorem dX12_findOrder_54 : decode cX12_findOrder 54 = .ok (.invokevirtual 181, 3) := by decide +kernel
theorem dX12_findOrder_57 : decode cX12_findOrder 57 = .ok (.aload_n 0, 1) := by decide +kernel
theorem dX12_findOrder_58 : decode cX12_findOrder 58 = .ok (.iload_n 1, 1) := by decide +kernel
theorem dX12_findOrder_59 : decode cX12_findOrder 59 = .ok (.invokevirtual 181, 3) := by decide +kernel
theorem dX12_findOrder_62 : decode cX12_findOrder 62 = .ok (.if_icmp .le 23, 3) := by decide +kernel
theorem dX12_findOrder_65 : decode cX12_findOrder 65 = .ok (.aload_n 0, 1) := by decide +kernel
theorem dX12_findOrder_66 : decode cX12_findOrder 66 = .ok (.getfield 89, 3) := by decide +kernel
theorem dX12_findOrder_69 : decode cX12_findOrder 69 = .ok (.iload_n 2, 1) := by decide +kernel
theorem dX12_findOrder_70 : decode cX12_findOrder 70 = .ok (.aload_n 0, 1) := by decide +kernel
theorem dX12_findOrder_71 : decode cX12_findOrder 71 = .ok (.getfield 89, 3) := by decide +kernel
theorem dX12_findOrder_74 : decode cX12_findOrder 74 = .ok (.iload_n 2, 1) := by decide +kernel
theorem dX12_findOrder_75 : decode cX12_findOrder 75 = .ok (.iconst 1, 1) := by decide +kernel
theorem dX12_findOrder_76 : decode cX12_findOrder 76 = .ok (.isub, 1) := by decide +kernel
theorem dX12_findOrder_77 : decode cX12_findOrder 77 = .ok (.iaload, 1) := by decide +kernel
theorem dX12_findOrder_78 : decode cX12_findOrder 78 = .ok (.iastore, 1) := by decide +kernel
theorem dX12_findOrder_79 : decode cX12_findOrder 79 = .ok (.iinc 2 (-1), 3) := by decide +kernel
theorem dX12_findOrder_82 : decode cX12_findOrder 82 = .ok (.goto (-41), 3) := by decide +kernel
theorem dX12_findOrder_85 : decode cX12_findOrder 85 = .ok (.aload_n 0, 1) := by decide +kernel
theorem dX12_findOrder_86 : decode cX12_findOrder 86 = .ok (.getfield 89, 3) := by decide +kernel
theorem dX12_findOrder_89 : decode cX12_findOrder 89 = .ok (.iload_n 2, 1) := by decide +kernel
theorem dX12_findOrder_90 : decode cX12_findOrder 90 = .ok (.iload_n 1, 1) := by decide +kernel
theorem dX12_findOrder_91 : decode cX12_findOrder 91 = .ok (.iastore, 1) := by decide +kernel
theorem dX12_findOrder_92 : decode cX12_findOrder 92 = .ok (.aload_n 0, 1) := by decide +kernel
theorem dX12_findOrder_93 : decode cX12_findOrder 93 = .ok (.dup, 1) := by decide +kernel
theorem dX12_findOrder_94 : decode cX12_findOrder 94 = .ok (.getfield 178, 3) := by decide +kernel
theorem dX12_findOrder_97 : decode cX12_findOrder 97 = .ok (.iconst 1, 1) := by decide +kernel
theorem dX12_findOrder_98 : decode cX12_findOrder 98 = .ok (.iadd, 1) := by decide +kernel
theorem dX12_findOrder_99 : decode cX12_findOrder 99 = .ok (.putfield 178, 3) := by decide +kernel
theorem dX12_findOrder_102 : decode cX12_findOrder 102 = .ok (.iinc 1 1, 3) := by decide +kernel
theorem dX12_findOrder_105 : decode cX12_findOrder 105 = .ok (.goto (-98), 3) := by decide +kernel
theorem dX12_findOrder_108 : decode cX12_findOrder 108 = .ok (.return_, 1) := by decide +kernel
theorem dX12_asked_0 : decode cX12_asked 0 = .ok (.iload_n 3, 1) := by decide +kernel
theorem dX12_asked_1 : decode cX12_asked 1 = .ok (.iload 5, 2) := by decide +kernel
theorem dX12_asked_3 : decode cX12_asked 3 = .ok (.if_icmp .ne 7, 3) := by decide +kernel
theorem dX12_asked_6 : decode cX12_asked 6 = .ok (.iconst 1, 1) := by decide +kernel
theorem dX12_asked_7 : decode cX12_asked 7 = .ok (.goto 4, 3) := by decide +kernel
theorem dX12_asked_10 : decode cX12_asked 10 = .ok (.iconst 0, 1) := by decide +kernel
theorem dX12_asked_11 : decode cX12_asked 11 = .ok (.istore 6, 2) := by decide +kernel
theorem dX12_asked_13 : decode cX12_asked 13 = .ok (.iload_n 3, 1) := by decide +kernel
theorem dX12_asked_14 : decode cX12_asked 14 = .ok (.iconst 2, 1) := by decide +kernel
theorem dX12_asked_15 : decode cX12_asked 15 = .ok (.idiv, 1) := by decide +kernel
theorem dX12_asked_16 : decode cX12_asked 16 = .ok (.iload 5, 2) := by decide +kernel
theorem dX12_asked_18 : decode cX12_asked 18 = .ok (.iconst 2, 1) := by decide +kernel
theorem dX12_asked_19 : decode cX12_asked 19 = .ok (.idiv, 1) := by decide +kernel
theorem dX12_asked_20 : decode cX12_asked 20 = .ok (.if_icmp .ne 7, 3) := by decide +kernel
theorem dX12_asked_23 : decode cX12_asked 23 = .ok (.iconst 1, 1) := by decide +kernel
theorem dX12_asked_24 : decode cX12_asked 24 = .ok (.goto 4, 3) := by decide +kernel
theorem dX12_asked_27 : decode cX12_asked 27 = .ok (.iconst 0, 1) := by decide +kernel
theorem dX12_asked_28 : decode cX12_asked 28 = .ok (.istore 7, 2) := by decide +kernel
theorem dX12_asked_30 : decode cX12_asked 30 = .ok (.iload 4, 2) := by decide +kernel
theorem dX12_asked_32 : decode cX12_asked 32 = .ok (.iconst 2, 1) := by decide +kernel
theorem dX12_asked_33 : decode cX12_asked 33 = .ok (.if_icmp .eq 9, 3) := by decide +kernel
theorem dX12_asked_36 : decode cX12_asked 36 = .ok (.iload 4, 2) := by decide +kernel
theorem dX12_asked_38 : decode cX12_asked 38 = .ok (.iconst 3, 1) := by decide +kernel
theorem dX12_asked_39 : decode cX12_asked 39 = .ok (.if_icmp .ne 7, 3) := by decide +kernel
theorem dX12_asked_42 : decode cX12_asked 42 = .ok (.iconst 1, 1) := by decide +kernel
theorem dX12_asked_43 : decode cX12_asked 43 = .ok (.goto 4, 3) := by decide +kernel
theorem dX12_asked_46 : decode cX12_asked 46 = .ok (.iconst 0, 1) := by decide +kernel
theorem dX12_asked_47 : decode cX12_asked 47 = .ok (.istore 8, 2) := by decide +kernel
theorem dX12_asked_49 : decode cX12_asked 49 = .ok (.iload_n 2, 1) := by decide +kernel
theorem dX12_asked_50 : decode cX12_asked 50 = .ok (.iconst 2, 1) := by decide +kernel
theorem dX12_asked_51 : decode cX12_asked 51 = .ok (.if_icmp .eq 8, 3) := by decide +kernel
theorem dX12_asked_54 : decode cX12_asked 54 = .ok (.iload_n 2, 1) := by decide +kernel
theorem dX12_asked_55 : decode cX12_asked 55 = .ok (.iconst 3, 1) := by decide +kernel
theorem dX12_asked_56 : decode cX12_asked 56 = .ok (.if_icmp .ne 7, 3) := by decide +kernel
theorem dX12_asked_59 : decode cX12_asked 59 = .ok (.iconst 1, 1) := by decide +kernel
theorem dX12_asked_60 : decode cX12_asked 60 = .ok (.goto 4, 3) := by decide +kernel
theorem dX12_asked_63 : decode cX12_asked 63 = .ok (.iconst 0, 1) := by decide +kernel
theorem dX12_asked_64 : decode cX12_asked 64 = .ok (.istore 9, 2) := by decide +kernel
theorem dX12_asked_66 : decode cX12_asked 66 = .ok (.iload_n 1, 1) := by decide +kernel
theorem dX12_asked_67 : decode cX12_asked 67 = .ok (.tableswitch 318 0 11 #[61, 85, 110, 135, 161, 187, 212, 237, 258, 279, 318, 303], 61) := by decide +kernel
theorem dX12_asked_128 : decode cX12_asked 128 = .ok (.iload 8, 2) := by decide +kernel
theorem dX12_asked_130 : decode cX12_asked 130 = .ok (.ifCond .eq 16, 3) := by decide +kernel
theorem dX12_asked_133 : decode cX12_asked 133 = .ok (.iload_n 2, 1) := by decide +kernel
theorem dX12_asked_134 : decode cX12_asked 134 = .ok (.ifCond .ne 12, 3) := by decide +kernel
theorem dX12_asked_137 : decode cX12_asked 137 = .ok (.iload 6, 2) := by decide +kernel
theorem dX12_asked_139 : decode cX12_asked 139 = .ok (.ifCond .eq 7, 3) := by decide +kernel
theorem dX12_asked_142 : decode cX12_asked 142 = .ok (.iconst 1, 1) := by decide +kernel
theorem dX12_asked_143 : decode cX12_asked 143 = .ok (.goto 4, 3) := by decide +kernel
theorem dX12_asked_146 : decode cX12_asked 146 = .ok (.iconst 0, 1) := by decide +kernel
theorem dX12_asked_147 : decode cX12_asked 147 = .ok (.istore 10, 2) := by decide +kernel
theorem dX12_asked_149 : decode cX12_asked 149 = .ok (.goto 260, 3) := by decide +kernel
theorem dX12_asked_152 : decode cX12_asked 152 = .ok (.iload 4, 2) := by decide +kernel
theorem dX12_asked_154 : decode cX12_asked 154 = .ok (.iconst 1, 1) := by decide +kernel
theorem dX12_asked_155 : decode cX12_asked 155 = .ok (.if_icmp .ne 16, 3) := by decide +kernel
theorem dX12_asked_158 : decode cX12_asked 158 = .ok (.iload_n 2, 1) := by decide +kernel
theorem dX12_asked_159 : decode cX12_asked 159 = .ok (.ifCond .ne 12, 3) := by decide +kernel
theorem dX12_asked_162 : decode cX12_asked 162 = .ok (.iload 6, 2) := by decide +kernel
theorem dX12_asked_164 : decode cX12_asked 164 = .ok (.ifCond .eq 7, 3) := by decide +kernel
theorem dX12_asked_167 : decode cX12_asked 167 = .ok (.iconst 1, 1) := by decide +kernel
theorem dX12_asked_168 : decode cX12_asked 168 = .ok (.goto 4, 3) := by decide +kernel
theorem dX12_asked_171 : decode cX12_asked 171 = .ok (.iconst 0, 1) := by decide +kernel
theorem dX12_asked_172 : decode cX12_asked 172 = .ok (.istore 10, 2) := by decide +kernel
theorem dX12_asked_174 : decode cX12_asked 174 = .ok (.goto 235, 3) := by decide +kernel
theorem dX12_asked_177 : decode cX12_asked 177 = .ok (.iload 4, 2) := by decide +kernel
theorem dX12_asked_179 : decode cX12_asked 179 = .ok (.ifCond .ne 17, 3) := by decide +kernel
theorem dX12_asked_182 : decode cX12_asked 182 = .ok (.iload_n 2, 1) := by decide +kernel
theorem dX12_asked_183 : decode cX12_asked 183 = .ok (.iconst 1, 1) := by decide +kernel
theorem dX12_asked_184 : decode cX12_asked 184 = .ok (.if_icmp .ne 12, 3) := by decide +kernel
theorem dX12_asked_187 : decode cX12_asked 187 = .ok (.iload 6, 2) := by decide +kernel
theorem dX12_asked_189 : decode cX12_asked 189 = .ok (.ifCond .eq 7, 3) := by decide +kernel
theorem dX12_asked_192 : decode cX12_asked 192 = .ok (.iconst 1, 1) := by decide +kernel
theorem dX12_asked_193 : decode cX12_asked 193 = .ok (.goto 4, 3) := by decide +kernel
theorem dX12_asked_196 : decode cX12_asked 196 = .ok (.iconst 0, 1) := by decide +kernel
theorem dX12_asked_197 : decode cX12_asked 197 = .ok (.istore 10, 2) := by decide +kernel
theorem dX12_asked_199 : decode cX12_asked 199 = .ok (.goto 210, 3) := by decide +kernel
theorem dX12_asked_202 : decode cX12_asked 202 = .ok (.iload 4, 2) := by decide +kernel
theorem dX12_asked_204 : decode cX12_asked 204 = .ok (.iconst 1, 1) := by decide +kernel
theorem dX12_asked_205 : decode cX12_asked 205 = .ok (.if_icmp .ne 17, 3) := by decide +kernel
theorem dX12_asked_208 : decode cX12_asked 208 = .ok (.iload_n 2, 1) := by decide +kernel
theorem dX12_asked_209 : decode cX12_asked 209 = .ok (.iconst 2, 1) := by decide +kernel
theorem dX12_asked_210 : decode cX12_asked 210 = .ok (.if_icmp .ne 12, 3) := by decide +kernel
theorem dX12_asked_213 : decode cX12_asked 213 = .ok (.iload 6, 2) := by decide +kernel
theorem dX12_asked_215 : decode cX12_asked 215 = .ok (.ifCond .eq 7, 3) := by decide +kernel
theorem dX12_asked_218 : decode cX12_asked 218 = .ok (.iconst 1, 1) := by decide +kernel
theorem dX12_asked_219 : decode cX12_asked 219 = .ok (.goto 4, 3) := by decide +kernel
theorem dX12_asked_222 : decode cX12_asked 222 = .ok (.iconst 0, 1) := by decide +kernel
theorem dX12_asked_223 : decode cX12_asked 223 = .ok (.istore 10, 2) := by decide +kernel
theorem dX12_asked_225 : decode cX12_asked 225 = .ok (.goto 184, 3) := by decide +kernel
theorem dX12_asked_228 : decode cX12_asked 228 = .ok (.iload 4, 2) := by decide +kernel
theorem dX12_asked_230 : decode cX12_asked 230 = .ok (.iconst 1, 1) := by decide +kernel
theorem dX12_asked_231 : decode cX12_asked 231 = .ok (.if_icmp .ne 17, 3) := by decide +kernel
theorem dX12_asked_234 : decode cX12_asked 234 = .ok (.iload_n 2, 1) := by decide +kernel
theorem dX12_asked_235 : decode cX12_asked 235 = .ok (.iconst 3, 1) := by decide +kernel
theorem dX12_asked_236 : decode cX12_asked 236 = .ok (.if_icmp .ne 12, 3) := by decide +kernel
theorem dX12_asked_239 : decode cX12_asked 239 = .ok (.iload 6, 2) := by decide +kernel
theorem dX12_asked_241 : decode cX12_asked 241 = .ok (.ifCond .eq 7, 3) := by decide +kernel
theorem dX12_asked_244 : decode cX12_asked 244 = .ok (.iconst 1, 1) := by decide +kernel
theorem dX12_asked_245 : decode cX12_asked 245 = .ok (.goto 4, 3) := by decide +kernel
theorem dX12_asked_248 : decode cX12_asked 248 = .ok (.iconst 0, 1) := by decide +kernel
theorem dX12_asked_249 : decode cX12_asked 249 = .ok (.istore 10, 2) := by decide +kernel
theorem dX12_asked_251 : decode cX12_asked 251 = .ok (.goto 158, 3) := by decide +kernel
theorem dX12_asked_254 : decode cX12_asked 254 = .ok (.iload 8, 2) := by decide +kernel
theorem dX12_asked_256 : decode cX12_asked 256 = .ok (.ifCond .eq 17, 3) := by decide +kernel
theorem dX12_asked_259 : decode cX12_asked 259 = .ok (.iload 9, 2) := by decide +kernel
theorem dX12_asked_261 : decode cX12_asked 261 = .ok (.ifCond .eq 12, 3) := by decide +kernel
theorem dX12_asked_264 : decode cX12_asked 264 = .ok (.iload 7, 2) := by decide +kernel
theorem dX12_asked_266 : decode cX12_asked 266 = .ok (.ifCond .eq 7, 3) := by decide +kernel
theorem dX12_asked_269 : decode cX12_asked 269 = .ok (.iconst 1, 1) := by decide +kernel
theorem dX12_asked_270 : decode cX12_asked 270 = .ok (.goto 4, 3) := by decide +kernel
theorem dX12_asked_273 : decode cX12_asked 273 = .ok (.iconst 0, 1) := by decide +kernel
theorem dX12_asked_274 : decode cX12_asked 274 = .ok (.istore 10, 2) := by decide +kernel
theorem dX12_asked_276 : decode cX12_asked 276 = .ok (.goto 133, 3) := by decide +kernel
theorem dX12_asked_279 : decode cX12_asked 279 = .ok (.iload 8, 2) := by decide +kernel
theorem dX12_asked_281 : decode cX12_asked 281 = .ok (.ifCond .eq 17, 3) := by decide +kernel
theorem dX12_asked_284 : decode cX12_asked 284 = .ok (.iload 9, 2) := by decide +kernel
theorem dX12_asked_286 : decode cX12_asked 286 = .ok (.ifCond .eq 12, 3) := by decide +kernel
theorem dX12_asked_289 : decode cX12_asked 289 = .ok (.iload 7, 2) := by decide +kernel
theorem dX12_asked_291 : decode cX12_asked 291 = .ok (.ifCond .ne 7, 3) := by decide +kernel
theorem dX12_asked_294 : decode cX12_asked 294 = .ok (.iconst 1, 1) := by decide +kernel
theorem dX12_asked_295 : decode cX12_asked 295 = .ok (.goto 4, 3) := by decide +kernel
theorem dX12_asked_298 : decode cX12_asked 298 = .ok (.iconst 0, 1) := by decide +kernel
theorem dX12_asked_299 : decode cX12_asked 299 = .ok (.istore 10, 2) := by decide +kernel
theorem dX12_asked_301 : decode cX12_asked 301 = .ok (.goto 108, 3) := by decide +kernel
theorem dX12_asked_304 : decode cX12_asked 304 = .ok (.iload 4, 2) := by decide +kernel
theorem dX12_asked_306 : decode cX12_asked 306 = .ok (.iconst 3, 1) := by decide +kernel
theorem dX12_asked_307 : decode cX12_asked 307 = .ok (.if_icmp .ne 12, 3) := by decide +kernel
theorem dX12_asked_310 : decode cX12_asked 310 = .ok (.iload_n 2, 1) := by decide +kernel
theorem dX12_asked_311 : decode cX12_asked 311 = .ok (.iconst 2, 1) := by decide +kernel
theorem dX12_asked_312 : decode cX12_asked 312 = .ok (.if_icmp .ne 7, 3) := by decide +kernel
theorem dX12_asked_315 : decode cX12_asked 315 = .ok (.iconst 1, 1) := by decide +kernel
theorem dX12_asked_316 : decode cX12_asked 316 = .ok (.goto 4, 3) := by decide +kernel
theorem dX12_asked_319 : decode cX12_asked 319 = .ok (.iconst 0, 1) := by decide +kernel
theorem dX12_asked_320 : decode cX12_asked 320 = .ok (.istore 10, 2) := by decide +kernel
theorem dX12_asked_322 : decode cX12_asked 322 = .ok (.goto 87, 3) := by decide +kernel
theorem dX12_asked_325 : decode cX12_asked 325 = .ok (.iload 4, 2) := by decide +kernel
theorem dX12_asked_327 : decode cX12_asked 327 = .ok (.iconst 2, 1) := by decide +kernel
theorem dX12_asked_328 : decode cX12_asked 328 = .ok (.if_icmp .ne 12, 3) := by decide +kernel
theorem dX12_asked_331 : decode cX12_asked 331 = .ok (.iload_n 2, 1) := by decide +kernel
theorem dX12_asked_332 : decode cX12_asked 332 = .ok (.iconst 3, 1) := by decide +kernel
theorem dX12_asked_333 : decode cX12_asked 333 = .ok (.if_icmp .ne 7, 3) := by decide +kernel
theorem dX12_asked_336 : decode cX12_asked 336 = .ok (.iconst 1, 1) := by decide +kernel
theorem dX12_asked_337 : decode cX12_asked 337 = .ok (.goto 4, 3) := by decide +kernel
theorem dX12_asked_340 : decode cX12_asked 340 = .ok (.iconst 0, 1) := by decide +kernel
theorem dX12_asked_341 : decode cX12_asked 341 = .ok (.istore 10, 2) := by decide +kernel
theorem dX12_asked_343 : decode cX12_asked 343 = .ok (.goto 66, 3) := by decide +kernel
theorem dX12_asked_346 : decode cX12_asked 346 = .ok (.iload 4, 2) := by decide +kernel
theorem dX12_asked_348 : decode cX12_asked 348 = .ok (.ifCond .ne 16, 3) := by decide +kernel
theorem dX12_asked_351 : decode cX12_asked 351 = .ok (.iload_n 2, 1) := by decide +kernel
theorem dX12_asked_352 : decode cX12_asked 352 = .ok (.ifCond .ne 12, 3) := by decide +kernel
theorem dX12_asked_355 : decode cX12_asked 355 = .ok (.iload 6, 2) := by decide +kernel
theorem dX12_asked_357 : decode cX12_asked 357 = .ok (.ifCond .ne 7, 3) := by decide +kernel
theorem dX12_asked_360 : decode cX12_asked 360 = .ok (.iconst 1, 1) := by decide +kernel
theorem dX12_asked_361 : decode cX12_asked 361 = .ok (.goto 4, 3) := by decide +kernel
theorem dX12_asked_364 : decode cX12_asked 364 = .ok (.iconst 0, 1) := by decide +kernel
theorem dX12_asked_365 : decode cX12_asked 365 = .ok (.istore 10, 2) := by decide +kernel
theorem dX12_asked_367 : decode cX12_asked 367 = .ok (.goto 42, 3) := by decide +kernel
theorem dX12_asked_370 : decode cX12_asked 370 = .ok (.iload_n 2, 1) := by decide +kernel
theorem dX12_asked_371 : decode cX12_asked 371 = .ok (.iconst 4, 1) := by decide +kernel
theorem dX12_asked_372 : decode cX12_asked 372 = .ok (.if_icmp .ne 7, 3) := by decide +kernel
theorem dX12_asked_375 : decode cX12_asked 375 = .ok (.iconst 1, 1) := by decide +kernel
theorem dX12_asked_376 : decode cX12_asked 376 = .ok (.goto 4, 3) := by decide +kernel
theorem dX12_asked_379 : decode cX12_asked 379 = .ok (.iconst 0, 1) := by decide +kernel
theorem dX12_asked_380 : decode cX12_asked 380 = .ok (.istore 10, 2) := by decide +kernel
theorem dX12_asked_382 : decode cX12_asked 382 = .ok (.goto 27, 3) := by decide +kernel
theorem dX12_asked_385 : decode cX12_asked 385 = .ok (.iload_n 1, 1) := by decide +kernel
theorem dX12_asked_386 : decode cX12_asked 386 = .ok (.bipush 12, 2) := by decide +kernel
theorem dX12_asked_388 : decode cX12_asked 388 = .ok (.if_icmp .ne 18, 3) := by decide +kernel
theorem dX12_asked_391 : decode cX12_asked 391 = .ok (.iload 4, 2) := by decide +kernel
theorem dX12_asked_393 : decode cX12_asked 393 = .ok (.iconst 4, 1) := by decide +kernel
theorem dX12_asked_394 : decode cX12_asked 394 = .ok (.if_icmp .ne 12, 3) := by decide +kernel
theorem dX12_asked_397 : decode cX12_asked 397 = .ok (.iload_n 2, 1) := by decide +kernel
theorem dX12_asked_398 : decode cX12_asked 398 = .ok (.iconst 1, 1) := by decide +kernel
theorem dX12_asked_399 : decode cX12_asked 399 = .ok (.if_icmp .ne 7, 3) := by decide +kernel
theorem dX12_asked_402 : decode cX12_asked 402 = .ok (.iconst 1, 1) := by decide +kernel
theorem dX12_asked_403 : decode cX12_asked 403 = .ok (.goto 4, 3) := by decide +kernel
theorem dX12_asked_406 : decode cX12_asked 406 = .ok (.iconst 0, 1) := by decide +kernel
theorem dX12_asked_407 : decode cX12_asked 407 = .ok (.istore 10, 2) := by decide +kernel
theorem dX12_asked_409 : decode cX12_asked 409 = .ok (.iload 10, 2) := by decide +kernel
theorem dX12_asked_411 : decode cX12_asked 411 = .ok (.ifCond .eq 12, 3) := by decide +kernel
theorem dX12_asked_414 : decode cX12_asked 414 = .ok (.aload_n 0, 1) := by decide +kernel
theorem dX12_asked_415 : decode cX12_asked 415 = .ok (.getfield 7, 3) := by decide +kernel
theorem dX12_asked_418 : decode cX12_asked 418 = .ok (.iload_n 1, 1) := by decide +kernel
theorem dX12_asked_419 : decode cX12_asked 419 = .ok (.iaload, 1) := by decide +kernel
theorem dX12_asked_420 : decode cX12_asked 420 = .ok (.goto 4, 3) := by decide +kernel
theorem dX12_asked_423 : decode cX12_asked 423 = .ok (.iconst 0, 1) := by decide +kernel
theorem dX12_asked_424 : decode cX12_asked 424 = .ok (.ireturn, 1) := by decide +kernel
theorem dX12_fits_0 : decode cX12_fits 0 = .ok (.iconst 0, 1) := by decide +kernel
theorem dX12_fits_1 : decode cX12_fits 1 = .ok (.istore 4, 2) := by decide +kernel
theorem dX12_fits_3 : decode cX12_fits 3 = .ok (.aload_n 0, 1) := by decide +kernel
theorem dX12_fits_4 : decode cX12_fits 4 = .ok (.getfield 184, 3) := by decide +kernel
theorem dX12_fits_7 : decode cX12_fits 7 = .ok (.iconst 1, 1) := by decide +kernel
theorem dX12_fits_8 : decode cX12_fits 8 = .ok (.isub, 1) := by decide +kernel
theorem dX12_fits_9 : decode cX12_fits 9 = .ok (.istore 5, 2) := by decide +kernel
theorem dX12_fits_11 : decode cX12_fits 11 = .ok (.iload 5, 2) := by decide +kernel
theorem dX12_fits_13 : decode cX12_fits 13 = .ok (.ifCond .lt 128, 3) := by decide +kernel
theorem dX12_fits_16 : decode cX12_fits 16 = .ok (.iload 5, 2) := by decide +kernel
theorem dX12_fits_18 : decode cX12_fits 18 = .ok (.aload_n 0, 1) := by decide +kernel
theorem dX12_fits_19 : decode cX12_fits 19 = .ok (.getfield 184, 3) := by decide +kernel
theorem dX12_fits_22 : decode cX12_fits 22 = .ok (.bipush 41, 2) := by decide +kernel
theorem dX12_fits_24 : decode cX12_fits 24 = .ok (.isub, 1) := by decide +kernel
theorem dX12_fits_25 : decode cX12_fits 25 = .ok (.if_icmp .le 116, 3) := by decide +kernel
theorem dX12_fits_28 : decode cX12_fits 28 = .ok (.iload 5, 2) := by decide +kernel
theorem dX12_fits_30 : decode cX12_fits 30 = .ok (.bipush 40, 2) := by decide +kernel
theorem dX12_fits_32 : decode cX12_fits 32 = .ok (.irem, 1) := by decide +kernel
theorem dX12_fits_33 : decode cX12_fits 33 = .ok (.istore 6, 2) := by decide +kernel
theorem dX12_fits_35 : decode cX12_fits 35 = .ok (.iload_n 3, 1) := by decide +kernel
theorem dX12_fits_36 : decode cX12_fits 36 = .ok (.aload_n 0, 1) := by decide +kernel
theorem dX12_fits_37 : decode cX12_fits 37 = .ok (.getfield 59, 3) := by decide +kernel
theorem dX12_fits_40 : decode cX12_fits 40 = .ok (.iload 6, 2) := by decide +kernel
theorem dX12_fits_42 : decode cX12_fits 42 = .ok (.iaload, 1) := by decide +kernel
theorem dX12_fits_43 : decode cX12_fits 43 = .ok (.isub, 1) := by decide +kernel
theorem dX12_fits_44 : decode cX12_fits 44 = .ok (.istore 7, 2) := by decide +kernel
theorem dX12_fits_46 : decode cX12_fits 46 = .ok (.iconst 0, 1) := by decide +kernel
theorem dX12_fits_47 : decode cX12_fits 47 = .ok (.istore 8, 2) := by decide +kernel
theorem dX12_fits_49 : decode cX12_fits 49 = .ok (.iload 8, 2) := by decide +kernel
theorem dX12_fits_51 : decode cX12_fits 51 = .ok (.bipush 13, 2) := by decide +kernel
theorem dX12_fits_53 : decode cX12_fits 53 = .ok (.if_icmp .ge 45, 3) := by decide +kernel
theorem dX12_fits_56 : decode cX12_fits 56 = .ok (.iload 8, 2) := by decide +kernel
theorem dX12_fits_58 : decode cX12_fits 58 = .ok (.bipush 10, 2) := by decide +kernel
theorem dX12_fits_60 : decode cX12_fits 60 = .ok (.if_icmp .eq 32, 3) := by decide +kernel
theorem dX12_fits_63 : decode cX12_fits 63 = .ok (.iload 7, 2) := by decide +kernel
theorem dX12_fits_65 : decode cX12_fits 65 = .ok (.aload_n 0, 1) := by decide +kernel
theorem dX12_fits_66 : decode cX12_fits 66 = .ok (.iload 8, 2) := by decide +kernel
theorem dX12_fits_68 : decode cX12_fits 68 = .ok (.aload_n 0, 1) := by decide +kernel
theorem dX12_fits_69 : decode cX12_fits 69 = .ok (.getfield 62, 3) := by decide +kernel
theorem dX12_fits_72 : decode cX12_fits 72 = .ok (.iload 6, 2) := by decide +kernel
theorem dX12_fits_74 : decode cX12_fits 74 = .ok (.iaload, 1) := by decide +kernel
theorem dX12_fits_75 : decode cX12_fits 75 = .ok (.aload_n 0, 1) := by decide +kernel
theorem dX12_fits_76 : decode cX12_fits 76 = .ok (.getfield 65, 3) := by decide +kernel
theorem dX12_fits_79 : decode cX12_fits 79 = .ok (.iload 6, 2) := by decide +kernel
theorem dX12_fits_81 : decode cX12_fits 81 = .ok (.iaload, 1) := by decide +kernel
theorem dX12_fits_82 : decode cX12_fits 82 = .ok (.iload_n 1, 1) := by decide +kernel
theorem dX12_fits_83 : decode cX12_fits 83 = .ok (.iload_n 2, 1) := by decide +kernel
theorem dX12_fits_84 : decode cX12_fits 84 = .ok (.invokevirtual 187, 3) := by decide +kernel
theorem dX12_fits_87 : decode cX12_fits 87 = .ok (.if_icmp .ge 5, 3) := by decide +kernel
theorem dX12_fits_90 : decode cX12_fits 90 = .ok (.iconst 0, 1) := by decide +kernel
theorem dX12_fits_91 : decode cX12_fits 91 = .ok (.ireturn, 1) := by decide +kernel
theorem dX12_fits_92 : decode cX12_fits 92 = .ok (.iinc 8 1, 3) := by decide +kernel
theorem dX12_fits_95 : decode cX12_fits 95 = .ok (.goto (-46), 3) := by decide +kernel
theorem dX12_fits_98 : decode cX12_fits 98 = .ok (.aload_n 0, 1) := by decide +kernel
theorem dX12_fits_99 : decode cX12_fits 99 = .ok (.getfield 62, 3) := by decide +kernel
theorem dX12_fits_102 : decode cX12_fits 102 = .ok (.iload 6, 2) := by decide +kernel
theorem dX12_fits_104 : decode cX12_fits 104 = .ok (.iaload, 1) := by decide +kernel
theorem dX12_fits_105 : decode cX12_fits 105 = .ok (.ifCond .ne 30, 3) := by decide +kernel
theorem dX12_fits_108 : decode cX12_fits 108 = .ok (.iload_n 1, 1) := by decide +kernel
theorem dX12_fits_109 : decode cX12_fits 109 = .ok (.ifCond .ne 26, 3) := by decide +kernel
theorem dX12_fits_112 : decode cX12_fits 112 = .ok (.iinc 4 1, 3) := by decide +kernel
theorem dX12_fits_115 : decode cX12_fits 115 = .ok (.iload 4, 2) := by decide +kernel
theorem dX12_fits_117 : decode cX12_fits 117 = .ok (.iconst 4, 1) := by decide +kernel
theorem dX12_fits_118 : decode cX12_fits 118 = .ok (.if_icmp .ne 17, 3) := by decide +kernel
theorem dX12_fits_121 : decode cX12_fits 121 = .ok (.iload 7, 2) := by decide +kernel
theorem dX12_fits_123 : decode cX12_fits 123 = .ok (.aload_n 0, 1) := by decide +kernel
theorem dX12_fits_124 : decode cX12_fits 124 = .ok (.getfield 7, 3) := by decide +kernel
theorem dX12_fits_127 : decode cX12_fits 127 = .ok (.bipush 10, 2) := by decide +kernel
theorem dX12_fits_129 : decode cX12_fits 129 = .ok (.iaload, 1) := by decide +kernel
theorem dX12_fits_130 : decode cX12_fits 130 = .ok (.if_icmp .ge 5, 3) := by decide +kernel
theorem dX12_fits_133 : decode cX12_fits 133 = .ok (.iconst 0, 1) := by decide +kernel
theorem dX12_fits_134 : decode cX12_fits 134 = .ok (.ireturn, 1) := by decide +kernel
theorem dX12_fits_135 : decode cX12_fits 135 = .ok (.iinc 5 (-1), 3) := by decide +kernel
theorem dX12_fits_138 : decode cX12_fits 138 = .ok (.goto (-127), 3) := by decide +kernel
theorem dX12_fits_141 : decode cX12_fits 141 = .ok (.iconst 1, 1) := by decide +kernel
theorem dX12_fits_142 : decode cX12_fits 142 = .ok (.ireturn, 1) := by decide +kernel
theorem dX12_allShut_0 : decode cX12_allShut 0 = .ok (.aload_n 0, 1) := by decide +kernel
theorem dX12_allShut_1 : decode cX12_allShut 1 = .ok (.getfield 23, 3) := by decide +kernel
theorem dX12_allShut_4 : decode cX12_allShut 4 = .ok (.iconst 0, 1) := by decide +kernel
theorem dX12_allShut_5 : decode cX12_allShut 5 = .ok (.iaload, 1) := by decide +kernel
theorem dX12_allShut_6 : decode cX12_allShut 6 = .ok (.ifCond .ge 34, 3) := by decide +kernel
theorem dX12_allShut_9 : decode cX12_allShut 9 = .ok (.aload_n 0, 1) := by decide +kernel
theorem dX12_allShut_10 : decode cX12_allShut 10 = .ok (.getfield 23, 3) := by decide +kernel
theorem dX12_allShut_13 : decode cX12_allShut 13 = .ok (.iconst 1, 1) := by decide +kernel
theorem dX12_allShut_14 : decode cX12_allShut 14 = .ok (.iaload, 1) := by decide +kernel
theorem dX12_allShut_15 : decode cX12_allShut 15 = .ok (.ifCond .ge 25, 3) := by decide +kernel
theorem dX12_allShut_18 : decode cX12_allShut 18 = .ok (.aload_n 0, 1) := by decide +kernel
theorem dX12_allShut_19 : decode cX12_allShut 19 = .ok (.getfield 23, 3) := by decide +kernel
theorem dX12_allShut_22 : decode cX12_allShut 22 = .ok (.iconst 2, 1) := by decide +kernel
theorem dX12_allShut_23 : decode cX12_allShut 23 = .ok (.iaload, 1) := by decide +kernel
theorem dX12_allShut_24 : decode cX12_allShut 24 = .ok (.ifCond .ge 16, 3) := by decide +kernel
theorem dX12_allShut_27 : decode cX12_allShut 27 = .ok (.aload_n 0, 1) := by decide +kernel
theorem dX12_allShut_28 : decode cX12_allShut 28 = .ok (.getfield 23, 3) := by decide +kernel
theorem dX12_allShut_31 : decode cX12_allShut 31 = .ok (.iconst 3, 1) := by decide +kernel
theorem dX12_allShut_32 : decode cX12_allShut 32 = .ok (.iaload, 1) := by decide +kernel
theorem dX12_allShut_33 : decode cX12_allShut 33 = .ok (.ifCond .ge 7, 3) := by decide +kernel
theorem dX12_allShut_36 : decode cX12_allShut 36 = .ok (.iconst 1, 1) := by decide +kernel
theorem dX12_allShut_37 : decode cX12_allShut 37 = .ok (.goto 4, 3) := by decide +kernel
theorem dX12_allShut_40 : decode cX12_allShut 40 = .ok (.iconst 0, 1) := by decide +kernel
theorem dX12_allShut_41 : decode cX12_allShut 41 = .ok (.ireturn, 1) := by decide +kernel
theorem dX12_stands_0 : decode cX12_stands 0 = .ok (.iload_n 1, 1) := by decide +kernel
theorem dX12_stands_1 : decode cX12_stands 1 = .ok (.iconst 4, 1) := by decide +kernel
theorem dX12_stands_2 : decode cX12_stands 2 = .ok (.if_icmp .ne 10, 3) := by decide +kernel
theorem dX12_stands_5 : decode cX12_stands 5 = .ok (.aload_n 0, 1) := by decide +kernel
theorem dX12_stands_6 : decode cX12_stands 6 = .ok (.invokevirtual 190, 3) := by decide +kernel
theorem dX12_stands_9 : decode cX12_stands 9 = .ok (.goto 38, 3) := by decide +kernel
theorem dX12_stands_12 : decode cX12_stands 12 = .ok (.iload_n 1, 1) := by decide +kernel
theorem dX12_stands_13 : decode cX12_stands 13 = .ok (.ifCond .ne 20, 3) := by decide +kernel
theorem dX12_stands_16 : decode cX12_stands 16 = .ok (.aload_n 0, 1) := by decide +kernel
theorem dX12_stands_17 : decode cX12_stands 17 = .ok (.getfield 23, 3) := by decide +kernel
theorem dX12_stands_20 : decode cX12_stands 20 = .ok (.iload_n 2, 1) := by decide +kernel
theorem dX12_stands_21 : decode cX12_stands 21 = .ok (.iaload, 1) := by decide +kernel
theorem dX12_stands_22 : decode cX12_stands 22 = .ok (.ifCond .ge 7, 3) := by decide +kernel
theorem dX12_stands_25 : decode cX12_stands 25 = .ok (.iconst 1, 1) := by decide +kernel
theorem dX12_stands_26 : decode cX12_stands 26 = .ok (.goto 21, 3) := by decide +kernel
theorem dX12_stands_29 : decode cX12_stands 29 = .ok (.iconst 0, 1) := by decide +kernel
theorem dX12_stands_30 : decode cX12_stands 30 = .ok (.goto 17, 3) := by decide +kernel
theorem dX12_stands_33 : decode cX12_stands 33 = .ok (.aload_n 0, 1) := by decide +kernel
theorem dX12_stands_34 : decode cX12_stands 34 = .ok (.getfield 23, 3) := by decide +kernel
theorem dX12_stands_37 : decode cX12_stands 37 = .ok (.iload_n 2, 1) := by decide +kernel
theorem dX12_stands_38 : decode cX12_stands 38 = .ok (.iaload, 1) := by decide +kernel
theorem dX12_stands_39 : decode cX12_stands 39 = .ok (.ifCond .lt 7, 3) := by decide +kernel
theorem dX12_stands_42 : decode cX12_stands 42 = .ok (.iconst 1, 1) := by decide +kernel
theorem dX12_stands_43 : decode cX12_stands 43 = .ok (.goto 4, 3) := by decide +kernel
theorem dX12_stands_46 : decode cX12_stands 46 = .ok (.iconst 0, 1) := by decide +kernel
theorem dX12_stands_47 : decode cX12_stands 47 = .ok (.ireturn, 1) := by decide +kernel
theorem dX12_canGo_0 : decode cX12_canGo 0 = .ok (.aload_n 0, 1) := by decide +kernel
theorem dX12_canGo_1 : decode cX12_canGo 1 = .ok (.iload_n 1, 1) := by decide +kernel
theorem dX12_canGo_2 : decode cX12_canGo 2 = .ok (.iload_n 2, 1) := by decide +kernel
theorem dX12_canGo_3 : decode cX12_canGo 3 = .ok (.invokevirtual 194, 3) := by decide +kernel
theorem dX12_canGo_6 : decode cX12_canGo 6 = .ok (.ifCond .eq 20, 3) := by decide +kernel
theorem dX12_canGo_9 : decode cX12_canGo 9 = .ok (.aload_n 0, 1) := by decide +kernel
theorem dX12_canGo_10 : decode cX12_canGo 10 = .ok (.iload_n 1, 1) := by decide +kernel
theorem dX12_canGo_11 : decode cX12_canGo 11 = .ok (.iload_n 2, 1) := by decide +kernel
theorem dX12_canGo_12 : decode cX12_canGo 12 = .ok (.aload_n 0, 1) := by decide +kernel
theorem dX12_canGo_13 : decode cX12_canGo 13 = .ok (.getfield 20, 3) := by decide +kernel
theorem dX12_canGo_16 : decode cX12_canGo 16 = .ok (.invokevirtual 198, 3) := by decide +kernel
theorem dX12_canGo_19 : decode cX12_canGo 19 = .ok (.ifCond .eq 7, 3) := by decide +kernel
theorem dX12_canGo_22 : decode cX12_canGo 22 = .ok (.iconst 1, 1) := by decide +kernel
theorem dX12_canGo_23 : decode cX12_canGo 23 = .ok (.goto 4, 3) := by decide +kernel
theorem dX12_canGo_26 : decode cX12_canGo 26 = .ok (.iconst 0, 1) := by decide +kernel
theorem dX12_canGo_27 : decode cX12_canGo 27 = .ok (.ireturn, 1) := by decide +kernel
theorem dX12_choose_0 : decode cX12_choose 0 = .ok (.aload_n 0, 1) := by decide +kernel
theorem dX12_choose_1 : decode cX12_choose 1 = .ok (.iload_n 1, 1) := by decide +kernel
theorem dX12_choose_2 : decode cX12_choose 2 = .ok (.putfield 202, 3) := by decide +kernel
theorem dX12_choose_5 : decode cX12_choose 5 = .ok (.aload_n 0, 1) := by decide +kernel
theorem dX12_choose_6 : decode cX12_choose 6 = .ok (.iload_n 2, 1) := by decide +kernel
theorem dX12_choose_7 : decode cX12_choose 7 = .ok (.putfield 205, 3) := by decide +kernel
theorem dX12_choose_10 : decode cX12_choose 10 = .ok (.aload_n 0, 1) := by decide +kernel
theorem dX12_choose_11 : decode cX12_choose 11 = .ok (.iload_n 3, 1) := by decide +kernel
theorem dX12_choose_12 : decode cX12_choose 12 = .ok (.putfield 208, 3) := by decide +kernel
theorem dX12_choose_15 : decode cX12_choose 15 = .ok (.return_, 1) := by decide +kernel
theorem dX12_commandOf_0 : decode cX12_commandOf 0 = .ok (.aload_n 0, 1) := by decide +kernel
theorem dX12_commandOf_1 : decode cX12_commandOf 1 = .ok (.getfield 35, 3) := by decide +kernel
theorem dX12_commandOf_4 : decode cX12_commandOf 4 = .ok (.iload_n 1, 1) := by decide +kernel
theorem dX12_commandOf_5 : decode cX12_commandOf 5 = .ok (.iaload, 1) := by decide +kernel
theorem dX12_commandOf_6 : decode cX12_commandOf 6 = .ok (.invokestatic 168, 3) := by decide +kernel
theorem dX12_commandOf_9 : decode cX12_commandOf 9 = .ok (.istore_n 2, 1) := by decide +kernel
theorem dX12_commandOf_10 : decode cX12_commandOf 10 = .ok (.aload_n 0, 1) := by decide +kernel
theorem dX12_commandOf_11 : decode cX12_commandOf 11 = .ok (.iload_n 1, 1) := by decide +kernel
theorem dX12_commandOf_12 : decode cX12_commandOf 12 = .ok (.invokevirtual 175, 3) := by decide +kernel
theorem dX12_commandOf_15 : decode cX12_commandOf 15 = .ok (.ifCond .eq 20, 3) := by decide +kernel
theorem dX12_commandOf_18 : decode cX12_commandOf 18 = .ok (.aload_n 0, 1) := by decide +kernel
theorem dX12_commandOf_19 : decode cX12_commandOf 19 = .ok (.getfield 29, 3) := by decide +kernel
theorem dX12_commandOf_22 : decode cX12_commandOf 22 = .ok (.iload_n 1, 1) := by decide +kernel
theorem dX12_commandOf_23 : decode cX12_commandOf 23 = .ok (.iaload, 1) := by decide +kernel
theorem dX12_commandOf_24 : decode cX12_commandOf 24 = .ok (.ifCond .ne 7, 3) := by decide +kernel
theorem dX12_commandOf_27 : decode cX12_commandOf 27 = .ok (.iconst 2, 1) := by decide +kernel
theorem dX12_commandOf_28 : decode cX12_commandOf 28 = .ok (.goto 21, 3) := by decide +kernel
theorem dX12_commandOf_31 : decode cX12_commandOf 31 = .ok (.iconst 3, 1) := by decide +kernel
theorem dX12_commandOf_32 : decode cX12_commandOf 32 = .ok (.goto 17, 3) := by decide +kernel
theorem dX12_commandOf_35 : decode cX12_commandOf 35 = .ok (.aload_n 0, 1) := by decide +kernel
theorem dX12_commandOf_36 : decode cX12_commandOf 36 = .ok (.getfield 23, 3) := by decide +kernel
theorem dX12_commandOf_39 : decode cX12_commandOf 39 = .ok (.iload_n 2, 1) := by decide +kernel
theorem dX12_commandOf_40 : decode cX12_commandOf 40 = .ok (.iaload, 1) := by decide +kernel
theorem dX12_commandOf_41 : decode cX12_commandOf 41 = .ok (.ifCond .lt 7, 3) := by decide +kernel
theorem dX12_commandOf_44 : decode cX12_commandOf 44 = .ok (.iconst 1, 1) := by decide +kernel
theorem dX12_commandOf_45 : decode cX12_commandOf 45 = .ok (.goto 4, 3) := by decide +kernel
theorem dX12_commandOf_48 : decode cX12_commandOf 48 = .ok (.iconst 0, 1) := by decide +kernel
theorem dX12_commandOf_49 : decode cX12_commandOf 49 = .ok (.ireturn, 1) := by decide +kernel
theorem dX12_isFirst_0 : decode cX12_isFirst 0 = .ok (.iconst 1, 1) := by decide +kernel
theorem dX12_isFirst_1 : decode cX12_isFirst 1 = .ok (.istore_n 2, 1) := by decide +kernel
theorem dX12_isFirst_2 : decode cX12_isFirst 2 = .ok (.iconst 0, 1) := by decide +kernel
theorem dX12_isFirst_3 : decode cX12_isFirst 3 = .ok (.istore_n 3, 1) := by decide +kernel
theorem dX12_isFirst_4 : decode cX12_isFirst 4 = .ok (.iload_n 3, 1) := by decide +kernel
theorem dX12_isFirst_5 : decode cX12_isFirst 5 = .ok (.iload_n 1, 1) := by decide +kernel
theorem dX12_isFirst_6 : decode cX12_isFirst 6 = .ok (.if_icmp .ge 63, 3) := by decide +kernel
theorem dX12_isFirst_9 : decode cX12_isFirst 9 = .ok (.iload_n 2, 1) := by decide +kernel
theorem dX12_isFirst_10 : decode cX12_isFirst 10 = .ok (.ifCond .eq 51, 3) := by decide +kernel
theorem dX12_isFirst_13 : decode cX12_isFirst 13 = .ok (.aload_n 0, 1) := by decide +kernel
theorem dX12_isFirst_14 : decode cX12_isFirst 14 = .ok (.getfield 35, 3) := by decide +kernel
theorem dX12_isFirst_17 : decode cX12_isFirst 17 = .ok (.aload_n 0, 1) := by decide +kernel
theorem dX12_isFirst_18 : decode cX12_isFirst 18 = .ok (.getfield 89, 3) := by decide +kernel
theorem dX12_isFirst_21 : decode cX12_isFirst 21 = .ok (.iload_n 3, 1) := by decide +kernel
theorem dX12_isFirst_22 : decode cX12_isFirst 22 = .ok (.iaload, 1) := by decide +kernel
theorem dX12_isFirst_23 : decode cX12_isFirst 23 = .ok (.iaload, 1) := by decide +kernel
theorem dX12_isFirst_24 : decode cX12_isFirst 24 = .ok (.invokestatic 168, 3) := by decide +kernel
theorem dX12_isFirst_27 : decode cX12_isFirst 27 = .ok (.aload_n 0, 1) := by decide +kernel
theorem dX12_isFirst_28 : decode cX12_isFirst 28 = .ok (.getfield 35, 3) := by decide +kernel
theorem dX12_isFirst_31 : decode cX12_isFirst 31 = .ok (.aload_n 0, 1) := by decide +kernel
theorem dX12_isFirst_32 : decode cX12_isFirst 32 = .ok (.getfield 89, 3) := by decide +kernel
theorem dX12_isFirst_35 : decode cX12_isFirst 35 = .ok (.iload_n 1, 1) := by decide +kernel
theorem dX12_isFirst_36 : decode cX12_isFirst 36 = .ok (.iaload, 1) := by decide +kernel
theorem dX12_isFirst_37 : decode cX12_isFirst 37 = .ok (.iaload, 1) := by decide +kernel
theorem dX12_isFirst_38 : decode cX12_isFirst 38 = .ok (.invokestatic 168, 3) := by decide +kernel
theorem dX12_isFirst_41 : decode cX12_isFirst 41 = .ok (.if_icmp .ne 16, 3) := by decide +kernel
theorem dX12_isFirst_44 : decode cX12_isFirst 44 = .ok (.aload_n 0, 1) := by decide +kernel
theorem dX12_isFirst_45 : decode cX12_isFirst 45 = .ok (.aload_n 0, 1) := by decide +kernel
theorem dX12_isFirst_46 : decode cX12_isFirst 46 = .ok (.getfield 89, 3) := by decide +kernel
theorem dX12_isFirst_49 : decode cX12_isFirst 49 = .ok (.iload_n 3, 1) := by decide +kernel
theorem dX12_isFirst_50 : decode cX12_isFirst 50 = .ok (.iaload, 1) := by decide +kernel
theorem dX12_isFirst_51 : decode cX12_isFirst 51 = .ok (.invokevirtual 211, 3) := by decide +kernel
theorem dX12_isFirst_54 : decode cX12_isFirst 54 = .ok (.ifCond .eq 7, 3) := by decide +kernel
theorem dX12_isFirst_57 : decode cX12_isFirst 57 = .ok (.iconst 1, 1) := by decide +kernel
theorem dX12_isFirst_58 : decode cX12_isFirst 58 = .ok (.goto 4, 3) := by decide +kernel
theorem dX12_isFirst_61 : decode cX12_isFirst 61 = .ok (.iconst 0, 1) := by decide +kernel
theorem dX12_isFirst_62 : decode cX12_isFirst 62 = .ok (.istore_n 2, 1) := by decide +kernel
theorem dX12_isFirst_63 : decode cX12_isFirst 63 = .ok (.iinc 3 1, 3) := by decide +kernel
theorem dX12_isFirst_66 : decode cX12_isFirst 66 = .ok (.goto (-62), 3) := by decide +kernel
theorem dX12_isFirst_69 : decode cX12_isFirst 69 = .ok (.iload_n 2, 1) := by decide +kernel
theorem dX12_isFirst_70 : decode cX12_isFirst 70 = .ok (.ireturn, 1) := by decide +kernel
theorem dX12_plainWaiting_0 : decode cX12_plainWaiting 0 = .ok (.iconst 0, 1) := by decide +kernel
theorem dX12_plainWaiting_1 : decode cX12_plainWaiting 1 = .ok (.istore_n 1, 1) := by decide +kernel
theorem dX12_plainWaiting_2 : decode cX12_plainWaiting 2 = .ok (.iconst 0, 1) := by decide +kernel
theorem dX12_plainWaiting_3 : decode cX12_plainWaiting 3 = .ok (.istore_n 2, 1) := by decide +kernel
theorem dX12_plainWaiting_4 : decode cX12_plainWaiting 4 = .ok (.iload_n 2, 1) := by decide +kernel
theorem dX12_plainWaiting_5 : decode cX12_plainWaiting 5 = .ok (.aload_n 0, 1) := by decide +kernel
theorem dX12_plainWaiting_6 : decode cX12_plainWaiting 6 = .ok (.getfield 141, 3) := by decide +kernel
theorem dX12_plainWaiting_9 : decode cX12_plainWaiting 9 = .ok (.if_icmp .ge 35, 3) := by decide +kernel
theorem dX12_plainWaiting_12 : decode cX12_plainWaiting 12 = .ok (.iload_n 1, 1) := by decide +kernel
theorem dX12_plainWaiting_13 : decode cX12_plainWaiting 13 = .ok (.aload_n 0, 1) := by decide +kernel
theorem dX12_plainWaiting_14 : decode cX12_plainWaiting 14 = .ok (.iload_n 2, 1) := by decide +kernel
theorem dX12_plainWaiting_15 : decode cX12_plainWaiting 15 = .ok (.invokevirtual 164, 3) := by decide +kernel
theorem dX12_plainWaiting_18 : decode cX12_plainWaiting 18 = .ok (.ifCond .eq 17, 3) := by decide +kernel
theorem dX12_plainWaiting_21 : decode cX12_plainWaiting 21 = .ok (.aload_n 0, 1) := by decide +kernel
theorem dX12_plainWaiting_22 : decode cX12_plainWaiting 22 = .ok (.getfield 29, 3) := by decide +kernel
theorem dX12_plainWaiting_25 : decode cX12_plainWaiting 25 = .ok (.iload_n 2, 1) := by decide +kernel
theorem dX12_plainWaiting_26 : decode cX12_plainWaiting 26 = .ok (.iaload, 1) := by decide +kernel
theorem dX12_plainWaiting_27 : decode cX12_plainWaiting 27 = .ok (.iconst 4, 1) := by decide +kernel
theorem dX12_plainWaiting_28 : decode cX12_plainWaiting 28 = .ok (.if_icmp .eq 7, 3) := by decide +kernel
theorem dX12_plainWaiting_31 : decode cX12_plainWaiting 31 = .ok (.iconst 1, 1) := by decide +kernel
theorem dX12_plainWaiting_32 : decode cX12_plainWaiting 32 = .ok (.goto 4, 3) := by decide +kernel
theorem dX12_plainWaiting_35 : decode cX12_plainWaiting 35 = .ok (.iconst 0, 1) := by decide +kernel
theorem dX12_plainWaiting_36 : decode cX12_plainWaiting 36 = .ok (.iadd, 1) := by decide +kernel
theorem dX12_plainWaiting_37 : decode cX12_plainWaiting 37 = .ok (.istore_n 1, 1) := by decide +kernel
theorem dX12_plainWaiting_38 : decode cX12_plainWaiting 38 = .ok (.iinc 2 1, 3) := by decide +kernel
theorem dX12_plainWaiting_41 : decode cX12_plainWaiting 41 = .ok (.goto (-37), 3) := by decide +kernel
theorem dX12_plainWaiting_44 : decode cX12_plainWaiting 44 = .ok (.iload_n 1, 1) := by decide +kernel
theorem dX12_plainWaiting_45 : decode cX12_plainWaiting 45 = .ok (.ireturn, 1) := by decide +kernel
theorem dX12_find_0 : decode cX12_find 0 = .ok (.aload_n 0, 1) := by decide +kernel
theorem dX12_find_1 : decode cX12_find 1 = .ok (.bipush (-2), 2) := by decide +kernel
theorem dX12_find_3 : decode cX12_find 3 = .ok (.bipush (-2), 2) := by decide +kernel
theorem dX12_find_5 : decode cX12_find 5 = .ok (.bipush (-2), 2) := by decide +kernel
theorem dX12_find_7 : decode cX12_find 7 = .ok (.invokevirtual 214, 3) := by decide +kernel
theorem dX12_find_10 : decode cX12_find 10 = .ok (.aload_n 0, 1) := by decide +kernel
theorem dX12_find_11 : decode cX12_find 11 = .ok (.getfield 218, 3) := by decide +kernel
theorem dX12_find_14 : decode cX12_find 14 = .ok (.aload_n 0, 1) := by decide +kernel
theorem dX12_find_15 : decode cX12_find 15 = .ok (.getfield 13, 3) := by decide +kernel
theorem dX12_find_18 : decode cX12_find 18 = .ok (.if_icmp .ge 17, 3) := by decide +kernel
theorem dX12_find_21 : decode cX12_find 21 = .ok (.aload_n 0, 1) := by decide +kernel
theorem dX12_find_22 : decode cX12_find 22 = .ok (.getfield 218, 3) := by decide +kernel
theorem dX12_find_25 : decode cX12_find 25 = .ok (.ifCond .le 62, 3) := by decide +kernel
theorem dX12_find_28 : decode cX12_find 28 = .ok (.aload_n 0, 1) := by decide +kernel
theorem dX12_find_29 : decode cX12_find 29 = .ok (.invokevirtual 221, 3) := by decide +kernel
theorem dX12_find_32 : decode cX12_find 32 = .ok (.ifCond .ne 55, 3) := by decide +kernel
theorem dX12_find_35 : decode cX12_find 35 = .ok (.aload_n 0, 1) := by decide +kernel
theorem dX12_find_36 : decode cX12_find 36 = .ok (.iconst 4, 1) := by decide +kernel
theorem dX12_find_37 : decode cX12_find 37 = .ok (.bipush (-2), 2) := by decide +kernel
theorem dX12_find_39 : decode cX12_find 39 = .ok (.invokevirtual 225, 3) := by decide +kernel
theorem dX12_find_42 : decode cX12_find 42 = .ok (.ifCond .eq 13, 3) := by decide +kernel
theorem dX12_find_45 : decode cX12_find 45 = .ok (.aload_n 0, 1) := by decide +kernel
theorem dX12_find_46 : decode cX12_find 46 = .ok (.iconst 4, 1) := by decide +kernel
theorem dX12_find_47 : decode cX12_find 47 = .ok (.bipush (-2), 2) := by decide +kernel
theorem dX12_find_49 : decode cX12_find 49 = .ok (.bipush (-2), 2) := by decide +kernel
theorem dX12_find_51 : decode cX12_find 51 = .ok (.invokevirtual 214, 3) := by decide +kernel
theorem dX12_find_54 : decode cX12_find 54 = .ok (.return_, 1) := by decide +kernel
theorem dX12_find_55 : decode cX12_find 55 = .ok (.iconst 0, 1) := by decide +kernel
theorem dX12_find_56 : decode cX12_find 56 = .ok (.istore_n 1, 1) := by decide +kernel
theorem dX12_find_57 : decode cX12_find 57 = .ok (.iload_n 1, 1) := by decide +kernel
theorem dX12_find_58 : decode cX12_find 58 = .ok (.iconst 4, 1) := by decide +kernel
theorem dX12_find_59 : decode cX12_find 59 = .ok (.if_icmp .ge 27, 3) := by decide +kernel
theorem dX12_find_62 : decode cX12_find 62 = .ok (.aload_n 0, 1) := by decide +kernel
theorem dX12_find_63 : decode cX12_find 63 = .ok (.iconst 1, 1) := by decide +kernel
theorem dX12_find_64 : decode cX12_find 64 = .ok (.iload_n 1, 1) := by decide +kernel
theorem dX12_find_65 : decode cX12_find 65 = .ok (.invokevirtual 225, 3) := by decide +kernel
theorem dX12_find_68 : decode cX12_find 68 = .ok (.ifCond .eq 12, 3) := by decide +kernel
theorem dX12_find_71 : decode cX12_find 71 = .ok (.aload_n 0, 1) := by decide +kernel
theorem dX12_find_72 : decode cX12_find 72 = .ok (.iconst 1, 1) := by decide +kernel
theorem dX12_find_73 : decode cX12_find 73 = .ok (.iload_n 1, 1) := by decide +kernel
theorem dX12_find_74 : decode cX12_find 74 = .ok (.bipush (-2), 2) := by decide +kernel
theorem dX12_find_76 : decode cX12_find 76 = .ok (.invokevirtual 214, 3) := by decide +kernel
theorem dX12_find_79 : decode cX12_find 79 = .ok (.return_, 1) := by decide +kernel
theorem dX12_find_80 : decode cX12_find 80 = .ok (.iinc 1 1, 3) := by decide +kernel
theorem dX12_find_83 : decode cX12_find 83 = .ok (.goto (-26), 3) := by decide +kernel
theorem dX12_find_86 : decode cX12_find 86 = .ok (.return_, 1) := by decide +kernel
theorem dX12_find_87 : decode cX12_find 87 = .ok (.aload_n 0, 1) := by decide +kernel
theorem dX12_find_88 : decode cX12_find 88 = .ok (.invokevirtual 228, 3) := by decide +kernel
theorem dX12_find_91 : decode cX12_find 91 = .ok (.iconst 0, 1) := by decide +kernel
theorem dX12_find_92 : decode cX12_find 92 = .ok (.istore_n 1, 1) := by decide +kernel
theorem dX12_find_93 : decode cX12_find 93 = .ok (.iload_n 1, 1) := by decide +kernel
theorem dX12_find_94 : decode cX12_find 94 = .ok (.aload_n 0, 1) := by decide +kernel
theorem dX12_find_95 : decode cX12_find 95 = .ok (.getfield 178, 3) := by decide +kernel
theorem dX12_find_98 : decode cX12_find 98 = .ok (.if_icmp .ge 73, 3) := by decide +kernel
theorem dX12_find_101 : decode cX12_find 101 = .ok (.aload_n 0, 1) := by decide +kernel
theorem dX12_find_102 : decode cX12_find 102 = .ok (.getfield 89, 3) := by decide +kernel
theorem dX12_find_105 : decode cX12_find 105 = .ok (.iload_n 1, 1) := by decide +kernel
theorem dX12_find_106 : decode cX12_find 106 = .ok (.iaload, 1) := by decide +kernel
theorem dX12_find_107 : decode cX12_find 107 = .ok (.istore_n 2, 1) := by decide +kernel
theorem dX12_find_108 : decode cX12_find 108 = .ok (.aload_n 0, 1) := by decide +kernel
theorem dX12_find_109 : decode cX12_find 109 = .ok (.iload_n 2, 1) := by decide +kernel
theorem dX12_find_110 : decode cX12_find 110 = .ok (.invokevirtual 231, 3) := by decide +kernel
theorem dX12_find_113 : decode cX12_find 113 = .ok (.istore_n 3, 1) := by decide +kernel
theorem dX12_find_114 : decode cX12_find 114 = .ok (.aload_n 0, 1) := by decide +kernel
theorem dX12_find_115 : decode cX12_find 115 = .ok (.getfield 35, 3) := by decide +kernel
theorem dX12_find_118 : decode cX12_find 118 = .ok (.iload_n 2, 1) := by decide +kernel
theorem dX12_find_119 : decode cX12_find 119 = .ok (.iaload, 1) := by decide +kernel
theorem dX12_find_120 : decode cX12_find 120 = .ok (.invokestatic 168, 3) := by decide +kernel
theorem dX12_find_123 : decode cX12_find 123 = .ok (.istore 4, 2) := by decide +kernel
theorem dX12_find_125 : decode cX12_find 125 = .ok (.aload_n 0, 1) := by decide +kernel
theorem dX12_find_126 : decode cX12_find 126 = .ok (.iload_n 2, 1) := by decide +kernel
theorem dX12_find_127 : decode cX12_find 127 = .ok (.invokevirtual 211, 3) := by decide +kernel
theorem dX12_find_130 : decode cX12_find 130 = .ok (.ifCond .ne 35, 3) := by decide +kernel
theorem dX12_find_133 : decode cX12_find 133 = .ok (.iload_n 3, 1) := by decide +kernel
theorem dX12_find_134 : decode cX12_find 134 = .ok (.iconst 1, 1) := by decide +kernel
theorem dX12_find_135 : decode cX12_find 135 = .ok (.if_icmp .gt 11, 3) := by decide +kernel
theorem dX12_find_138 : decode cX12_find 138 = .ok (.aload_n 0, 1) := by decide +kernel
theorem dX12_find_139 : decode cX12_find 139 = .ok (.iload_n 1, 1) := by decide +kernel
theorem dX12_find_140 : decode cX12_find 140 = .ok (.invokevirtual 234, 3) := by decide +kernel
theorem dX12_find_143 : decode cX12_find 143 = .ok (.ifCond .eq 22, 3) := by decide +kernel
theorem dX12_find_146 : decode cX12_find 146 = .ok (.aload_n 0, 1) := by decide +kernel
theorem dX12_find_147 : decode cX12_find 147 = .ok (.iload_n 3, 1) := by decide +kernel
theorem dX12_find_148 : decode cX12_find 148 = .ok (.iload 4, 2) := by decide +kernel
theorem dX12_find_150 : decode cX12_find 150 = .ok (.invokevirtual 225, 3) := by decide +kernel
theorem dX12_find_153 : decode cX12_find 153 = .ok (.ifCond .eq 12, 3) := by decide +kernel
theorem dX12_find_156 : decode cX12_find 156 = .ok (.aload_n 0, 1) := by decide +kernel
theorem dX12_find_157 : decode cX12_find 157 = .ok (.iload_n 3, 1) := by decide +kernel
theorem dX12_find_158 : decode cX12_find 158 = .ok (.iload 4, 2) := by decide +kernel
theorem dX12_find_160 : decode cX12_find 160 = .ok (.iload_n 2, 1) := by decide +kernel
theorem dX12_find_161 : decode cX12_find 161 = .ok (.invokevirtual 214, 3) := by decide +kernel
theorem dX12_find_164 : decode cX12_find 164 = .ok (.return_, 1) := by decide +kernel
theorem dX12_find_165 : decode cX12_find 165 = .ok (.iinc 1 1, 3) := by decide +kernel
theorem dX12_find_168 : decode cX12_find 168 = .ok (.goto (-75), 3) := by decide +kernel
theorem dX12_find_171 : decode cX12_find 171 = .ok (.return_, 1) := by decide +kernel
theorem dX12_finish_0 : decode cX12_finish 0 = .ok (.aload_n 0, 1) := by decide +kernel
theorem dX12_finish_1 : decode cX12_finish 1 = .ok (.getfield 47, 3) := by decide +kernel
theorem dX12_finish_4 : decode cX12_finish 4 = .ok (.iload_n 1, 1) := by decide +kernel
theorem dX12_finish_5 : decode cX12_finish 5 = .ok (.aload_n 0, 1) := by decide +kernel
theorem dX12_finish_6 : decode cX12_finish 6 = .ok (.getfield 20, 3) := by decide +kernel
theorem dX12_finish_9 : decode cX12_finish 9 = .ok (.iastore, 1) := by decide +kernel
theorem dX12_finish_10 : decode cX12_finish 10 = .ok (.aload_n 0, 1) := by decide +kernel
theorem dX12_finish_11 : decode cX12_finish 11 = .ok (.dup, 1) := by decide +kernel
theorem dX12_finish_12 : decode cX12_finish 12 = .ok (.getfield 138, 3) := by decide +kernel
theorem dX12_finish_15 : decode cX12_finish 15 = .ok (.iconst 1, 1) := by decide +kernel
theorem dX12_finish_16 : decode cX12_finish 16 = .ok (.isub, 1) := by decide +kernel
theorem dX12_finish_17 : decode cX12_finish 17 = .ok (.putfield 138, 3) := by decide +kernel
theorem dX12_finish_20 : decode cX12_finish 20 = .ok (.aload_n 0, 1) := by decide +kernel
theorem dX12_finish_21 : decode cX12_finish 21 = .ok (.getfield 29, 3) := by decide +kernel
theorem dX12_finish_24 : decode cX12_finish 24 = .ok (.iload_n 1, 1) := by decide +kernel
theorem dX12_finish_25 : decode cX12_finish 25 = .ok (.iaload, 1) := by decide +kernel
theorem dX12_finish_26 : decode cX12_finish 26 = .ok (.iconst 4, 1) := by decide +kernel
theorem dX12_finish_27 : decode cX12_finish 27 = .ok (.if_icmp .eq 18, 3) := by decide +kernel
theorem dX12_finish_30 : decode cX12_finish 30 = .ok (.aload_n 0, 1) := by decide +kernel
theorem dX12_finish_31 : decode cX12_finish 31 = .ok (.getfield 53, 3) := by decide +kernel
theorem dX12_finish_34 : decode cX12_finish 34 = .ok (.aload_n 0, 1) := by decide +kernel
theorem dX12_finish_35 : decode cX12_finish 35 = .ok (.getfield 32, 3) := by decide +kernel
theorem dX12_finish_38 : decode cX12_finish 38 = .ok (.iload_n 1, 1) := by decide +kernel
theorem dX12_finish_39 : decode cX12_finish 39 = .ok (.iaload, 1) := by decide +kernel
theorem dX12_finish_40 : decode cX12_finish 40 = .ok (.dup2, 1) := by decide +kernel
theorem dX12_finish_41 : decode cX12_finish 41 = .ok (.iaload, 1) := by decide +kernel
theorem dX12_finish_42 : decode cX12_finish 42 = .ok (.iconst 1, 1) := by decide +kernel
theorem dX12_finish_43 : decode cX12_finish 43 = .ok (.iadd, 1) := by decide +kernel
theorem dX12_finish_44 : decode cX12_finish 44 = .ok (.iastore, 1) := by decide +kernel
theorem dX12_finish_45 : decode cX12_finish 45 = .ok (.return_, 1) := by decide +kernel
theorem dX12_access_0 : decode cX12_access 0 = .ok (.aload_n 0, 1) := by decide +kernel
theorem dX12_access_1 : decode cX12_access 1 = .ok (.getfield 35, 3) := by decide +kernel
theorem dX12_access_4 : decode cX12_access 4 = .ok (.iload_n 1, 1) := by decide +kernel
theorem dX12_access_5 : decode cX12_access 5 = .ok (.iaload, 1) := by decide +kernel
theorem dX12_access_6 : decode cX12_access 6 = .ok (.istore_n 2, 1) := by decide +kernel
theorem dX12_access_7 : decode cX12_access 7 = .ok (.aload_n 0, 1) := by decide +kernel
theorem dX12_access_8 : decode cX12_access 8 = .ok (.getfield 26, 3) := by decide +kernel
theorem dX12_access_11 : decode cX12_access 11 = .ok (.iload_n 2, 1) := by decide +kernel
theorem dX12_access_12 : decode cX12_access 12 = .ok (.iaload, 1) := by decide +kernel
theorem dX12_access_13 : decode cX12_access 13 = .ok (.istore_n 3, 1) := by decide +kernel
theorem dX12_access_14 : decode cX12_access 14 = .ok (.aload_n 0, 1) := by decide +kernel
theorem dX12_access_15 : decode cX12_access 15 = .ok (.getfield 29, 3) := by decide +kernel
theorem dX12_access_18 : decode cX12_access 18 = .ok (.iload_n 1, 1) := by decide +kernel
theorem dX12_access_19 : decode cX12_access 19 = .ok (.iaload, 1) := by decide +kernel
theorem dX12_access_20 : decode cX12_access 20 = .ok (.ifCond .eq 13, 3) := by decide +kernel
theorem dX12_access_23 : decode cX12_access 23 = .ok (.aload_n 0, 1) := by decide +kernel
theorem dX12_access_24 : decode cX12_access 24 = .ok (.getfield 29, 3) := by decide +kernel
theorem dX12_access_27 : decode cX12_access 27 = .ok (.iload_n 1, 1) := by decide +kernel
theorem dX12_access_28 : decode cX12_access 28 = .ok (.iaload, 1) := by decide +kernel
theorem dX12_access_29 : decode cX12_access 29 = .ok (.iconst 3, 1) := by decide +kernel
theorem dX12_access_30 : decode cX12_access 30 = .ok (.if_icmp .ne 10, 3) := by decide +kernel
theorem dX12_access_33 : decode cX12_access 33 = .ok (.aload_n 0, 1) := by decide +kernel
theorem dX12_access_34 : decode cX12_access 34 = .ok (.getfield 50, 3) := by decide +kernel
theorem dX12_access_37 : decode cX12_access 37 = .ok (.iload_n 1, 1) := by decide +kernel
theorem dX12_access_38 : decode cX12_access 38 = .ok (.iload_n 3, 1) := by decide +kernel
theorem dX12_access_39 : decode cX12_access 39 = .ok (.iastore, 1) := by decide +kernel
theorem dX12_access_40 : decode cX12_access 40 = .ok (.aload_n 0, 1) := by decide +kernel
theorem dX12_access_41 : decode cX12_access 41 = .ok (.getfield 29, 3) := by decide +kernel
theorem dX12_access_44 : decode cX12_access 44 = .ok (.iload_n 1, 1) := by decide +kernel
theorem dX12_access_45 : decode cX12_access 45 = .ok (.iaload, 1) := by decide +kernel
theorem dX12_access_46 : decode cX12_access 46 = .ok (.ifCond .eq 33, 3) := by decide +kernel
theorem dX12_access_49 : decode cX12_access 49 = .ok (.aload_n 0, 1) := by decide +kernel
theorem dX12_access_50 : decode cX12_access 50 = .ok (.getfield 26, 3) := by decide +kernel
theorem dX12_access_53 : decode cX12_access 53 = .ok (.iload_n 2, 1) := by decide +kernel
theorem dX12_access_54 : decode cX12_access 54 = .ok (.iload_n 3, 1) := by decide +kernel
theorem dX12_access_55 : decode cX12_access 55 = .ok (.aload_n 0, 1) := by decide +kernel
theorem dX12_access_56 : decode cX12_access 56 = .ok (.getfield 41, 3) := by decide +kernel
theorem dX12_access_59 : decode cX12_access 59 = .ok (.iload_n 1, 1) := by decide +kernel
theorem dX12_access_60 : decode cX12_access 60 = .ok (.iaload, 1) := by decide +kernel
theorem dX12_access_61 : decode cX12_access 61 = .ok (.iconst (-1), 1) := by decide +kernel
theorem dX12_access_62 : decode cX12_access 62 = .ok (.ixor, 1) := by decide +kernel
theorem dX12_access_63 : decode cX12_access 63 = .ok (.iand, 1) := by decide +kernel
theorem dX12_access_64 : decode cX12_access 64 = .ok (.aload_n 0, 1) := by decide +kernel
theorem dX12_access_65 : decode cX12_access 65 = .ok (.getfield 38, 3) := by decide +kernel
theorem dX12_access_68 : decode cX12_access 68 = .ok (.iload_n 1, 1) := by decide +kernel
theorem dX12_access_69 : decode cX12_access 69 = .ok (.iaload, 1) := by decide +kernel
theorem dX12_access_70 : decode cX12_access 70 = .ok (.aload_n 0, 1) := by decide +kernel
theorem dX12_access_71 : decode cX12_access 71 = .ok (.getfield 41, 3) := by decide +kernel
theorem dX12_access_74 : decode cX12_access 74 = .ok (.iload_n 1, 1) := by decide +kernel
theorem dX12_access_75 : decode cX12_access 75 = .ok (.iaload, 1) := by decide +kernel
theorem dX12_access_76 : decode cX12_access 76 = .ok (.iand, 1) := by decide +kernel
theorem dX12_access_77 : decode cX12_access 77 = .ok (.ior, 1) := by decide +kernel
theorem dX12_access_78 : decode cX12_access 78 = .ok (.iastore, 1) := by decide +kernel
theorem dX12_access_79 : decode cX12_access 79 = .ok (.aload_n 0, 1) := by decide +kernel
theorem dX12_access_80 : decode cX12_access 80 = .ok (.iload_n 1, 1) := by decide +kernel
theorem dX12_access_81 : decode cX12_access 81 = .ok (.invokevirtual 237, 3) := by decide +kernel
theorem dX12_access_84 : decode cX12_access 84 = .ok (.return_, 1) := by decide +kernel
theorem dX12_write__0 : decode cX12_write_ 0 = .ok (.aload_n 0, 1) := by decide +kernel
theorem dX12_write__1 : decode cX12_write_ 1 = .ok (.getfield 241, 3) := by decide +kernel
theorem dX12_write__4 : decode cX12_write_ 4 = .ok (.sipush 400, 3) := by decide +kernel
theorem dX12_write__7 : decode cX12_write_ 7 = .ok (.if_icmp .ge 142, 3) := by decide +kernel
theorem dX12_write__10 : decode cX12_write_ 10 = .ok (.aload_n 0, 1) := by decide +kernel
theorem dX12_write__11 : decode cX12_write_ 11 = .ok (.getfield 68, 3) := by decide +kernel
theorem dX12_write__14 : decode cX12_write_ 14 = .ok (.aload_n 0, 1) := by decide +kernel
theorem dX12_write__15 : decode cX12_write_ 15 = .ok (.getfield 241, 3) := by decide +kernel
theorem dX12_write__18 : decode cX12_write_ 18 = .ok (.aload_n 0, 1) := by decide +kernel
theorem dX12_write__19 : decode cX12_write_ 19 = .ok (.getfield 20, 3) := by decide +kernel
theorem dX12_write__22 : decode cX12_write_ 22 = .ok (.iastore, 1) := by decide +kernel
theorem dX12_write__23 : decode cX12_write_ 23 = .ok (.aload_n 0, 1) := by decide +kernel
theorem dX12_write__24 : decode cX12_write_ 24 = .ok (.getfield 71, 3) := by decide +kernel
theorem dX12_write__27 : decode cX12_write_ 27 = .ok (.aload_n 0, 1) := by decide +kernel
theorem dX12_write__28 : decode cX12_write_ 28 = .ok (.getfield 241, 3) := by decide +kernel
theorem dX12_write__31 : decode cX12_write_ 31 = .ok (.aload_n 0, 1) := by decide +kernel
theorem dX12_write__32 : decode cX12_write_ 32 = .ok (.getfield 20, 3) := by decide +kernel
theorem dX12_write__35 : decode cX12_write_ 35 = .ok (.iastore, 1) := by decide +kernel
theorem dX12_write__36 : decode cX12_write_ 36 = .ok (.aload_n 0, 1) := by decide +kernel
theorem dX12_write__37 : decode cX12_write_ 37 = .ok (.getfield 74, 3) := by decide +kernel
theorem dX12_write__40 : decode cX12_write_ 40 = .ok (.aload_n 0, 1) := by decide +kernel
theorem dX12_write__41 : decode cX12_write_ 41 = .ok (.getfield 241, 3) := by decide +kernel
theorem dX12_write__44 : decode cX12_write_ 44 = .ok (.aload_n 0, 1) := by decide +kernel
theorem dX12_write__45 : decode cX12_write_ 45 = .ok (.getfield 202, 3) := by decide +kernel
theorem dX12_write__48 : decode cX12_write_ 48 = .ok (.iastore, 1) := by decide +kernel
theorem dX12_write__49 : decode cX12_write_ 49 = .ok (.aload_n 0, 1) := by decide +kernel
theorem dX12_write__50 : decode cX12_write_ 50 = .ok (.getfield 77, 3) := by decide +kernel
theorem dX12_write__53 : decode cX12_write_ 53 = .ok (.aload_n 0, 1) := by decide +kernel
theorem dX12_write__54 : decode cX12_write_ 54 = .ok (.getfield 241, 3) := by decide +kernel
theorem dX12_write__57 : decode cX12_write_ 57 = .ok (.aload_n 0, 1) := by decide +kernel
theorem dX12_write__58 : decode cX12_write_ 58 = .ok (.getfield 205, 3) := by decide +kernel
theorem dX12_write__61 : decode cX12_write_ 61 = .ok (.iastore, 1) := by decide +kernel
theorem dX12_write__62 : decode cX12_write_ 62 = .ok (.aload_n 0, 1) := by decide +kernel
theorem dX12_write__63 : decode cX12_write_ 63 = .ok (.getfield 83, 3) := by decide +kernel
theorem dX12_write__66 : decode cX12_write_ 66 = .ok (.aload_n 0, 1) := by decide +kernel
theorem dX12_write__67 : decode cX12_write_ 67 = .ok (.getfield 241, 3) := by decide +kernel
theorem dX12_write__70 : decode cX12_write_ 70 = .ok (.aload_n 0, 1) := by decide +kernel
theorem dX12_write__71 : decode cX12_write_ 71 = .ok (.getfield 208, 3) := by decide +kernel
theorem dX12_write__74 : decode cX12_write_ 74 = .ok (.iastore, 1) := by decide +kernel
theorem dX12_write__75 : decode cX12_write_ 75 = .ok (.aload_n 0, 1) := by decide +kernel
theorem dX12_write__76 : decode cX12_write_ 76 = .ok (.getfield 80, 3) := by decide +kernel
theorem dX12_write__79 : decode cX12_write_ 79 = .ok (.aload_n 0, 1) := by decide +kernel
theorem dX12_write__80 : decode cX12_write_ 80 = .ok (.getfield 241, 3) := by decide +kernel
theorem dX12_write__83 : decode cX12_write_ 83 = .ok (.aload_n 0, 1) := by decide +kernel
theorem dX12_write__84 : decode cX12_write_ 84 = .ok (.getfield 202, 3) := by decide +kernel
theorem dX12_write__87 : decode cX12_write_ 87 = .ok (.ifCond .ne 18, 3) := by decide +kernel
theorem dX12_write__90 : decode cX12_write_ 90 = .ok (.aload_n 0, 1) := by decide +kernel
theorem dX12_write__91 : decode cX12_write_ 91 = .ok (.getfield 35, 3) := by decide +kernel
theorem dX12_write__94 : decode cX12_write_ 94 = .ok (.aload_n 0, 1) := by decide +kernel
theorem dX12_write__95 : decode cX12_write_ 95 = .ok (.getfield 208, 3) := by decide +kernel
theorem dX12_write__98 : decode cX12_write_ 98 = .ok (.iaload, 1) := by decide +kernel
theorem dX12_write__99 : decode cX12_write_ 99 = .ok (.invokestatic 172, 3) := by decide +kernel
theorem dX12_write__102 : decode cX12_write_ 102 = .ok (.goto 36, 3) := by decide +kernel
theorem dX12_write__105 : decode cX12_write_ 105 = .ok (.aload_n 0, 1) := by decide +kernel
theorem dX12_write__106 : decode cX12_write_ 106 = .ok (.getfield 202, 3) := by decide +kernel
theorem dX12_write__109 : decode cX12_write_ 109 = .ok (.iconst 2, 1) := by decide +kernel
theorem dX12_write__110 : decode cX12_write_ 110 = .ok (.if_icmp .eq 11, 3) := by decide +kernel
theorem dX12_write__113 : decode cX12_write_ 113 = .ok (.aload_n 0, 1) := by decide +kernel
theorem dX12_write__114 : decode cX12_write_ 114 = .ok (.getfield 202, 3) := by decide +kernel
theorem dX12_write__117 : decode cX12_write_ 117 = .ok (.iconst 3, 1) := by decide +kernel
theorem dX12_write__118 : decode cX12_write_ 118 = .ok (.if_icmp .ne 18, 3) := by decide +kernel
theorem dX12_write__121 : decode cX12_write_ 121 = .ok (.aload_n 0, 1) := by decide +kernel
theorem dX12_write__122 : decode cX12_write_ 122 = .ok (.getfield 35, 3) := by decide +kernel
theorem dX12_write__125 : decode cX12_write_ 125 = .ok (.aload_n 0, 1) := by decide +kernel
theorem dX12_write__126 : decode cX12_write_ 126 = .ok (.getfield 208, 3) := by decide +kernel
theorem dX12_write__129 : decode cX12_write_ 129 = .ok (.iaload, 1) := by decide +kernel
theorem dX12_write__130 : decode cX12_write_ 130 = .ok (.bipush 16, 2) := by decide +kernel
theorem dX12_write__132 : decode cX12_write_ 132 = .ok (.irem, 1) := by decide +kernel
theorem dX12_write__133 : decode cX12_write_ 133 = .ok (.goto 5, 3) := by decide +kernel
theorem dX12_write__136 : decode cX12_write_ 136 = .ok (.bipush (-2), 2) := by decide +kernel
theorem dX12_write__138 : decode cX12_write_ 138 = .ok (.iastore, 1) := by decide +kernel
theorem dX12_write__139 : decode cX12_write_ 139 = .ok (.aload_n 0, 1) := by decide +kernel
theorem dX12_write__140 : decode cX12_write_ 140 = .ok (.dup, 1) := by decide +kernel
theorem dX12_write__141 : decode cX12_write_ 141 = .ok (.getfield 241, 3) := by decide +kernel
theorem dX12_write__144 : decode cX12_write_ 144 = .ok (.iconst 1, 1) := by decide +kernel
theorem dX12_write__145 : decode cX12_write_ 145 = .ok (.iadd, 1) := by decide +kernel
theorem dX12_write__146 : decode cX12_write_ 146 = .ok (.putfield 241, 3) := by decide +kernel
theorem dX12_write__149 : decode cX12_write_ 149 = .ok (.aload_n 0, 1) := by decide +kernel
theorem dX12_write__150 : decode cX12_write_ 150 = .ok (.getfield 184, 3) := by decide +kernel
theorem dX12_write__153 : decode cX12_write_ 153 = .ok (.bipush 40, 2) := by decide +kernel
theorem dX12_write__155 : decode cX12_write_ 155 = .ok (.irem, 1) := by decide +kernel
theorem dX12_write__156 : decode cX12_write_ 156 = .ok (.istore_n 1, 1) := by decide +kernel
theorem dX12_write__157 : decode cX12_write_ 157 = .ok (.aload_n 0, 1) := by decide +kernel
theorem dX12_write__158 : decode cX12_write_ 158 = .ok (.getfield 59, 3) := by decide +kernel
theorem dX12_write__161 : decode cX12_write_ 161 = .ok (.iload_n 1, 1) := by decide +kernel
theorem dX12_write__162 : decode cX12_write_ 162 = .ok (.aload_n 0, 1) := by decide +kernel
theorem dX12_write__163 : decode cX12_write_ 163 = .ok (.getfield 20, 3) := by decide +kernel
theorem dX12_write__166 : decode cX12_write_ 166 = .ok (.iastore, 1) := by decide +kernel
theorem dX12_write__167 : decode cX12_write_ 167 = .ok (.aload_n 0, 1) := by decide +kernel
theorem dX12_write__168 : decode cX12_write_ 168 = .ok (.getfield 62, 3) := by decide +kernel
theorem dX12_write__171 : decode cX12_write_ 171 = .ok (.iload_n 1, 1) := by decide +kernel
theorem dX12_write__172 : decode cX12_write_ 172 = .ok (.aload_n 0, 1) := by decide +kernel
theorem dX12_write__173 : decode cX12_write_ 173 = .ok (.getfield 202, 3) := by decide +kernel
theorem dX12_write__176 : decode cX12_write_ 176 = .ok (.iastore, 1) := by decide +kernel
theorem dX12_write__177 : decode cX12_write_ 177 = .ok (.aload_n 0, 1) := by decide +kernel
theorem dX12_write__178 : decode cX12_write_ 178 = .ok (.getfield 65, 3) := by decide +kernel
theorem dX12_write__181 : decode cX12_write_ 181 = .ok (.iload_n 1, 1) := by decide +kernel
theorem dX12_write__182 : decode cX12_write_ 182 = .ok (.aload_n 0, 1) := by decide +kernel
theorem dX12_write__183 : decode cX12_write_ 183 = .ok (.getfield 205, 3) := by decide +kernel
theorem dX12_write__186 : decode cX12_write_ 186 = .ok (.iastore, 1) := by decide +kernel
theorem dX12_write__187 : decode cX12_write_ 187 = .ok (.aload_n 0, 1) := by decide +kernel
theorem dX12_write__188 : decode cX12_write_ 188 = .ok (.dup, 1) := by decide +kernel
theorem dX12_write__189 : decode cX12_write_ 189 = .ok (.getfield 184, 3) := by decide +kernel
theorem dX12_write__192 : decode cX12_write_ 192 = .ok (.iconst 1, 1) := by decide +kernel
theorem dX12_write__193 : decode cX12_write_ 193 = .ok (.iadd, 1) := by decide +kernel
theorem dX12_write__194 : decode cX12_write_ 194 = .ok (.putfield 184, 3) := by decide +kernel
theorem dX12_write__197 : decode cX12_write_ 197 = .ok (.aload_n 0, 1) := by decide +kernel
theorem dX12_write__198 : decode cX12_write_ 198 = .ok (.dup, 1) := by decide +kernel
theorem dX12_write__199 : decode cX12_write_ 199 = .ok (.getfield 244, 3) := by decide +kernel
theorem dX12_write__202 : decode cX12_write_ 202 = .ok (.iconst 1, 1) := by decide +kernel
theorem dX12_write__203 : decode cX12_write_ 203 = .ok (.iadd, 1) := by decide +kernel
theorem dX12_write__204 : decode cX12_write_ 204 = .ok (.putfield 244, 3) := by decide +kernel
theorem dX12_write__207 : decode cX12_write_ 207 = .ok (.return_, 1) := by decide +kernel
theorem dX12_go_0 : decode cX12_go 0 = .ok (.aload_n 0, 1) := by decide +kernel
theorem dX12_go_1 : decode cX12_go 1 = .ok (.invokevirtual 247, 3) := by decide +kernel
end
section
theorem dX12_go_4 : decode cX12_go 4 = .ok (.aload_n 0, 1) := by decide +kernel
theorem dX12_go_5 : decode cX12_go 5 = .ok (.getfield 202, 3) := by decide +kernel
theorem dX12_go_8 : decode cX12_go 8 = .ok (.iconst 4, 1) := by decide +kernel
theorem dX12_go_9 : decode cX12_go 9 = .ok (.if_icmp .ne 26, 3) := by decide +kernel
theorem dX12_go_12 : decode cX12_go 12 = .ok (.aload_n 0, 1) := by decide +kernel
theorem dX12_go_13 : decode cX12_go 13 = .ok (.dup, 1) := by decide +kernel
theorem dX12_go_14 : decode cX12_go 14 = .ok (.getfield 218, 3) := by decide +kernel
theorem dX12_go_17 : decode cX12_go 17 = .ok (.iconst 1, 1) := by decide +kernel
theorem dX12_go_18 : decode cX12_go 18 = .ok (.isub, 1) := by decide +kernel
theorem dX12_go_19 : decode cX12_go 19 = .ok (.putfield 218, 3) := by decide +kernel
theorem dX12_go_22 : decode cX12_go 22 = .ok (.aload_n 0, 1) := by decide +kernel
theorem dX12_go_23 : decode cX12_go 23 = .ok (.dup, 1) := by decide +kernel
theorem dX12_go_24 : decode cX12_go 24 = .ok (.getfield 250, 3) := by decide +kernel
theorem dX12_go_27 : decode cX12_go 27 = .ok (.iconst 1, 1) := by decide +kernel
theorem dX12_go_28 : decode cX12_go 28 = .ok (.iadd, 1) := by decide +kernel
theorem dX12_go_29 : decode cX12_go 29 = .ok (.putfield 250, 3) := by decide +kernel
theorem dX12_go_32 : decode cX12_go 32 = .ok (.goto 88, 3) := by decide +kernel
theorem dX12_go_35 : decode cX12_go 35 = .ok (.aload_n 0, 1) := by decide +kernel
theorem dX12_go_36 : decode cX12_go 36 = .ok (.getfield 202, 3) := by decide +kernel
theorem dX12_go_39 : decode cX12_go 39 = .ok (.ifCond .ne 37, 3) := by decide +kernel
theorem dX12_go_42 : decode cX12_go 42 = .ok (.aload_n 0, 1) := by decide +kernel
theorem dX12_go_43 : decode cX12_go 43 = .ok (.getfield 23, 3) := by decide +kernel
theorem dX12_go_46 : decode cX12_go 46 = .ok (.aload_n 0, 1) := by decide +kernel
theorem dX12_go_47 : decode cX12_go 47 = .ok (.getfield 205, 3) := by decide +kernel
theorem dX12_go_50 : decode cX12_go 50 = .ok (.aload_n 0, 1) := by decide +kernel
theorem dX12_go_51 : decode cX12_go 51 = .ok (.getfield 35, 3) := by decide +kernel
theorem dX12_go_54 : decode cX12_go 54 = .ok (.aload_n 0, 1) := by decide +kernel
theorem dX12_go_55 : decode cX12_go 55 = .ok (.getfield 208, 3) := by decide +kernel
theorem dX12_go_58 : decode cX12_go 58 = .ok (.iaload, 1) := by decide +kernel
theorem dX12_go_59 : decode cX12_go 59 = .ok (.invokestatic 172, 3) := by decide +kernel
theorem dX12_go_62 : decode cX12_go 62 = .ok (.iastore, 1) := by decide +kernel
theorem dX12_go_63 : decode cX12_go 63 = .ok (.aload_n 0, 1) := by decide +kernel
theorem dX12_go_64 : decode cX12_go 64 = .ok (.dup, 1) := by decide +kernel
theorem dX12_go_65 : decode cX12_go 65 = .ok (.getfield 253, 3) := by decide +kernel
theorem dX12_go_68 : decode cX12_go 68 = .ok (.iconst 1, 1) := by decide +kernel
theorem dX12_go_69 : decode cX12_go 69 = .ok (.iadd, 1) := by decide +kernel
theorem dX12_go_70 : decode cX12_go 70 = .ok (.putfield 253, 3) := by decide +kernel
theorem dX12_go_73 : decode cX12_go 73 = .ok (.goto 47, 3) := by decide +kernel
theorem dX12_go_76 : decode cX12_go 76 = .ok (.aload_n 0, 1) := by decide +kernel
theorem dX12_go_77 : decode cX12_go 77 = .ok (.getfield 202, 3) := by decide +kernel
theorem dX12_go_80 : decode cX12_go 80 = .ok (.iconst 1, 1) := by decide +kernel
theorem dX12_go_81 : decode cX12_go 81 = .ok (.if_icmp .ne 17, 3) := by decide +kernel
theorem dX12_go_84 : decode cX12_go 84 = .ok (.aload_n 0, 1) := by decide +kernel
theorem dX12_go_85 : decode cX12_go 85 = .ok (.getfield 23, 3) := by decide +kernel
theorem dX12_go_88 : decode cX12_go 88 = .ok (.aload_n 0, 1) := by decide +kernel
theorem dX12_go_89 : decode cX12_go 89 = .ok (.getfield 205, 3) := by decide +kernel
theorem dX12_go_92 : decode cX12_go 92 = .ok (.bipush (-2), 2) := by decide +kernel
theorem dX12_go_94 : decode cX12_go 94 = .ok (.iastore, 1) := by decide +kernel
theorem dX12_go_95 : decode cX12_go 95 = .ok (.goto 25, 3) := by decide +kernel
theorem dX12_go_98 : decode cX12_go 98 = .ok (.aload_n 0, 1) := by decide +kernel
theorem dX12_go_99 : decode cX12_go 99 = .ok (.dup, 1) := by decide +kernel
theorem dX12_go_100 : decode cX12_go 100 = .ok (.getfield 147, 3) := by decide +kernel
theorem dX12_go_103 : decode cX12_go 103 = .ok (.iconst 1, 1) := by decide +kernel
theorem dX12_go_104 : decode cX12_go 104 = .ok (.iadd, 1) := by decide +kernel
theorem dX12_go_105 : decode cX12_go 105 = .ok (.putfield 147, 3) := by decide +kernel
theorem dX12_go_108 : decode cX12_go 108 = .ok (.aload_n 0, 1) := by decide +kernel
theorem dX12_go_109 : decode cX12_go 109 = .ok (.aload_n 0, 1) := by decide +kernel
theorem dX12_go_110 : decode cX12_go 110 = .ok (.getfield 208, 3) := by decide +kernel
theorem dX12_go_113 : decode cX12_go 113 = .ok (.invokevirtual 256, 3) := by decide +kernel
theorem dX12_go_116 : decode cX12_go 116 = .ok (.aload_n 0, 1) := by decide +kernel
theorem dX12_go_117 : decode cX12_go 117 = .ok (.invokevirtual 144, 3) := by decide +kernel
theorem dX12_go_120 : decode cX12_go 120 = .ok (.return_, 1) := by decide +kernel
theorem dX12_isBehind_0 : decode cX12_isBehind 0 = .ok (.iconst 1, 1) := by decide +kernel
theorem dX12_isBehind_1 : decode cX12_isBehind 1 = .ok (.istore_n 2, 1) := by decide +kernel
theorem dX12_isBehind_2 : decode cX12_isBehind 2 = .ok (.iconst 0, 1) := by decide +kernel
theorem dX12_isBehind_3 : decode cX12_isBehind 3 = .ok (.istore_n 3, 1) := by decide +kernel
theorem dX12_isBehind_4 : decode cX12_isBehind 4 = .ok (.iload_n 3, 1) := by decide +kernel
theorem dX12_isBehind_5 : decode cX12_isBehind 5 = .ok (.iload_n 1, 1) := by decide +kernel
theorem dX12_isBehind_6 : decode cX12_isBehind 6 = .ok (.if_icmp .ge 42, 3) := by decide +kernel
theorem dX12_isBehind_9 : decode cX12_isBehind 9 = .ok (.iload_n 2, 1) := by decide +kernel
theorem dX12_isBehind_10 : decode cX12_isBehind 10 = .ok (.ifCond .eq 30, 3) := by decide +kernel
theorem dX12_isBehind_13 : decode cX12_isBehind 13 = .ok (.aload_n 0, 1) := by decide +kernel
theorem dX12_isBehind_14 : decode cX12_isBehind 14 = .ok (.iload_n 3, 1) := by decide +kernel
theorem dX12_isBehind_15 : decode cX12_isBehind 15 = .ok (.invokevirtual 164, 3) := by decide +kernel
theorem dX12_isBehind_18 : decode cX12_isBehind 18 = .ok (.ifCond .eq 18, 3) := by decide +kernel
theorem dX12_isBehind_21 : decode cX12_isBehind 21 = .ok (.aload_n 0, 1) := by decide +kernel
theorem dX12_isBehind_22 : decode cX12_isBehind 22 = .ok (.getfield 32, 3) := by decide +kernel
theorem dX12_isBehind_25 : decode cX12_isBehind 25 = .ok (.iload_n 3, 1) := by decide +kernel
theorem dX12_isBehind_26 : decode cX12_isBehind 26 = .ok (.iaload, 1) := by decide +kernel
theorem dX12_isBehind_27 : decode cX12_isBehind 27 = .ok (.aload_n 0, 1) := by decide +kernel
theorem dX12_isBehind_28 : decode cX12_isBehind 28 = .ok (.getfield 32, 3) := by decide +kernel
theorem dX12_isBehind_31 : decode cX12_isBehind 31 = .ok (.iload_n 1, 1) := by decide +kernel
theorem dX12_isBehind_32 : decode cX12_isBehind 32 = .ok (.iaload, 1) := by decide +kernel
theorem dX12_isBehind_33 : decode cX12_isBehind 33 = .ok (.if_icmp .eq 7, 3) := by decide +kernel
theorem dX12_isBehind_36 : decode cX12_isBehind 36 = .ok (.iconst 1, 1) := by decide +kernel
theorem dX12_isBehind_37 : decode cX12_isBehind 37 = .ok (.goto 4, 3) := by decide +kernel
theorem dX12_isBehind_40 : decode cX12_isBehind 40 = .ok (.iconst 0, 1) := by decide +kernel
theorem dX12_isBehind_41 : decode cX12_isBehind 41 = .ok (.istore_n 2, 1) := by decide +kernel
theorem dX12_isBehind_42 : decode cX12_isBehind 42 = .ok (.iinc 3 1, 3) := by decide +kernel
theorem dX12_isBehind_45 : decode cX12_isBehind 45 = .ok (.goto (-41), 3) := by decide +kernel
theorem dX12_isBehind_48 : decode cX12_isBehind 48 = .ok (.iload_n 2, 1) := by decide +kernel
theorem dX12_isBehind_49 : decode cX12_isBehind 49 = .ok (.ireturn, 1) := by decide +kernel
theorem dX12_begin_0 : decode cX12_begin 0 = .ok (.aload_n 0, 1) := by decide +kernel
theorem dX12_begin_1 : decode cX12_begin 1 = .ok (.dup, 1) := by decide +kernel
theorem dX12_begin_2 : decode cX12_begin 2 = .ok (.getfield 218, 3) := by decide +kernel
theorem dX12_begin_5 : decode cX12_begin 5 = .ok (.aload_n 0, 1) := by decide +kernel
theorem dX12_begin_6 : decode cX12_begin 6 = .ok (.getfield 130, 3) := by decide +kernel
theorem dX12_begin_9 : decode cX12_begin 9 = .ok (.ifCond .le 19, 3) := by decide +kernel
theorem dX12_begin_12 : decode cX12_begin 12 = .ok (.aload_n 0, 1) := by decide +kernel
theorem dX12_begin_13 : decode cX12_begin 13 = .ok (.getfield 20, 3) := by decide +kernel
theorem dX12_begin_16 : decode cX12_begin 16 = .ok (.aload_n 0, 1) := by decide +kernel
theorem dX12_begin_17 : decode cX12_begin 17 = .ok (.getfield 130, 3) := by decide +kernel
theorem dX12_begin_20 : decode cX12_begin 20 = .ok (.irem, 1) := by decide +kernel
theorem dX12_begin_21 : decode cX12_begin 21 = .ok (.ifCond .ne 7, 3) := by decide +kernel
theorem dX12_begin_24 : decode cX12_begin 24 = .ok (.iconst 1, 1) := by decide +kernel
theorem dX12_begin_25 : decode cX12_begin 25 = .ok (.goto 4, 3) := by decide +kernel
theorem dX12_begin_28 : decode cX12_begin 28 = .ok (.iconst 0, 1) := by decide +kernel
theorem dX12_begin_29 : decode cX12_begin 29 = .ok (.iadd, 1) := by decide +kernel
theorem dX12_begin_30 : decode cX12_begin 30 = .ok (.putfield 218, 3) := by decide +kernel
theorem dX12_begin_33 : decode cX12_begin 33 = .ok (.iconst 0, 1) := by decide +kernel
theorem dX12_begin_34 : decode cX12_begin 34 = .ok (.istore_n 1, 1) := by decide +kernel
theorem dX12_begin_35 : decode cX12_begin 35 = .ok (.iload_n 1, 1) := by decide +kernel
theorem dX12_begin_36 : decode cX12_begin 36 = .ok (.aload_n 0, 1) := by decide +kernel
theorem dX12_begin_37 : decode cX12_begin 37 = .ok (.getfield 141, 3) := by decide +kernel
theorem dX12_begin_40 : decode cX12_begin 40 = .ok (.if_icmp .ge 40, 3) := by decide +kernel
theorem dX12_begin_43 : decode cX12_begin 43 = .ok (.aload_n 0, 1) := by decide +kernel
theorem dX12_begin_44 : decode cX12_begin 44 = .ok (.iload_n 1, 1) := by decide +kernel
theorem dX12_begin_45 : decode cX12_begin 45 = .ok (.invokevirtual 164, 3) := by decide +kernel
theorem dX12_begin_48 : decode cX12_begin 48 = .ok (.ifCond .eq 26, 3) := by decide +kernel
theorem dX12_begin_51 : decode cX12_begin 51 = .ok (.aload_n 0, 1) := by decide +kernel
theorem dX12_begin_52 : decode cX12_begin 52 = .ok (.getfield 29, 3) := by decide +kernel
theorem dX12_begin_55 : decode cX12_begin 55 = .ok (.iload_n 1, 1) := by decide +kernel
theorem dX12_begin_56 : decode cX12_begin 56 = .ok (.iaload, 1) := by decide +kernel
theorem dX12_begin_57 : decode cX12_begin 57 = .ok (.iconst 4, 1) := by decide +kernel
theorem dX12_begin_58 : decode cX12_begin 58 = .ok (.if_icmp .ne 16, 3) := by decide +kernel
theorem dX12_begin_61 : decode cX12_begin 61 = .ok (.aload_n 0, 1) := by decide +kernel
theorem dX12_begin_62 : decode cX12_begin 62 = .ok (.iload_n 1, 1) := by decide +kernel
theorem dX12_begin_63 : decode cX12_begin 63 = .ok (.invokevirtual 259, 3) := by decide +kernel
theorem dX12_begin_66 : decode cX12_begin 66 = .ok (.ifCond .eq 8, 3) := by decide +kernel
theorem dX12_begin_69 : decode cX12_begin 69 = .ok (.aload_n 0, 1) := by decide +kernel
theorem dX12_begin_70 : decode cX12_begin 70 = .ok (.iload_n 1, 1) := by decide +kernel
theorem dX12_begin_71 : decode cX12_begin 71 = .ok (.invokevirtual 237, 3) := by decide +kernel
theorem dX12_begin_74 : decode cX12_begin 74 = .ok (.iinc 1 1, 3) := by decide +kernel
theorem dX12_begin_77 : decode cX12_begin 77 = .ok (.goto (-42), 3) := by decide +kernel
theorem dX12_begin_80 : decode cX12_begin 80 = .ok (.return_, 1) := by decide +kernel
theorem dX12_tick_0 : decode cX12_tick 0 = .ok (.aload_n 0, 1) := by decide +kernel
theorem dX12_tick_1 : decode cX12_tick 1 = .ok (.invokevirtual 262, 3) := by decide +kernel
theorem dX12_tick_4 : decode cX12_tick 4 = .ok (.aload_n 0, 1) := by decide +kernel
theorem dX12_tick_5 : decode cX12_tick 5 = .ok (.invokevirtual 265, 3) := by decide +kernel
theorem dX12_tick_8 : decode cX12_tick 8 = .ok (.aload_n 0, 1) := by decide +kernel
theorem dX12_tick_9 : decode cX12_tick 9 = .ok (.getfield 202, 3) := by decide +kernel
theorem dX12_tick_12 : decode cX12_tick 12 = .ok (.ifCond .lt 7, 3) := by decide +kernel
theorem dX12_tick_15 : decode cX12_tick 15 = .ok (.aload_n 0, 1) := by decide +kernel
theorem dX12_tick_16 : decode cX12_tick 16 = .ok (.invokevirtual 268, 3) := by decide +kernel
theorem dX12_tick_19 : decode cX12_tick 19 = .ok (.aload_n 0, 1) := by decide +kernel
theorem dX12_tick_20 : decode cX12_tick 20 = .ok (.dup, 1) := by decide +kernel
theorem dX12_tick_21 : decode cX12_tick 21 = .ok (.getfield 20, 3) := by decide +kernel
theorem dX12_tick_24 : decode cX12_tick 24 = .ok (.iconst 1, 1) := by decide +kernel
theorem dX12_tick_25 : decode cX12_tick 25 = .ok (.iadd, 1) := by decide +kernel
theorem dX12_tick_26 : decode cX12_tick 26 = .ok (.putfield 20, 3) := by decide +kernel
theorem dX12_tick_29 : decode cX12_tick 29 = .ok (.return_, 1) := by decide +kernel
theorem dX12_run_0 : decode cX12_run 0 = .ok (.aload_n 0, 1) := by decide +kernel
theorem dX12_run_1 : decode cX12_run 1 = .ok (.iconst 0, 1) := by decide +kernel
theorem dX12_run_2 : decode cX12_run 2 = .ok (.putfield 113, 3) := by decide +kernel
theorem dX12_run_5 : decode cX12_run 5 = .ok (.iload_n 1, 1) := by decide +kernel
theorem dX12_run_6 : decode cX12_run 6 = .ok (.i2l, 1) := by decide +kernel
theorem dX12_run_7 : decode cX12_run 7 = .ok (.lconst 1, 1) := by decide +kernel
theorem dX12_run_8 : decode cX12_run 8 = .ok (.ldc2_w 271, 3) := by decide +kernel
theorem dX12_run_11 : decode cX12_run 11 = .ok (.invokestatic 118, 3) := by decide +kernel
theorem dX12_run_14 : decode cX12_run 14 = .ok (.ifCond .ne 5, 3) := by decide +kernel
theorem dX12_run_17 : decode cX12_run 17 = .ok (.iconst (-1), 1) := by decide +kernel
theorem dX12_run_18 : decode cX12_run 18 = .ok (.ireturn, 1) := by decide +kernel
theorem dX12_run_19 : decode cX12_run 19 = .ok (.aload_n 0, 1) := by decide +kernel
theorem dX12_run_20 : decode cX12_run 20 = .ok (.getfield 138, 3) := by decide +kernel
theorem dX12_run_23 : decode cX12_run 23 = .ok (.istore_n 2, 1) := by decide +kernel
theorem dX12_run_24 : decode cX12_run 24 = .ok (.iconst 0, 1) := by decide +kernel
theorem dX12_run_25 : decode cX12_run 25 = .ok (.istore_n 3, 1) := by decide +kernel
theorem dX12_run_26 : decode cX12_run 26 = .ok (.iload_n 3, 1) := by decide +kernel
theorem dX12_run_27 : decode cX12_run 27 = .ok (.iload_n 1, 1) := by decide +kernel
theorem dX12_run_28 : decode cX12_run 28 = .ok (.if_icmp .ge 13, 3) := by decide +kernel
theorem dX12_run_31 : decode cX12_run 31 = .ok (.aload_n 0, 1) := by decide +kernel
theorem dX12_run_32 : decode cX12_run 32 = .ok (.invokevirtual 273, 3) := by decide +kernel
theorem dX12_run_35 : decode cX12_run 35 = .ok (.iinc 3 1, 3) := by decide +kernel
theorem dX12_run_38 : decode cX12_run 38 = .ok (.goto (-12), 3) := by decide +kernel
theorem dX12_run_41 : decode cX12_run 41 = .ok (.iload_n 2, 1) := by decide +kernel
theorem dX12_run_42 : decode cX12_run 42 = .ok (.aload_n 0, 1) := by decide +kernel
theorem dX12_run_43 : decode cX12_run 43 = .ok (.getfield 138, 3) := by decide +kernel
theorem dX12_run_46 : decode cX12_run 46 = .ok (.isub, 1) := by decide +kernel
theorem dX12_run_47 : decode cX12_run 47 = .ok (.ireturn, 1) := by decide +kernel
theorem dX12_drain_0 : decode cX12_drain 0 = .ok (.aload_n 0, 1) := by decide +kernel
theorem dX12_drain_1 : decode cX12_drain 1 = .ok (.iconst 0, 1) := by decide +kernel
theorem dX12_drain_2 : decode cX12_drain 2 = .ok (.putfield 113, 3) := by decide +kernel
theorem dX12_drain_5 : decode cX12_drain 5 = .ok (.iload_n 1, 1) := by decide +kernel
theorem dX12_drain_6 : decode cX12_drain 6 = .ok (.i2l, 1) := by decide +kernel
theorem dX12_drain_7 : decode cX12_drain 7 = .ok (.lconst 1, 1) := by decide +kernel
theorem dX12_drain_8 : decode cX12_drain 8 = .ok (.ldc2_w 271, 3) := by decide +kernel
theorem dX12_drain_11 : decode cX12_drain 11 = .ok (.invokestatic 118, 3) := by decide +kernel
theorem dX12_drain_14 : decode cX12_drain 14 = .ok (.ifCond .ne 5, 3) := by decide +kernel
theorem dX12_drain_17 : decode cX12_drain 17 = .ok (.iconst (-1), 1) := by decide +kernel
theorem dX12_drain_18 : decode cX12_drain 18 = .ok (.ireturn, 1) := by decide +kernel
theorem dX12_drain_19 : decode cX12_drain 19 = .ok (.iconst 0, 1) := by decide +kernel
theorem dX12_drain_20 : decode cX12_drain 20 = .ok (.istore_n 2, 1) := by decide +kernel
theorem dX12_drain_21 : decode cX12_drain 21 = .ok (.iload_n 2, 1) := by decide +kernel
theorem dX12_drain_22 : decode cX12_drain 22 = .ok (.iload_n 1, 1) := by decide +kernel
theorem dX12_drain_23 : decode cX12_drain 23 = .ok (.if_icmp .ge 20, 3) := by decide +kernel
theorem dX12_drain_26 : decode cX12_drain 26 = .ok (.aload_n 0, 1) := by decide +kernel
theorem dX12_drain_27 : decode cX12_drain 27 = .ok (.getfield 138, 3) := by decide +kernel
theorem dX12_drain_30 : decode cX12_drain 30 = .ok (.ifCond .le 13, 3) := by decide +kernel
theorem dX12_drain_33 : decode cX12_drain 33 = .ok (.aload_n 0, 1) := by decide +kernel
theorem dX12_drain_34 : decode cX12_drain 34 = .ok (.invokevirtual 273, 3) := by decide +kernel
theorem dX12_drain_37 : decode cX12_drain 37 = .ok (.iinc 2 1, 3) := by decide +kernel
theorem dX12_drain_40 : decode cX12_drain 40 = .ok (.goto (-19), 3) := by decide +kernel
theorem dX12_drain_43 : decode cX12_drain 43 = .ok (.iload_n 2, 1) := by decide +kernel
theorem dX12_drain_44 : decode cX12_drain 44 = .ok (.ireturn, 1) := by decide +kernel
theorem dX12_next_0 : decode cX12_next 0 = .ok (.aload_n 0, 1) := by decide +kernel
theorem dX12_next_1 : decode cX12_next 1 = .ok (.iconst 0, 1) := by decide +kernel
theorem dX12_next_2 : decode cX12_next 2 = .ok (.putfield 113, 3) := by decide +kernel
theorem dX12_next_5 : decode cX12_next 5 = .ok (.aload_n 0, 1) := by decide +kernel
theorem dX12_next_6 : decode cX12_next 6 = .ok (.getfield 218, 3) := by decide +kernel
theorem dX12_next_9 : decode cX12_next 9 = .ok (.istore_n 1, 1) := by decide +kernel
theorem dX12_next_10 : decode cX12_next 10 = .ok (.aload_n 0, 1) := by decide +kernel
theorem dX12_next_11 : decode cX12_next 11 = .ok (.getfield 138, 3) := by decide +kernel
theorem dX12_next_14 : decode cX12_next 14 = .ok (.istore_n 2, 1) := by decide +kernel
theorem dX12_next_15 : decode cX12_next 15 = .ok (.iconst 0, 1) := by decide +kernel
theorem dX12_next_16 : decode cX12_next 16 = .ok (.istore_n 3, 1) := by decide +kernel
theorem dX12_next_17 : decode cX12_next 17 = .ok (.iload_n 3, 1) := by decide +kernel
theorem dX12_next_18 : decode cX12_next 18 = .ok (.aload_n 0, 1) := by decide +kernel
theorem dX12_next_19 : decode cX12_next 19 = .ok (.getfield 141, 3) := by decide +kernel
theorem dX12_next_22 : decode cX12_next 22 = .ok (.if_icmp .ge 21, 3) := by decide +kernel
theorem dX12_next_25 : decode cX12_next 25 = .ok (.aload_n 0, 1) := by decide +kernel
theorem dX12_next_26 : decode cX12_next 26 = .ok (.getfield 92, 3) := by decide +kernel
theorem dX12_next_29 : decode cX12_next 29 = .ok (.iload_n 3, 1) := by decide +kernel
theorem dX12_next_30 : decode cX12_next 30 = .ok (.aload_n 0, 1) := by decide +kernel
theorem dX12_next_31 : decode cX12_next 31 = .ok (.getfield 47, 3) := by decide +kernel
theorem dX12_next_34 : decode cX12_next 34 = .ok (.iload_n 3, 1) := by decide +kernel
theorem dX12_next_35 : decode cX12_next 35 = .ok (.iaload, 1) := by decide +kernel
theorem dX12_next_36 : decode cX12_next 36 = .ok (.iastore, 1) := by decide +kernel
theorem dX12_next_37 : decode cX12_next 37 = .ok (.iinc 3 1, 3) := by decide +kernel
theorem dX12_next_40 : decode cX12_next 40 = .ok (.goto (-23), 3) := by decide +kernel
theorem dX12_next_43 : decode cX12_next 43 = .ok (.aload_n 0, 1) := by decide +kernel
theorem dX12_next_44 : decode cX12_next 44 = .ok (.invokevirtual 262, 3) := by decide +kernel
theorem dX12_next_47 : decode cX12_next 47 = .ok (.aload_n 0, 1) := by decide +kernel
theorem dX12_next_48 : decode cX12_next 48 = .ok (.invokevirtual 265, 3) := by decide +kernel
theorem dX12_next_51 : decode cX12_next 51 = .ok (.iconst 0, 1) := by decide +kernel
theorem dX12_next_52 : decode cX12_next 52 = .ok (.istore_n 3, 1) := by decide +kernel
theorem dX12_next_53 : decode cX12_next 53 = .ok (.iload_n 3, 1) := by decide +kernel
theorem dX12_next_54 : decode cX12_next 54 = .ok (.aload_n 0, 1) := by decide +kernel
theorem dX12_next_55 : decode cX12_next 55 = .ok (.getfield 141, 3) := by decide +kernel
theorem dX12_next_58 : decode cX12_next 58 = .ok (.if_icmp .ge 21, 3) := by decide +kernel
theorem dX12_next_61 : decode cX12_next 61 = .ok (.aload_n 0, 1) := by decide +kernel
theorem dX12_next_62 : decode cX12_next 62 = .ok (.getfield 47, 3) := by decide +kernel
theorem dX12_next_65 : decode cX12_next 65 = .ok (.iload_n 3, 1) := by decide +kernel
theorem dX12_next_66 : decode cX12_next 66 = .ok (.aload_n 0, 1) := by decide +kernel
theorem dX12_next_67 : decode cX12_next 67 = .ok (.getfield 92, 3) := by decide +kernel
theorem dX12_next_70 : decode cX12_next 70 = .ok (.iload_n 3, 1) := by decide +kernel
theorem dX12_next_71 : decode cX12_next 71 = .ok (.iaload, 1) := by decide +kernel
theorem dX12_next_72 : decode cX12_next 72 = .ok (.iastore, 1) := by decide +kernel
theorem dX12_next_73 : decode cX12_next 73 = .ok (.iinc 3 1, 3) := by decide +kernel
theorem dX12_next_76 : decode cX12_next 76 = .ok (.goto (-23), 3) := by decide +kernel
theorem dX12_next_79 : decode cX12_next 79 = .ok (.aload_n 0, 1) := by decide +kernel
theorem dX12_next_80 : decode cX12_next 80 = .ok (.iload_n 1, 1) := by decide +kernel
theorem dX12_next_81 : decode cX12_next 81 = .ok (.putfield 218, 3) := by decide +kernel
theorem dX12_next_84 : decode cX12_next 84 = .ok (.aload_n 0, 1) := by decide +kernel
theorem dX12_next_85 : decode cX12_next 85 = .ok (.iload_n 2, 1) := by decide +kernel
theorem dX12_next_86 : decode cX12_next 86 = .ok (.putfield 138, 3) := by decide +kernel
theorem dX12_next_89 : decode cX12_next 89 = .ok (.aload_n 0, 1) := by decide +kernel
theorem dX12_next_90 : decode cX12_next 90 = .ok (.getfield 202, 3) := by decide +kernel
theorem dX12_next_93 : decode cX12_next 93 = .ok (.ireturn, 1) := by decide +kernel
theorem dX12_isAsk_0 : decode cX12_isAsk 0 = .ok (.iload_n 1, 1) := by decide +kernel
theorem dX12_isAsk_1 : decode cX12_isAsk 1 = .ok (.ifCond .lt 15, 3) := by decide +kernel
theorem dX12_isAsk_4 : decode cX12_isAsk 4 = .ok (.iload_n 1, 1) := by decide +kernel
theorem dX12_isAsk_5 : decode cX12_isAsk 5 = .ok (.aload_n 0, 1) := by decide +kernel
theorem dX12_isAsk_6 : decode cX12_isAsk 6 = .ok (.getfield 141, 3) := by decide +kernel
theorem dX12_isAsk_9 : decode cX12_isAsk 9 = .ok (.if_icmp .ge 7, 3) := by decide +kernel
theorem dX12_isAsk_12 : decode cX12_isAsk 12 = .ok (.iconst 1, 1) := by decide +kernel
theorem dX12_isAsk_13 : decode cX12_isAsk 13 = .ok (.goto 4, 3) := by decide +kernel
theorem dX12_isAsk_16 : decode cX12_isAsk 16 = .ok (.iconst 0, 1) := by decide +kernel
theorem dX12_isAsk_17 : decode cX12_isAsk 17 = .ok (.ireturn, 1) := by decide +kernel
theorem dX12_look_0 : decode cX12_look 0 = .ok (.aload_n 0, 1) := by decide +kernel
theorem dX12_look_1 : decode cX12_look 1 = .ok (.iconst 0, 1) := by decide +kernel
theorem dX12_look_2 : decode cX12_look 2 = .ok (.putfield 113, 3) := by decide +kernel
theorem dX12_look_5 : decode cX12_look 5 = .ok (.aload_n 0, 1) := by decide +kernel
theorem dX12_look_6 : decode cX12_look 6 = .ok (.iload_n 1, 1) := by decide +kernel
theorem dX12_look_7 : decode cX12_look 7 = .ok (.invokevirtual 276, 3) := by decide +kernel
theorem dX12_look_10 : decode cX12_look 10 = .ok (.ifCond .eq 15, 3) := by decide +kernel
theorem dX12_look_13 : decode cX12_look 13 = .ok (.iload_n 2, 1) := by decide +kernel
theorem dX12_look_14 : decode cX12_look 14 = .ok (.i2l, 1) := by decide +kernel
theorem dX12_look_15 : decode cX12_look 15 = .ok (.lconst 0, 1) := by decide +kernel
theorem dX12_look_16 : decode cX12_look 16 = .ok (.ldc2_w 279, 3) := by decide +kernel
theorem dX12_look_19 : decode cX12_look 19 = .ok (.invokestatic 118, 3) := by decide +kernel
theorem dX12_look_22 : decode cX12_look 22 = .ok (.ifCond .ne 5, 3) := by decide +kernel
theorem dX12_look_25 : decode cX12_look 25 = .ok (.iconst (-1), 1) := by decide +kernel
theorem dX12_look_26 : decode cX12_look 26 = .ok (.ireturn, 1) := by decide +kernel
theorem dX12_look_27 : decode cX12_look 27 = .ok (.iload_n 2, 1) := by decide +kernel
theorem dX12_look_28 : decode cX12_look 28 = .ok (.tableswitch 82 0 5 #[40, 47, 54, 61, 68, 75], 40) := by decide +kernel
theorem dX12_look_68 : decode cX12_look 68 = .ok (.aload_n 0, 1) := by decide +kernel
theorem dX12_look_69 : decode cX12_look 69 = .ok (.getfield 29, 3) := by decide +kernel
theorem dX12_look_72 : decode cX12_look 72 = .ok (.iload_n 1, 1) := by decide +kernel
theorem dX12_look_73 : decode cX12_look 73 = .ok (.iaload, 1) := by decide +kernel
theorem dX12_look_74 : decode cX12_look 74 = .ok (.ireturn, 1) := by decide +kernel
theorem dX12_look_75 : decode cX12_look 75 = .ok (.aload_n 0, 1) := by decide +kernel
theorem dX12_look_76 : decode cX12_look 76 = .ok (.getfield 32, 3) := by decide +kernel
theorem dX12_look_79 : decode cX12_look 79 = .ok (.iload_n 1, 1) := by decide +kernel
theorem dX12_look_80 : decode cX12_look 80 = .ok (.iaload, 1) := by decide +kernel
theorem dX12_look_81 : decode cX12_look 81 = .ok (.ireturn, 1) := by decide +kernel
theorem dX12_look_82 : decode cX12_look 82 = .ok (.aload_n 0, 1) := by decide +kernel
theorem dX12_look_83 : decode cX12_look 83 = .ok (.getfield 35, 3) := by decide +kernel
theorem dX12_look_86 : decode cX12_look 86 = .ok (.iload_n 1, 1) := by decide +kernel
theorem dX12_look_87 : decode cX12_look 87 = .ok (.iaload, 1) := by decide +kernel
theorem dX12_look_88 : decode cX12_look 88 = .ok (.ireturn, 1) := by decide +kernel
theorem dX12_look_89 : decode cX12_look 89 = .ok (.aload_n 0, 1) := by decide +kernel
theorem dX12_look_90 : decode cX12_look 90 = .ok (.getfield 44, 3) := by decide +kernel
theorem dX12_look_93 : decode cX12_look 93 = .ok (.iload_n 1, 1) := by decide +kernel
theorem dX12_look_94 : decode cX12_look 94 = .ok (.iaload, 1) := by decide +kernel
theorem dX12_look_95 : decode cX12_look 95 = .ok (.ireturn, 1) := by decide +kernel
theorem dX12_look_96 : decode cX12_look 96 = .ok (.aload_n 0, 1) := by decide +kernel
theorem dX12_look_97 : decode cX12_look 97 = .ok (.getfield 47, 3) := by decide +kernel
theorem dX12_look_100 : decode cX12_look 100 = .ok (.iload_n 1, 1) := by decide +kernel
theorem dX12_look_101 : decode cX12_look 101 = .ok (.iaload, 1) := by decide +kernel
theorem dX12_look_102 : decode cX12_look 102 = .ok (.ireturn, 1) := by decide +kernel
theorem dX12_look_103 : decode cX12_look 103 = .ok (.aload_n 0, 1) := by decide +kernel
theorem dX12_look_104 : decode cX12_look 104 = .ok (.getfield 50, 3) := by decide +kernel
theorem dX12_look_107 : decode cX12_look 107 = .ok (.iload_n 1, 1) := by decide +kernel
theorem dX12_look_108 : decode cX12_look 108 = .ok (.iaload, 1) := by decide +kernel
theorem dX12_look_109 : decode cX12_look 109 = .ok (.ireturn, 1) := by decide +kernel
theorem dX12_look_110 : decode cX12_look 110 = .ok (.aload_n 0, 1) := by decide +kernel
theorem dX12_look_111 : decode cX12_look 111 = .ok (.iload_n 1, 1) := by decide +kernel
theorem dX12_look_112 : decode cX12_look 112 = .ok (.invokevirtual 211, 3) := by decide +kernel
theorem dX12_look_115 : decode cX12_look 115 = .ok (.ifCond .eq 7, 3) := by decide +kernel
theorem dX12_look_118 : decode cX12_look 118 = .ok (.iconst 1, 1) := by decide +kernel
theorem dX12_look_119 : decode cX12_look 119 = .ok (.goto 4, 3) := by decide +kernel
theorem dX12_look_122 : decode cX12_look 122 = .ok (.iconst 0, 1) := by decide +kernel
theorem dX12_look_123 : decode cX12_look 123 = .ok (.ireturn, 1) := by decide +kernel
theorem dX12_at_0 : decode cX12_at 0 = .ok (.aload_n 0, 1) := by decide +kernel
theorem dX12_at_1 : decode cX12_at 1 = .ok (.iconst 0, 1) := by decide +kernel
theorem dX12_at_2 : decode cX12_at 2 = .ok (.putfield 113, 3) := by decide +kernel
theorem dX12_at_5 : decode cX12_at 5 = .ok (.iload_n 1, 1) := by decide +kernel
theorem dX12_at_6 : decode cX12_at 6 = .ok (.ifCond .ge 5, 3) := by decide +kernel
theorem dX12_at_9 : decode cX12_at 9 = .ok (.iconst (-1), 1) := by decide +kernel
theorem dX12_at_10 : decode cX12_at 10 = .ok (.ireturn, 1) := by decide +kernel
theorem dX12_at_11 : decode cX12_at 11 = .ok (.aload_n 0, 1) := by decide +kernel
theorem dX12_at_12 : decode cX12_at 12 = .ok (.invokevirtual 228, 3) := by decide +kernel
theorem dX12_at_15 : decode cX12_at 15 = .ok (.iload_n 1, 1) := by decide +kernel
theorem dX12_at_16 : decode cX12_at 16 = .ok (.aload_n 0, 1) := by decide +kernel
theorem dX12_at_17 : decode cX12_at 17 = .ok (.getfield 178, 3) := by decide +kernel
theorem dX12_at_20 : decode cX12_at 20 = .ok (.if_icmp .ge 12, 3) := by decide +kernel
theorem dX12_at_23 : decode cX12_at 23 = .ok (.aload_n 0, 1) := by decide +kernel
theorem dX12_at_24 : decode cX12_at 24 = .ok (.getfield 89, 3) := by decide +kernel
theorem dX12_at_27 : decode cX12_at 27 = .ok (.iload_n 1, 1) := by decide +kernel
theorem dX12_at_28 : decode cX12_at 28 = .ok (.iaload, 1) := by decide +kernel
theorem dX12_at_29 : decode cX12_at 29 = .ok (.goto 5, 3) := by decide +kernel
theorem dX12_at_32 : decode cX12_at 32 = .ok (.bipush (-2), 2) := by decide +kernel
theorem dX12_at_34 : decode cX12_at 34 = .ok (.ireturn, 1) := by decide +kernel
theorem dX12_soonest_0 : decode cX12_soonest 0 = .ok (.aload_n 0, 1) := by decide +kernel
theorem dX12_soonest_1 : decode cX12_soonest 1 = .ok (.iconst 0, 1) := by decide +kernel
theorem dX12_soonest_2 : decode cX12_soonest 2 = .ok (.putfield 113, 3) := by decide +kernel
theorem dX12_soonest_5 : decode cX12_soonest 5 = .ok (.iload_n 1, 1) := by decide +kernel
theorem dX12_soonest_6 : decode cX12_soonest 6 = .ok (.i2l, 1) := by decide +kernel
theorem dX12_soonest_7 : decode cX12_soonest 7 = .ok (.lconst 0, 1) := by decide +kernel
theorem dX12_soonest_8 : decode cX12_soonest 8 = .ok (.ldc2_w 281, 3) := by decide +kernel
theorem dX12_soonest_11 : decode cX12_soonest 11 = .ok (.invokestatic 118, 3) := by decide +kernel
theorem dX12_soonest_14 : decode cX12_soonest 14 = .ok (.ifCond .eq 20, 3) := by decide +kernel
theorem dX12_soonest_17 : decode cX12_soonest 17 = .ok (.iload_n 1, 1) := by decide +kernel
theorem dX12_soonest_18 : decode cX12_soonest 18 = .ok (.iconst 4, 1) := by decide +kernel
theorem dX12_soonest_19 : decode cX12_soonest 19 = .ok (.if_icmp .ge 17, 3) := by decide +kernel
theorem dX12_soonest_22 : decode cX12_soonest 22 = .ok (.iload_n 2, 1) := by decide +kernel
theorem dX12_soonest_23 : decode cX12_soonest 23 = .ok (.i2l, 1) := by decide +kernel
theorem dX12_soonest_24 : decode cX12_soonest 24 = .ok (.lconst 0, 1) := by decide +kernel
theorem dX12_soonest_25 : decode cX12_soonest 25 = .ok (.ldc2_w 150, 3) := by decide +kernel
theorem dX12_soonest_28 : decode cX12_soonest 28 = .ok (.invokestatic 118, 3) := by decide +kernel
theorem dX12_soonest_31 : decode cX12_soonest 31 = .ok (.ifCond .ne 5, 3) := by decide +kernel
theorem dX12_soonest_34 : decode cX12_soonest 34 = .ok (.iconst (-1), 1) := by decide +kernel
theorem dX12_soonest_35 : decode cX12_soonest 35 = .ok (.ireturn, 1) := by decide +kernel
theorem dX12_soonest_36 : decode cX12_soonest 36 = .ok (.aload_n 0, 1) := by decide +kernel
theorem dX12_soonest_37 : decode cX12_soonest 37 = .ok (.iload_n 1, 1) := by decide +kernel
theorem dX12_soonest_38 : decode cX12_soonest 38 = .ok (.iload_n 2, 1) := by decide +kernel
theorem dX12_soonest_39 : decode cX12_soonest 39 = .ok (.invokevirtual 194, 3) := by decide +kernel
theorem dX12_soonest_42 : decode cX12_soonest 42 = .ok (.ifCond .ne 6, 3) := by decide +kernel
theorem dX12_soonest_45 : decode cX12_soonest 45 = .ok (.bipush (-2), 2) := by decide +kernel
theorem dX12_soonest_47 : decode cX12_soonest 47 = .ok (.ireturn, 1) := by decide +kernel
theorem dX12_soonest_48 : decode cX12_soonest 48 = .ok (.aload_n 0, 1) := by decide +kernel
theorem dX12_soonest_49 : decode cX12_soonest 49 = .ok (.getfield 20, 3) := by decide +kernel
theorem dX12_soonest_52 : decode cX12_soonest 52 = .ok (.istore_n 3, 1) := by decide +kernel
theorem dX12_soonest_53 : decode cX12_soonest 53 = .ok (.aload_n 0, 1) := by decide +kernel
theorem dX12_soonest_54 : decode cX12_soonest 54 = .ok (.iload_n 1, 1) := by decide +kernel
theorem dX12_soonest_55 : decode cX12_soonest 55 = .ok (.iload_n 1, 1) := by decide +kernel
theorem dX12_soonest_56 : decode cX12_soonest 56 = .ok (.iconst 4, 1) := by decide +kernel
theorem dX12_soonest_57 : decode cX12_soonest 57 = .ok (.if_icmp .ne 8, 3) := by decide +kernel
theorem dX12_soonest_60 : decode cX12_soonest 60 = .ok (.bipush (-2), 2) := by decide +kernel
theorem dX12_soonest_62 : decode cX12_soonest 62 = .ok (.goto 4, 3) := by decide +kernel
theorem dX12_soonest_65 : decode cX12_soonest 65 = .ok (.iload_n 2, 1) := by decide +kernel
theorem dX12_soonest_66 : decode cX12_soonest 66 = .ok (.iload_n 3, 1) := by decide +kernel
theorem dX12_soonest_67 : decode cX12_soonest 67 = .ok (.invokevirtual 198, 3) := by decide +kernel
theorem dX12_soonest_70 : decode cX12_soonest 70 = .ok (.ifCond .ne 9, 3) := by decide +kernel
theorem dX12_soonest_73 : decode cX12_soonest 73 = .ok (.iinc 3 1, 3) := by decide +kernel
theorem dX12_soonest_76 : decode cX12_soonest 76 = .ok (.goto (-23), 3) := by decide +kernel
theorem dX12_soonest_79 : decode cX12_soonest 79 = .ok (.iload_n 3, 1) := by decide +kernel
theorem dX12_soonest_80 : decode cX12_soonest 80 = .ok (.ireturn, 1) := by decide +kernel
theorem dX12_row_0 : decode cX12_row 0 = .ok (.aload_n 0, 1) := by decide +kernel
theorem dX12_row_1 : decode cX12_row 1 = .ok (.iconst 0, 1) := by decide +kernel
theorem dX12_row_2 : decode cX12_row 2 = .ok (.putfield 113, 3) := by decide +kernel
theorem dX12_row_5 : decode cX12_row 5 = .ok (.iload_n 1, 1) := by decide +kernel
theorem dX12_row_6 : decode cX12_row 6 = .ok (.i2l, 1) := by decide +kernel
theorem dX12_row_7 : decode cX12_row 7 = .ok (.lconst 0, 1) := by decide +kernel
theorem dX12_row_8 : decode cX12_row 8 = .ok (.ldc2_w 150, 3) := by decide +kernel
theorem dX12_row_11 : decode cX12_row 11 = .ok (.invokestatic 118, 3) := by decide +kernel
theorem dX12_row_14 : decode cX12_row 14 = .ok (.ifCond .eq 12, 3) := by decide +kernel
theorem dX12_row_17 : decode cX12_row 17 = .ok (.aload_n 0, 1) := by decide +kernel
theorem dX12_row_18 : decode cX12_row 18 = .ok (.getfield 23, 3) := by decide +kernel
theorem dX12_row_21 : decode cX12_row 21 = .ok (.iload_n 1, 1) := by decide +kernel
theorem dX12_row_22 : decode cX12_row 22 = .ok (.iaload, 1) := by decide +kernel
theorem dX12_row_23 : decode cX12_row 23 = .ok (.goto 4, 3) := by decide +kernel
theorem dX12_row_26 : decode cX12_row 26 = .ok (.iconst (-1), 1) := by decide +kernel
theorem dX12_row_27 : decode cX12_row 27 = .ok (.ireturn, 1) := by decide +kernel
theorem dX12_octet_0 : decode cX12_octet 0 = .ok (.aload_n 0, 1) := by decide +kernel
theorem dX12_octet_1 : decode cX12_octet 1 = .ok (.iconst 0, 1) := by decide +kernel
theorem dX12_octet_2 : decode cX12_octet 2 = .ok (.putfield 113, 3) := by decide +kernel
theorem dX12_octet_5 : decode cX12_octet 5 = .ok (.iload_n 1, 1) := by decide +kernel
theorem dX12_octet_6 : decode cX12_octet 6 = .ok (.i2l, 1) := by decide +kernel
theorem dX12_octet_7 : decode cX12_octet 7 = .ok (.lconst 0, 1) := by decide +kernel
theorem dX12_octet_8 : decode cX12_octet 8 = .ok (.ldc2_w 152, 3) := by decide +kernel
theorem dX12_octet_11 : decode cX12_octet 11 = .ok (.invokestatic 118, 3) := by decide +kernel
theorem dX12_octet_14 : decode cX12_octet 14 = .ok (.ifCond .eq 12, 3) := by decide +kernel
theorem dX12_octet_17 : decode cX12_octet 17 = .ok (.aload_n 0, 1) := by decide +kernel
theorem dX12_octet_18 : decode cX12_octet 18 = .ok (.getfield 26, 3) := by decide +kernel
theorem dX12_octet_21 : decode cX12_octet 21 = .ok (.iload_n 1, 1) := by decide +kernel
theorem dX12_octet_22 : decode cX12_octet 22 = .ok (.iaload, 1) := by decide +kernel
theorem dX12_octet_23 : decode cX12_octet 23 = .ok (.goto 4, 3) := by decide +kernel
theorem dX12_octet_26 : decode cX12_octet 26 = .ok (.iconst (-1), 1) := by decide +kernel
theorem dX12_octet_27 : decode cX12_octet 27 = .ok (.ireturn, 1) := by decide +kernel
theorem dX12_isLogged_0 : decode cX12_isLogged 0 = .ok (.iload_n 1, 1) := by decide +kernel
theorem dX12_isLogged_1 : decode cX12_isLogged 1 = .ok (.ifCond .lt 15, 3) := by decide +kernel
theorem dX12_isLogged_4 : decode cX12_isLogged 4 = .ok (.iload_n 1, 1) := by decide +kernel
theorem dX12_isLogged_5 : decode cX12_isLogged 5 = .ok (.aload_n 0, 1) := by decide +kernel
theorem dX12_isLogged_6 : decode cX12_isLogged 6 = .ok (.getfield 241, 3) := by decide +kernel
theorem dX12_isLogged_9 : decode cX12_isLogged 9 = .ok (.if_icmp .ge 7, 3) := by decide +kernel
theorem dX12_isLogged_12 : decode cX12_isLogged 12 = .ok (.iconst 1, 1) := by decide +kernel
theorem dX12_isLogged_13 : decode cX12_isLogged 13 = .ok (.goto 4, 3) := by decide +kernel
theorem dX12_isLogged_16 : decode cX12_isLogged 16 = .ok (.iconst 0, 1) := by decide +kernel
theorem dX12_isLogged_17 : decode cX12_isLogged 17 = .ok (.ireturn, 1) := by decide +kernel
theorem dX12_log_0 : decode cX12_log 0 = .ok (.aload_n 0, 1) := by decide +kernel
theorem dX12_log_1 : decode cX12_log 1 = .ok (.iconst 0, 1) := by decide +kernel
theorem dX12_log_2 : decode cX12_log 2 = .ok (.putfield 113, 3) := by decide +kernel
theorem dX12_log_5 : decode cX12_log 5 = .ok (.aload_n 0, 1) := by decide +kernel
theorem dX12_log_6 : decode cX12_log 6 = .ok (.iload_n 1, 1) := by decide +kernel
theorem dX12_log_7 : decode cX12_log 7 = .ok (.invokevirtual 283, 3) := by decide +kernel
theorem dX12_log_10 : decode cX12_log 10 = .ok (.ifCond .eq 15, 3) := by decide +kernel
theorem dX12_log_13 : decode cX12_log 13 = .ok (.iload_n 2, 1) := by decide +kernel
theorem dX12_log_14 : decode cX12_log 14 = .ok (.i2l, 1) := by decide +kernel
theorem dX12_log_15 : decode cX12_log 15 = .ok (.lconst 0, 1) := by decide +kernel
theorem dX12_log_16 : decode cX12_log 16 = .ok (.ldc2_w 281, 3) := by decide +kernel
theorem dX12_log_19 : decode cX12_log 19 = .ok (.invokestatic 118, 3) := by decide +kernel
theorem dX12_log_22 : decode cX12_log 22 = .ok (.ifCond .ne 5, 3) := by decide +kernel
theorem dX12_log_25 : decode cX12_log 25 = .ok (.iconst (-1), 1) := by decide +kernel
theorem dX12_log_26 : decode cX12_log 26 = .ok (.ireturn, 1) := by decide +kernel
theorem dX12_log_27 : decode cX12_log 27 = .ok (.iload_n 2, 1) := by decide +kernel
theorem dX12_log_28 : decode cX12_log 28 = .ok (.ifCond .ne 12, 3) := by decide +kernel
theorem dX12_log_31 : decode cX12_log 31 = .ok (.aload_n 0, 1) := by decide +kernel
theorem dX12_log_32 : decode cX12_log 32 = .ok (.getfield 68, 3) := by decide +kernel
theorem dX12_log_35 : decode cX12_log 35 = .ok (.iload_n 1, 1) := by decide +kernel
theorem dX12_log_36 : decode cX12_log 36 = .ok (.iaload, 1) := by decide +kernel
theorem dX12_log_37 : decode cX12_log 37 = .ok (.goto 51, 3) := by decide +kernel
theorem dX12_log_40 : decode cX12_log 40 = .ok (.iload_n 2, 1) := by decide +kernel
theorem dX12_log_41 : decode cX12_log 41 = .ok (.iconst 1, 1) := by decide +kernel
theorem dX12_log_42 : decode cX12_log 42 = .ok (.if_icmp .ne 12, 3) := by decide +kernel
theorem dX12_log_45 : decode cX12_log 45 = .ok (.aload_n 0, 1) := by decide +kernel
theorem dX12_log_46 : decode cX12_log 46 = .ok (.getfield 74, 3) := by decide +kernel
theorem dX12_log_49 : decode cX12_log 49 = .ok (.iload_n 1, 1) := by decide +kernel
theorem dX12_log_50 : decode cX12_log 50 = .ok (.iaload, 1) := by decide +kernel
theorem dX12_log_51 : decode cX12_log 51 = .ok (.goto 37, 3) := by decide +kernel
theorem dX12_log_54 : decode cX12_log 54 = .ok (.iload_n 2, 1) := by decide +kernel
theorem dX12_log_55 : decode cX12_log 55 = .ok (.iconst 2, 1) := by decide +kernel
theorem dX12_log_56 : decode cX12_log 56 = .ok (.if_icmp .ne 12, 3) := by decide +kernel
theorem dX12_log_59 : decode cX12_log 59 = .ok (.aload_n 0, 1) := by decide +kernel
theorem dX12_log_60 : decode cX12_log 60 = .ok (.getfield 77, 3) := by decide +kernel
theorem dX12_log_63 : decode cX12_log 63 = .ok (.iload_n 1, 1) := by decide +kernel
theorem dX12_log_64 : decode cX12_log 64 = .ok (.iaload, 1) := by decide +kernel
theorem dX12_log_65 : decode cX12_log 65 = .ok (.goto 23, 3) := by decide +kernel
theorem dX12_log_68 : decode cX12_log 68 = .ok (.iload_n 2, 1) := by decide +kernel
theorem dX12_log_69 : decode cX12_log 69 = .ok (.iconst 3, 1) := by decide +kernel
theorem dX12_log_70 : decode cX12_log 70 = .ok (.if_icmp .ne 12, 3) := by decide +kernel
theorem dX12_log_73 : decode cX12_log 73 = .ok (.aload_n 0, 1) := by decide +kernel
theorem dX12_log_74 : decode cX12_log 74 = .ok (.getfield 80, 3) := by decide +kernel
theorem dX12_log_77 : decode cX12_log 77 = .ok (.iload_n 1, 1) := by decide +kernel
theorem dX12_log_78 : decode cX12_log 78 = .ok (.iaload, 1) := by decide +kernel
theorem dX12_log_79 : decode cX12_log 79 = .ok (.goto 9, 3) := by decide +kernel
theorem dX12_log_82 : decode cX12_log 82 = .ok (.aload_n 0, 1) := by decide +kernel
theorem dX12_log_83 : decode cX12_log 83 = .ok (.getfield 83, 3) := by decide +kernel
theorem dX12_log_86 : decode cX12_log 86 = .ok (.iload_n 1, 1) := by decide +kernel
theorem dX12_log_87 : decode cX12_log 87 = .ok (.iaload, 1) := by decide +kernel
theorem dX12_log_88 : decode cX12_log 88 = .ok (.ireturn, 1) := by decide +kernel
theorem dX12_forge_0 : decode cX12_forge 0 = .ok (.aload_n 0, 1) := by decide +kernel
theorem dX12_forge_1 : decode cX12_forge 1 = .ok (.iconst 0, 1) := by decide +kernel
theorem dX12_forge_2 : decode cX12_forge 2 = .ok (.putfield 113, 3) := by decide +kernel
theorem dX12_forge_5 : decode cX12_forge 5 = .ok (.aload_n 0, 1) := by decide +kernel
theorem dX12_forge_6 : decode cX12_forge 6 = .ok (.iload_n 1, 1) := by decide +kernel
theorem dX12_forge_7 : decode cX12_forge 7 = .ok (.invokevirtual 283, 3) := by decide +kernel
theorem dX12_forge_10 : decode cX12_forge 10 = .ok (.ifCond .eq 15, 3) := by decide +kernel
theorem dX12_forge_13 : decode cX12_forge 13 = .ok (.iload_n 2, 1) := by decide +kernel
theorem dX12_forge_14 : decode cX12_forge 14 = .ok (.i2l, 1) := by decide +kernel
theorem dX12_forge_15 : decode cX12_forge 15 = .ok (.lconst 1, 1) := by decide +kernel
theorem dX12_forge_16 : decode cX12_forge 16 = .ok (.ldc2_w 286, 3) := by decide +kernel
theorem dX12_forge_19 : decode cX12_forge 19 = .ok (.invokestatic 118, 3) := by decide +kernel
theorem dX12_forge_22 : decode cX12_forge 22 = .ok (.ifCond .ne 5, 3) := by decide +kernel
theorem dX12_forge_25 : decode cX12_forge 25 = .ok (.iconst (-1), 1) := by decide +kernel
theorem dX12_forge_26 : decode cX12_forge 26 = .ok (.ireturn, 1) := by decide +kernel
theorem dX12_forge_27 : decode cX12_forge 27 = .ok (.aload_n 0, 1) := by decide +kernel
theorem dX12_forge_28 : decode cX12_forge 28 = .ok (.getfield 71, 3) := by decide +kernel
theorem dX12_forge_31 : decode cX12_forge 31 = .ok (.iload_n 1, 1) := by decide +kernel
theorem dX12_forge_32 : decode cX12_forge 32 = .ok (.iaload, 1) := by decide +kernel
theorem dX12_forge_33 : decode cX12_forge 33 = .ok (.istore_n 3, 1) := by decide +kernel
theorem dX12_forge_34 : decode cX12_forge 34 = .ok (.aload_n 0, 1) := by decide +kernel
theorem dX12_forge_35 : decode cX12_forge 35 = .ok (.getfield 71, 3) := by decide +kernel
theorem dX12_forge_38 : decode cX12_forge 38 = .ok (.iload_n 1, 1) := by decide +kernel
theorem dX12_forge_39 : decode cX12_forge 39 = .ok (.iload_n 2, 1) := by decide +kernel
theorem dX12_forge_40 : decode cX12_forge 40 = .ok (.iastore, 1) := by decide +kernel
theorem dX12_forge_41 : decode cX12_forge 41 = .ok (.iload_n 3, 1) := by decide +kernel
theorem dX12_forge_42 : decode cX12_forge 42 = .ok (.ireturn, 1) := by decide +kernel
theorem dX12_breaks_0 : decode cX12_breaks 0 = .ok (.bipush (-2), 2) := by decide +kernel
theorem dX12_breaks_2 : decode cX12_breaks 2 = .ok (.istore_n 2, 1) := by decide +kernel
theorem dX12_breaks_3 : decode cX12_breaks 3 = .ok (.iconst 0, 1) := by decide +kernel
theorem dX12_breaks_4 : decode cX12_breaks 4 = .ok (.istore_n 3, 1) := by decide +kernel
theorem dX12_breaks_5 : decode cX12_breaks 5 = .ok (.iload_n 1, 1) := by decide +kernel
theorem dX12_breaks_6 : decode cX12_breaks 6 = .ok (.iconst 1, 1) := by decide +kernel
theorem dX12_breaks_7 : decode cX12_breaks 7 = .ok (.isub, 1) := by decide +kernel
theorem dX12_breaks_8 : decode cX12_breaks 8 = .ok (.istore 4, 2) := by decide +kernel
theorem dX12_breaks_10 : decode cX12_breaks 10 = .ok (.iload 4, 2) := by decide +kernel
theorem dX12_breaks_12 : decode cX12_breaks 12 = .ok (.ifCond .lt 216, 3) := by decide +kernel
theorem dX12_breaks_15 : decode cX12_breaks 15 = .ok (.aload_n 0, 1) := by decide +kernel
theorem dX12_breaks_16 : decode cX12_breaks 16 = .ok (.getfield 71, 3) := by decide +kernel
theorem dX12_breaks_19 : decode cX12_breaks 19 = .ok (.iload_n 1, 1) := by decide +kernel
theorem dX12_breaks_20 : decode cX12_breaks 20 = .ok (.iaload, 1) := by decide +kernel
theorem dX12_breaks_21 : decode cX12_breaks 21 = .ok (.aload_n 0, 1) := by decide +kernel
theorem dX12_breaks_22 : decode cX12_breaks 22 = .ok (.getfield 71, 3) := by decide +kernel
theorem dX12_breaks_25 : decode cX12_breaks 25 = .ok (.iload 4, 2) := by decide +kernel
theorem dX12_breaks_27 : decode cX12_breaks 27 = .ok (.iaload, 1) := by decide +kernel
theorem dX12_breaks_28 : decode cX12_breaks 28 = .ok (.isub, 1) := by decide +kernel
theorem dX12_breaks_29 : decode cX12_breaks 29 = .ok (.istore 5, 2) := by decide +kernel
theorem dX12_breaks_31 : decode cX12_breaks 31 = .ok (.bipush 12, 2) := by decide +kernel
theorem dX12_breaks_33 : decode cX12_breaks 33 = .ok (.istore 6, 2) := by decide +kernel
theorem dX12_breaks_35 : decode cX12_breaks 35 = .ok (.iload 6, 2) := by decide +kernel
theorem dX12_breaks_37 : decode cX12_breaks 37 = .ok (.ifCond .lt 117, 3) := by decide +kernel
theorem dX12_breaks_40 : decode cX12_breaks 40 = .ok (.iload 6, 2) := by decide +kernel
theorem dX12_breaks_42 : decode cX12_breaks 42 = .ok (.bipush 10, 2) := by decide +kernel
theorem dX12_breaks_44 : decode cX12_breaks 44 = .ok (.if_icmp .eq 79, 3) := by decide +kernel
theorem dX12_breaks_47 : decode cX12_breaks 47 = .ok (.iload 5, 2) := by decide +kernel
theorem dX12_breaks_49 : decode cX12_breaks 49 = .ok (.aload_n 0, 1) := by decide +kernel
theorem dX12_breaks_50 : decode cX12_breaks 50 = .ok (.iload 6, 2) := by decide +kernel
theorem dX12_breaks_52 : decode cX12_breaks 52 = .ok (.aload_n 0, 1) := by decide +kernel
theorem dX12_breaks_53 : decode cX12_breaks 53 = .ok (.getfield 74, 3) := by decide +kernel
theorem dX12_breaks_56 : decode cX12_breaks 56 = .ok (.iload 4, 2) := by decide +kernel
theorem dX12_breaks_58 : decode cX12_breaks 58 = .ok (.iaload, 1) := by decide +kernel
theorem dX12_breaks_59 : decode cX12_breaks 59 = .ok (.aload_n 0, 1) := by decide +kernel
theorem dX12_breaks_60 : decode cX12_breaks 60 = .ok (.getfield 77, 3) := by decide +kernel
theorem dX12_breaks_63 : decode cX12_breaks 63 = .ok (.iload 4, 2) := by decide +kernel
theorem dX12_breaks_65 : decode cX12_breaks 65 = .ok (.iaload, 1) := by decide +kernel
theorem dX12_breaks_66 : decode cX12_breaks 66 = .ok (.aload_n 0, 1) := by decide +kernel
theorem dX12_breaks_67 : decode cX12_breaks 67 = .ok (.getfield 74, 3) := by decide +kernel
theorem dX12_breaks_70 : decode cX12_breaks 70 = .ok (.iload_n 1, 1) := by decide +kernel
theorem dX12_breaks_71 : decode cX12_breaks 71 = .ok (.iaload, 1) := by decide +kernel
theorem dX12_breaks_72 : decode cX12_breaks 72 = .ok (.aload_n 0, 1) := by decide +kernel
theorem dX12_breaks_73 : decode cX12_breaks 73 = .ok (.getfield 77, 3) := by decide +kernel
theorem dX12_breaks_76 : decode cX12_breaks 76 = .ok (.iload_n 1, 1) := by decide +kernel
theorem dX12_breaks_77 : decode cX12_breaks 77 = .ok (.iaload, 1) := by decide +kernel
theorem dX12_breaks_78 : decode cX12_breaks 78 = .ok (.invokevirtual 187, 3) := by decide +kernel
theorem dX12_breaks_81 : decode cX12_breaks 81 = .ok (.if_icmp .ge 42, 3) := by decide +kernel
theorem dX12_breaks_84 : decode cX12_breaks 84 = .ok (.aload_n 0, 1) := by decide +kernel
theorem dX12_breaks_85 : decode cX12_breaks 85 = .ok (.iload 6, 2) := by decide +kernel
theorem dX12_breaks_87 : decode cX12_breaks 87 = .ok (.aload_n 0, 1) := by decide +kernel
theorem dX12_breaks_88 : decode cX12_breaks 88 = .ok (.getfield 74, 3) := by decide +kernel
theorem dX12_breaks_91 : decode cX12_breaks 91 = .ok (.iload 4, 2) := by decide +kernel
theorem dX12_breaks_93 : decode cX12_breaks 93 = .ok (.iaload, 1) := by decide +kernel
theorem dX12_breaks_94 : decode cX12_breaks 94 = .ok (.aload_n 0, 1) := by decide +kernel
theorem dX12_breaks_95 : decode cX12_breaks 95 = .ok (.getfield 77, 3) := by decide +kernel
theorem dX12_breaks_98 : decode cX12_breaks 98 = .ok (.iload 4, 2) := by decide +kernel
theorem dX12_breaks_100 : decode cX12_breaks 100 = .ok (.iaload, 1) := by decide +kernel
theorem dX12_breaks_101 : decode cX12_breaks 101 = .ok (.aload_n 0, 1) := by decide +kernel
theorem dX12_breaks_102 : decode cX12_breaks 102 = .ok (.getfield 74, 3) := by decide +kernel
theorem dX12_breaks_105 : decode cX12_breaks 105 = .ok (.iload_n 1, 1) := by decide +kernel
theorem dX12_breaks_106 : decode cX12_breaks 106 = .ok (.iaload, 1) := by decide +kernel
theorem dX12_breaks_107 : decode cX12_breaks 107 = .ok (.aload_n 0, 1) := by decide +kernel
theorem dX12_breaks_108 : decode cX12_breaks 108 = .ok (.getfield 77, 3) := by decide +kernel
theorem dX12_breaks_111 : decode cX12_breaks 111 = .ok (.iload_n 1, 1) := by decide +kernel
theorem dX12_breaks_112 : decode cX12_breaks 112 = .ok (.iaload, 1) := by decide +kernel
theorem dX12_breaks_113 : decode cX12_breaks 113 = .ok (.invokevirtual 187, 3) := by decide +kernel
theorem dX12_breaks_116 : decode cX12_breaks 116 = .ok (.ifCond .le 7, 3) := by decide +kernel
theorem dX12_breaks_119 : decode cX12_breaks 119 = .ok (.iconst 1, 1) := by decide +kernel
theorem dX12_breaks_120 : decode cX12_breaks 120 = .ok (.goto 4, 3) := by decide +kernel
theorem dX12_breaks_123 : decode cX12_breaks 123 = .ok (.iconst 0, 1) := by decide +kernel
theorem dX12_breaks_124 : decode cX12_breaks 124 = .ok (.istore 7, 2) := by decide +kernel
theorem dX12_breaks_126 : decode cX12_breaks 126 = .ok (.iload 7, 2) := by decide +kernel
theorem dX12_breaks_128 : decode cX12_breaks 128 = .ok (.ifCond .eq 18, 3) := by decide +kernel
theorem dX12_breaks_131 : decode cX12_breaks 131 = .ok (.iload_n 2, 1) := by decide +kernel
theorem dX12_breaks_132 : decode cX12_breaks 132 = .ok (.ifCond .lt 9, 3) := by decide +kernel
theorem dX12_breaks_135 : decode cX12_breaks 135 = .ok (.iload 6, 2) := by decide +kernel
theorem dX12_breaks_137 : decode cX12_breaks 137 = .ok (.iload_n 2, 1) := by decide +kernel
theorem dX12_breaks_138 : decode cX12_breaks 138 = .ok (.if_icmp .ge 8, 3) := by decide +kernel
theorem dX12_breaks_141 : decode cX12_breaks 141 = .ok (.iload 6, 2) := by decide +kernel
theorem dX12_breaks_143 : decode cX12_breaks 143 = .ok (.goto 4, 3) := by decide +kernel
theorem dX12_breaks_146 : decode cX12_breaks 146 = .ok (.iload_n 2, 1) := by decide +kernel
theorem dX12_breaks_147 : decode cX12_breaks 147 = .ok (.istore_n 2, 1) := by decide +kernel
theorem dX12_breaks_148 : decode cX12_breaks 148 = .ok (.iinc 6 (-1), 3) := by decide +kernel
theorem dX12_breaks_151 : decode cX12_breaks 151 = .ok (.goto (-116), 3) := by decide +kernel
theorem dX12_breaks_154 : decode cX12_breaks 154 = .ok (.aload_n 0, 1) := by decide +kernel
theorem dX12_breaks_155 : decode cX12_breaks 155 = .ok (.getfield 74, 3) := by decide +kernel
theorem dX12_breaks_158 : decode cX12_breaks 158 = .ok (.iload 4, 2) := by decide +kernel
theorem dX12_breaks_160 : decode cX12_breaks 160 = .ok (.iaload, 1) := by decide +kernel
theorem dX12_breaks_161 : decode cX12_breaks 161 = .ok (.ifCond .ne 61, 3) := by decide +kernel
theorem dX12_breaks_164 : decode cX12_breaks 164 = .ok (.aload_n 0, 1) := by decide +kernel
theorem dX12_breaks_165 : decode cX12_breaks 165 = .ok (.getfield 74, 3) := by decide +kernel
theorem dX12_breaks_168 : decode cX12_breaks 168 = .ok (.iload_n 1, 1) := by decide +kernel
theorem dX12_breaks_169 : decode cX12_breaks 169 = .ok (.iaload, 1) := by decide +kernel
theorem dX12_breaks_170 : decode cX12_breaks 170 = .ok (.ifCond .ne 52, 3) := by decide +kernel
theorem dX12_breaks_173 : decode cX12_breaks 173 = .ok (.iinc 3 1, 3) := by decide +kernel
theorem dX12_breaks_176 : decode cX12_breaks 176 = .ok (.iload_n 3, 1) := by decide +kernel
theorem dX12_breaks_177 : decode cX12_breaks 177 = .ok (.iconst 4, 1) := by decide +kernel
theorem dX12_breaks_178 : decode cX12_breaks 178 = .ok (.if_icmp .ne 19, 3) := by decide +kernel
theorem dX12_breaks_181 : decode cX12_breaks 181 = .ok (.iload 5, 2) := by decide +kernel
theorem dX12_breaks_183 : decode cX12_breaks 183 = .ok (.aload_n 0, 1) := by decide +kernel
theorem dX12_breaks_184 : decode cX12_breaks 184 = .ok (.getfield 7, 3) := by decide +kernel
theorem dX12_breaks_187 : decode cX12_breaks 187 = .ok (.bipush 10, 2) := by decide +kernel
theorem dX12_breaks_189 : decode cX12_breaks 189 = .ok (.iaload, 1) := by decide +kernel
theorem dX12_breaks_190 : decode cX12_breaks 190 = .ok (.if_icmp .ge 7, 3) := by decide +kernel
theorem dX12_breaks_193 : decode cX12_breaks 193 = .ok (.iconst 1, 1) := by decide +kernel
theorem dX12_breaks_194 : decode cX12_breaks 194 = .ok (.goto 4, 3) := by decide +kernel
theorem dX12_breaks_197 : decode cX12_breaks 197 = .ok (.iconst 0, 1) := by decide +kernel
theorem dX12_breaks_198 : decode cX12_breaks 198 = .ok (.istore 6, 2) := by decide +kernel
theorem dX12_breaks_200 : decode cX12_breaks 200 = .ok (.iload 6, 2) := by decide +kernel
theorem dX12_breaks_202 : decode cX12_breaks 202 = .ok (.ifCond .eq 18, 3) := by decide +kernel
theorem dX12_breaks_205 : decode cX12_breaks 205 = .ok (.iload_n 2, 1) := by decide +kernel
theorem dX12_breaks_206 : decode cX12_breaks 206 = .ok (.ifCond .lt 9, 3) := by decide +kernel
theorem dX12_breaks_209 : decode cX12_breaks 209 = .ok (.iload_n 2, 1) := by decide +kernel
theorem dX12_breaks_210 : decode cX12_breaks 210 = .ok (.bipush 10, 2) := by decide +kernel
theorem dX12_breaks_212 : decode cX12_breaks 212 = .ok (.if_icmp .le 8, 3) := by decide +kernel
theorem dX12_breaks_215 : decode cX12_breaks 215 = .ok (.bipush 10, 2) := by decide +kernel
theorem dX12_breaks_217 : decode cX12_breaks 217 = .ok (.goto 4, 3) := by decide +kernel
theorem dX12_breaks_220 : decode cX12_breaks 220 = .ok (.iload_n 2, 1) := by decide +kernel
theorem dX12_breaks_221 : decode cX12_breaks 221 = .ok (.istore_n 2, 1) := by decide +kernel
theorem dX12_breaks_222 : decode cX12_breaks 222 = .ok (.iinc 4 (-1), 3) := by decide +kernel
theorem dX12_breaks_225 : decode cX12_breaks 225 = .ok (.goto (-215), 3) := by decide +kernel
theorem dX12_breaks_228 : decode cX12_breaks 228 = .ok (.iload_n 2, 1) := by decide +kernel
theorem dX12_breaks_229 : decode cX12_breaks 229 = .ok (.ireturn, 1) := by decide +kernel
theorem dX12_check_0 : decode cX12_check 0 = .ok (.aload_n 0, 1) := by decide +kernel
theorem dX12_check_1 : decode cX12_check 1 = .ok (.iconst 0, 1) := by decide +kernel
theorem dX12_check_2 : decode cX12_check 2 = .ok (.putfield 113, 3) := by decide +kernel
theorem dX12_check_5 : decode cX12_check 5 = .ok (.aload_n 0, 1) := by decide +kernel
theorem dX12_check_6 : decode cX12_check 6 = .ok (.bipush (-2), 2) := by decide +kernel
theorem dX12_check_8 : decode cX12_check 8 = .ok (.putfield 86, 3) := by decide +kernel
theorem dX12_check_11 : decode cX12_check 11 = .ok (.iconst 0, 1) := by decide +kernel
theorem dX12_check_12 : decode cX12_check 12 = .ok (.istore_n 1, 1) := by decide +kernel
theorem dX12_check_13 : decode cX12_check 13 = .ok (.iload_n 1, 1) := by decide +kernel
theorem dX12_check_14 : decode cX12_check 14 = .ok (.aload_n 0, 1) := by decide +kernel
theorem dX12_check_15 : decode cX12_check 15 = .ok (.getfield 241, 3) := by decide +kernel
theorem dX12_check_18 : decode cX12_check 18 = .ok (.if_icmp .ge 66, 3) := by decide +kernel
theorem dX12_check_21 : decode cX12_check 21 = .ok (.aload_n 0, 1) := by decide +kernel
theorem dX12_check_22 : decode cX12_check 22 = .ok (.iload_n 1, 1) := by decide +kernel
theorem dX12_check_23 : decode cX12_check 23 = .ok (.invokevirtual 288, 3) := by decide +kernel
theorem dX12_check_26 : decode cX12_check 26 = .ok (.istore_n 2, 1) := by decide +kernel
theorem dX12_check_27 : decode cX12_check 27 = .ok (.iload_n 1, 1) := by decide +kernel
theorem dX12_check_28 : decode cX12_check 28 = .ok (.ifCond .eq 20, 3) := by decide +kernel
theorem dX12_check_31 : decode cX12_check 31 = .ok (.aload_n 0, 1) := by decide +kernel
theorem dX12_check_32 : decode cX12_check 32 = .ok (.getfield 71, 3) := by decide +kernel
theorem dX12_check_35 : decode cX12_check 35 = .ok (.iload_n 1, 1) := by decide +kernel
theorem dX12_check_36 : decode cX12_check 36 = .ok (.iaload, 1) := by decide +kernel
theorem dX12_check_37 : decode cX12_check 37 = .ok (.aload_n 0, 1) := by decide +kernel
theorem dX12_check_38 : decode cX12_check 38 = .ok (.getfield 71, 3) := by decide +kernel
theorem dX12_check_41 : decode cX12_check 41 = .ok (.iload_n 1, 1) := by decide +kernel
theorem dX12_check_42 : decode cX12_check 42 = .ok (.iconst 1, 1) := by decide +kernel
theorem dX12_check_43 : decode cX12_check 43 = .ok (.isub, 1) := by decide +kernel
theorem dX12_check_44 : decode cX12_check 44 = .ok (.iaload, 1) := by decide +kernel
theorem dX12_check_45 : decode cX12_check 45 = .ok (.if_icmp .le 7, 3) := by decide +kernel
theorem dX12_check_48 : decode cX12_check 48 = .ok (.iconst 1, 1) := by decide +kernel
theorem dX12_check_49 : decode cX12_check 49 = .ok (.goto 4, 3) := by decide +kernel
theorem dX12_check_52 : decode cX12_check 52 = .ok (.iconst 0, 1) := by decide +kernel
theorem dX12_check_53 : decode cX12_check 53 = .ok (.istore_n 3, 1) := by decide +kernel
theorem dX12_check_54 : decode cX12_check 54 = .ok (.iload_n 2, 1) := by decide +kernel
theorem dX12_check_55 : decode cX12_check 55 = .ok (.ifCond .ge 7, 3) := by decide +kernel
theorem dX12_check_58 : decode cX12_check 58 = .ok (.iload_n 3, 1) := by decide +kernel
theorem dX12_check_59 : decode cX12_check 59 = .ok (.ifCond .ne 19, 3) := by decide +kernel
theorem dX12_check_62 : decode cX12_check 62 = .ok (.aload_n 0, 1) := by decide +kernel
theorem dX12_check_63 : decode cX12_check 63 = .ok (.iload_n 2, 1) := by decide +kernel
theorem dX12_check_64 : decode cX12_check 64 = .ok (.ifCond .lt 7, 3) := by decide +kernel
theorem dX12_check_67 : decode cX12_check 67 = .ok (.iload_n 2, 1) := by decide +kernel
theorem dX12_check_68 : decode cX12_check 68 = .ok (.goto 5, 3) := by decide +kernel
theorem dX12_check_71 : decode cX12_check 71 = .ok (.bipush 13, 2) := by decide +kernel
theorem dX12_check_73 : decode cX12_check 73 = .ok (.putfield 86, 3) := by decide +kernel
theorem dX12_check_76 : decode cX12_check 76 = .ok (.iload_n 1, 1) := by decide +kernel
theorem dX12_check_77 : decode cX12_check 77 = .ok (.ireturn, 1) := by decide +kernel
theorem dX12_check_78 : decode cX12_check 78 = .ok (.iinc 1 1, 3) := by decide +kernel
theorem dX12_check_81 : decode cX12_check 81 = .ok (.goto (-68), 3) := by decide +kernel
theorem dX12_check_84 : decode cX12_check 84 = .ok (.bipush (-2), 2) := by decide +kernel
theorem dX12_check_86 : decode cX12_check 86 = .ok (.ireturn, 1) := by decide +kernel
theorem dX12_broken_0 : decode cX12_broken 0 = .ok (.aload_n 0, 1) := by decide +kernel
theorem dX12_broken_1 : decode cX12_broken 1 = .ok (.iconst 0, 1) := by decide +kernel
theorem dX12_broken_2 : decode cX12_broken 2 = .ok (.putfield 113, 3) := by decide +kernel
theorem dX12_broken_5 : decode cX12_broken 5 = .ok (.aload_n 0, 1) := by decide +kernel
theorem dX12_broken_6 : decode cX12_broken 6 = .ok (.getfield 86, 3) := by decide +kernel
theorem dX12_broken_9 : decode cX12_broken 9 = .ok (.ireturn, 1) := by decide +kernel
theorem dX12_worst_0 : decode cX12_worst 0 = .ok (.aload_n 0, 1) := by decide +kernel
theorem dX12_worst_1 : decode cX12_worst 1 = .ok (.iconst 0, 1) := by decide +kernel
theorem dX12_worst_2 : decode cX12_worst 2 = .ok (.putfield 113, 3) := by decide +kernel
theorem dX12_worst_5 : decode cX12_worst 5 = .ok (.iload_n 1, 1) := by decide +kernel
theorem dX12_worst_6 : decode cX12_worst 6 = .ok (.i2l, 1) := by decide +kernel
theorem dX12_worst_7 : decode cX12_worst 7 = .ok (.lconst 0, 1) := by decide +kernel
theorem dX12_worst_8 : decode cX12_worst 8 = .ok (.ldc2_w 150, 3) := by decide +kernel
theorem dX12_worst_11 : decode cX12_worst 11 = .ok (.invokestatic 118, 3) := by decide +kernel
theorem dX12_worst_14 : decode cX12_worst 14 = .ok (.ifCond .ne 5, 3) := by decide +kernel
theorem dX12_worst_17 : decode cX12_worst 17 = .ok (.iconst (-1), 1) := by decide +kernel
theorem dX12_worst_18 : decode cX12_worst 18 = .ok (.ireturn, 1) := by decide +kernel
theorem dX12_worst_19 : decode cX12_worst 19 = .ok (.bipush (-2), 2) := by decide +kernel
theorem dX12_worst_21 : decode cX12_worst 21 = .ok (.istore_n 2, 1) := by decide +kernel
theorem dX12_worst_22 : decode cX12_worst 22 = .ok (.iconst 0, 1) := by decide +kernel
theorem dX12_worst_23 : decode cX12_worst 23 = .ok (.istore_n 3, 1) := by decide +kernel
theorem dX12_worst_24 : decode cX12_worst 24 = .ok (.iload_n 3, 1) := by decide +kernel
theorem dX12_worst_25 : decode cX12_worst 25 = .ok (.aload_n 0, 1) := by decide +kernel
theorem dX12_worst_26 : decode cX12_worst 26 = .ok (.getfield 141, 3) := by decide +kernel
theorem dX12_worst_29 : decode cX12_worst 29 = .ok (.if_icmp .ge 84, 3) := by decide +kernel
theorem dX12_worst_32 : decode cX12_worst 32 = .ok (.aload_n 0, 1) := by decide +kernel
theorem dX12_worst_33 : decode cX12_worst 33 = .ok (.getfield 32, 3) := by decide +kernel
theorem dX12_worst_36 : decode cX12_worst 36 = .ok (.iload_n 3, 1) := by decide +kernel
theorem dX12_worst_37 : decode cX12_worst 37 = .ok (.iaload, 1) := by decide +kernel
theorem dX12_worst_38 : decode cX12_worst 38 = .ok (.iload_n 1, 1) := by decide +kernel
theorem dX12_worst_39 : decode cX12_worst 39 = .ok (.if_icmp .ne 42, 3) := by decide +kernel
theorem dX12_worst_42 : decode cX12_worst 42 = .ok (.aload_n 0, 1) := by decide +kernel
theorem dX12_worst_43 : decode cX12_worst 43 = .ok (.getfield 29, 3) := by decide +kernel
theorem dX12_worst_46 : decode cX12_worst 46 = .ok (.iload_n 3, 1) := by decide +kernel
theorem dX12_worst_47 : decode cX12_worst 47 = .ok (.iaload, 1) := by decide +kernel
theorem dX12_worst_48 : decode cX12_worst 48 = .ok (.iconst 4, 1) := by decide +kernel
theorem dX12_worst_49 : decode cX12_worst 49 = .ok (.if_icmp .eq 32, 3) := by decide +kernel
theorem dX12_worst_52 : decode cX12_worst 52 = .ok (.aload_n 0, 1) := by decide +kernel
theorem dX12_worst_53 : decode cX12_worst 53 = .ok (.iload_n 3, 1) := by decide +kernel
theorem dX12_worst_54 : decode cX12_worst 54 = .ok (.invokevirtual 164, 3) := by decide +kernel
theorem dX12_worst_57 : decode cX12_worst 57 = .ok (.ifCond .ne 24, 3) := by decide +kernel
theorem dX12_worst_60 : decode cX12_worst 60 = .ok (.aload_n 0, 1) := by decide +kernel
theorem dX12_worst_61 : decode cX12_worst 61 = .ok (.getfield 47, 3) := by decide +kernel
theorem dX12_worst_64 : decode cX12_worst 64 = .ok (.iload_n 3, 1) := by decide +kernel
theorem dX12_worst_65 : decode cX12_worst 65 = .ok (.iaload, 1) := by decide +kernel
theorem dX12_worst_66 : decode cX12_worst 66 = .ok (.aload_n 0, 1) := by decide +kernel
theorem dX12_worst_67 : decode cX12_worst 67 = .ok (.getfield 44, 3) := by decide +kernel
theorem dX12_worst_70 : decode cX12_worst 70 = .ok (.iload_n 3, 1) := by decide +kernel
theorem dX12_worst_71 : decode cX12_worst 71 = .ok (.iaload, 1) := by decide +kernel
theorem dX12_worst_72 : decode cX12_worst 72 = .ok (.isub, 1) := by decide +kernel
theorem dX12_worst_73 : decode cX12_worst 73 = .ok (.iload_n 2, 1) := by decide +kernel
theorem dX12_worst_74 : decode cX12_worst 74 = .ok (.if_icmp .le 7, 3) := by decide +kernel
theorem dX12_worst_77 : decode cX12_worst 77 = .ok (.iconst 1, 1) := by decide +kernel
theorem dX12_worst_78 : decode cX12_worst 78 = .ok (.goto 4, 3) := by decide +kernel
theorem dX12_worst_81 : decode cX12_worst 81 = .ok (.iconst 0, 1) := by decide +kernel
theorem dX12_worst_82 : decode cX12_worst 82 = .ok (.istore 4, 2) := by decide +kernel
theorem dX12_worst_84 : decode cX12_worst 84 = .ok (.iload 4, 2) := by decide +kernel
theorem dX12_worst_86 : decode cX12_worst 86 = .ok (.ifCond .eq 19, 3) := by decide +kernel
theorem dX12_worst_89 : decode cX12_worst 89 = .ok (.aload_n 0, 1) := by decide +kernel
theorem dX12_worst_90 : decode cX12_worst 90 = .ok (.getfield 47, 3) := by decide +kernel
theorem dX12_worst_93 : decode cX12_worst 93 = .ok (.iload_n 3, 1) := by decide +kernel
theorem dX12_worst_94 : decode cX12_worst 94 = .ok (.iaload, 1) := by decide +kernel
theorem dX12_worst_95 : decode cX12_worst 95 = .ok (.aload_n 0, 1) := by decide +kernel
theorem dX12_worst_96 : decode cX12_worst 96 = .ok (.getfield 44, 3) := by decide +kernel
theorem dX12_worst_99 : decode cX12_worst 99 = .ok (.iload_n 3, 1) := by decide +kernel
theorem dX12_worst_100 : decode cX12_worst 100 = .ok (.iaload, 1) := by decide +kernel
theorem dX12_worst_101 : decode cX12_worst 101 = .ok (.isub, 1) := by decide +kernel
theorem dX12_worst_102 : decode cX12_worst 102 = .ok (.goto 4, 3) := by decide +kernel
theorem dX12_worst_105 : decode cX12_worst 105 = .ok (.iload_n 2, 1) := by decide +kernel
theorem dX12_worst_106 : decode cX12_worst 106 = .ok (.istore_n 2, 1) := by decide +kernel
theorem dX12_worst_107 : decode cX12_worst 107 = .ok (.iinc 3 1, 3) := by decide +kernel
theorem dX12_worst_110 : decode cX12_worst 110 = .ok (.goto (-86), 3) := by decide +kernel
theorem dX12_worst_113 : decode cX12_worst 113 = .ok (.iload_n 2, 1) := by decide +kernel
theorem dX12_worst_114 : decode cX12_worst 114 = .ok (.ireturn, 1) := by decide +kernel
theorem dX12_beside_0 : decode cX12_beside 0 = .ok (.aload_n 0, 1) := by decide +kernel
theorem dX12_beside_1 : decode cX12_beside 1 = .ok (.iconst 0, 1) := by decide +kernel
theorem dX12_beside_2 : decode cX12_beside 2 = .ok (.putfield 113, 3) := by decide +kernel
theorem dX12_beside_5 : decode cX12_beside 5 = .ok (.iconst 1, 1) := by decide +kernel
theorem dX12_beside_6 : decode cX12_beside 6 = .ok (.istore_n 1, 1) := by decide +kernel
theorem dX12_beside_7 : decode cX12_beside 7 = .ok (.iconst 0, 1) := by decide +kernel
theorem dX12_beside_8 : decode cX12_beside 8 = .ok (.istore_n 2, 1) := by decide +kernel
theorem dX12_beside_9 : decode cX12_beside 9 = .ok (.iload_n 2, 1) := by decide +kernel
theorem dX12_beside_10 : decode cX12_beside 10 = .ok (.sipush 1024, 3) := by decide +kernel
theorem dX12_beside_13 : decode cX12_beside 13 = .ok (.if_icmp .ge 16, 3) := by decide +kernel
theorem dX12_beside_16 : decode cX12_beside 16 = .ok (.aload_n 0, 1) := by decide +kernel
theorem dX12_beside_17 : decode cX12_beside 17 = .ok (.getfield 95, 3) := by decide +kernel
theorem dX12_beside_20 : decode cX12_beside 20 = .ok (.iload_n 2, 1) := by decide +kernel
theorem dX12_beside_21 : decode cX12_beside 21 = .ok (.iconst 0, 1) := by decide +kernel
theorem dX12_beside_22 : decode cX12_beside 22 = .ok (.iastore, 1) := by decide +kernel
theorem dX12_beside_23 : decode cX12_beside 23 = .ok (.iinc 2 1, 3) := by decide +kernel
theorem dX12_beside_26 : decode cX12_beside 26 = .ok (.goto (-17), 3) := by decide +kernel
theorem dX12_beside_29 : decode cX12_beside 29 = .ok (.iconst 0, 1) := by decide +kernel
theorem dX12_beside_30 : decode cX12_beside 30 = .ok (.istore_n 2, 1) := by decide +kernel
theorem dX12_beside_31 : decode cX12_beside 31 = .ok (.iload_n 2, 1) := by decide +kernel
theorem dX12_beside_32 : decode cX12_beside 32 = .ok (.aload_n 0, 1) := by decide +kernel
theorem dX12_beside_33 : decode cX12_beside 33 = .ok (.getfield 141, 3) := by decide +kernel
theorem dX12_beside_36 : decode cX12_beside 36 = .ok (.if_icmp .ge 121, 3) := by decide +kernel
theorem dX12_beside_39 : decode cX12_beside 39 = .ok (.aload_n 0, 1) := by decide +kernel
theorem dX12_beside_40 : decode cX12_beside 40 = .ok (.iload_n 2, 1) := by decide +kernel
theorem dX12_beside_41 : decode cX12_beside 41 = .ok (.invokevirtual 164, 3) := by decide +kernel
theorem dX12_beside_44 : decode cX12_beside 44 = .ok (.ifCond .ne 107, 3) := by decide +kernel
theorem dX12_beside_47 : decode cX12_beside 47 = .ok (.aload_n 0, 1) := by decide +kernel
theorem dX12_beside_48 : decode cX12_beside 48 = .ok (.getfield 29, 3) := by decide +kernel
theorem dX12_beside_51 : decode cX12_beside 51 = .ok (.iload_n 2, 1) := by decide +kernel
theorem dX12_beside_52 : decode cX12_beside 52 = .ok (.iaload, 1) := by decide +kernel
theorem dX12_beside_53 : decode cX12_beside 53 = .ok (.iconst 4, 1) := by decide +kernel
theorem dX12_beside_54 : decode cX12_beside 54 = .ok (.if_icmp .ne 6, 3) := by decide +kernel
theorem dX12_beside_57 : decode cX12_beside 57 = .ok (.goto 94, 3) := by decide +kernel
theorem dX12_beside_60 : decode cX12_beside 60 = .ok (.aload_n 0, 1) := by decide +kernel
theorem dX12_beside_61 : decode cX12_beside 61 = .ok (.getfield 95, 3) := by decide +kernel
theorem dX12_beside_64 : decode cX12_beside 64 = .ok (.aload_n 0, 1) := by decide +kernel
theorem dX12_beside_65 : decode cX12_beside 65 = .ok (.getfield 35, 3) := by decide +kernel
theorem dX12_beside_68 : decode cX12_beside 68 = .ok (.iload_n 2, 1) := by decide +kernel
theorem dX12_beside_69 : decode cX12_beside 69 = .ok (.iaload, 1) := by decide +kernel
theorem dX12_beside_70 : decode cX12_beside 70 = .ok (.iaload, 1) := by decide +kernel
theorem dX12_beside_71 : decode cX12_beside 71 = .ok (.istore_n 3, 1) := by decide +kernel
theorem dX12_beside_72 : decode cX12_beside 72 = .ok (.iload_n 1, 1) := by decide +kernel
theorem dX12_beside_73 : decode cX12_beside 73 = .ok (.ifCond .eq 28, 3) := by decide +kernel
theorem dX12_beside_76 : decode cX12_beside 76 = .ok (.aload_n 0, 1) := by decide +kernel
theorem dX12_beside_77 : decode cX12_beside 77 = .ok (.getfield 50, 3) := by decide +kernel
theorem dX12_beside_80 : decode cX12_beside 80 = .ok (.iload_n 2, 1) := by decide +kernel
theorem dX12_beside_81 : decode cX12_beside 81 = .ok (.iaload, 1) := by decide +kernel
theorem dX12_beside_82 : decode cX12_beside 82 = .ok (.bipush (-2), 2) := by decide +kernel
theorem dX12_beside_84 : decode cX12_beside 84 = .ok (.if_icmp .eq 13, 3) := by decide +kernel
theorem dX12_beside_87 : decode cX12_beside 87 = .ok (.aload_n 0, 1) := by decide +kernel
theorem dX12_beside_88 : decode cX12_beside 88 = .ok (.getfield 50, 3) := by decide +kernel
theorem dX12_beside_91 : decode cX12_beside 91 = .ok (.iload_n 2, 1) := by decide +kernel
theorem dX12_beside_92 : decode cX12_beside 92 = .ok (.iaload, 1) := by decide +kernel
theorem dX12_beside_93 : decode cX12_beside 93 = .ok (.iload_n 3, 1) := by decide +kernel
theorem dX12_beside_94 : decode cX12_beside 94 = .ok (.if_icmp .ne 7, 3) := by decide +kernel
theorem dX12_beside_97 : decode cX12_beside 97 = .ok (.iconst 1, 1) := by decide +kernel
theorem dX12_beside_98 : decode cX12_beside 98 = .ok (.goto 4, 3) := by decide +kernel
theorem dX12_beside_101 : decode cX12_beside 101 = .ok (.iconst 0, 1) := by decide +kernel
theorem dX12_beside_102 : decode cX12_beside 102 = .ok (.istore_n 1, 1) := by decide +kernel
theorem dX12_beside_103 : decode cX12_beside 103 = .ok (.aload_n 0, 1) := by decide +kernel
theorem dX12_beside_104 : decode cX12_beside 104 = .ok (.getfield 95, 3) := by decide +kernel
theorem dX12_beside_107 : decode cX12_beside 107 = .ok (.aload_n 0, 1) := by decide +kernel
theorem dX12_beside_108 : decode cX12_beside 108 = .ok (.getfield 35, 3) := by decide +kernel
theorem dX12_beside_111 : decode cX12_beside 111 = .ok (.iload_n 2, 1) := by decide +kernel
theorem dX12_beside_112 : decode cX12_beside 112 = .ok (.iaload, 1) := by decide +kernel
theorem dX12_beside_113 : decode cX12_beside 113 = .ok (.aload_n 0, 1) := by decide +kernel
theorem dX12_beside_114 : decode cX12_beside 114 = .ok (.getfield 29, 3) := by decide +kernel
theorem dX12_beside_117 : decode cX12_beside 117 = .ok (.iload_n 2, 1) := by decide +kernel
theorem dX12_beside_118 : decode cX12_beside 118 = .ok (.iaload, 1) := by decide +kernel
theorem dX12_beside_119 : decode cX12_beside 119 = .ok (.ifCond .ne 7, 3) := by decide +kernel
theorem dX12_beside_122 : decode cX12_beside 122 = .ok (.iload_n 3, 1) := by decide +kernel
theorem dX12_beside_123 : decode cX12_beside 123 = .ok (.goto 27, 3) := by decide +kernel
theorem dX12_beside_126 : decode cX12_beside 126 = .ok (.iload_n 3, 1) := by decide +kernel
theorem dX12_beside_127 : decode cX12_beside 127 = .ok (.aload_n 0, 1) := by decide +kernel
theorem dX12_beside_128 : decode cX12_beside 128 = .ok (.getfield 41, 3) := by decide +kernel
theorem dX12_beside_131 : decode cX12_beside 131 = .ok (.iload_n 2, 1) := by decide +kernel
theorem dX12_beside_132 : decode cX12_beside 132 = .ok (.iaload, 1) := by decide +kernel
theorem dX12_beside_133 : decode cX12_beside 133 = .ok (.iconst (-1), 1) := by decide +kernel
theorem dX12_beside_134 : decode cX12_beside 134 = .ok (.ixor, 1) := by decide +kernel
theorem dX12_beside_135 : decode cX12_beside 135 = .ok (.iand, 1) := by decide +kernel
theorem dX12_beside_136 : decode cX12_beside 136 = .ok (.aload_n 0, 1) := by decide +kernel
theorem dX12_beside_137 : decode cX12_beside 137 = .ok (.getfield 38, 3) := by decide +kernel
theorem dX12_beside_140 : decode cX12_beside 140 = .ok (.iload_n 2, 1) := by decide +kernel
theorem dX12_beside_141 : decode cX12_beside 141 = .ok (.iaload, 1) := by decide +kernel
theorem dX12_beside_142 : decode cX12_beside 142 = .ok (.aload_n 0, 1) := by decide +kernel
theorem dX12_beside_143 : decode cX12_beside 143 = .ok (.getfield 41, 3) := by decide +kernel
theorem dX12_beside_146 : decode cX12_beside 146 = .ok (.iload_n 2, 1) := by decide +kernel
theorem dX12_beside_147 : decode cX12_beside 147 = .ok (.iaload, 1) := by decide +kernel
theorem dX12_beside_148 : decode cX12_beside 148 = .ok (.iand, 1) := by decide +kernel
theorem dX12_beside_149 : decode cX12_beside 149 = .ok (.ior, 1) := by decide +kernel
theorem dX12_beside_150 : decode cX12_beside 150 = .ok (.iastore, 1) := by decide +kernel
theorem dX12_beside_151 : decode cX12_beside 151 = .ok (.iinc 2 1, 3) := by decide +kernel
theorem dX12_beside_154 : decode cX12_beside 154 = .ok (.goto (-123), 3) := by decide +kernel
theorem dX12_beside_157 : decode cX12_beside 157 = .ok (.iconst 0, 1) := by decide +kernel
theorem dX12_beside_158 : decode cX12_beside 158 = .ok (.istore_n 2, 1) := by decide +kernel
theorem dX12_beside_159 : decode cX12_beside 159 = .ok (.iload_n 2, 1) := by decide +kernel
theorem dX12_beside_160 : decode cX12_beside 160 = .ok (.aload_n 0, 1) := by decide +kernel
theorem dX12_beside_161 : decode cX12_beside 161 = .ok (.getfield 141, 3) := by decide +kernel
theorem dX12_beside_164 : decode cX12_beside 164 = .ok (.if_icmp .ge 54, 3) := by decide +kernel
theorem dX12_beside_167 : decode cX12_beside 167 = .ok (.iload_n 1, 1) := by decide +kernel
theorem dX12_beside_168 : decode cX12_beside 168 = .ok (.ifCond .eq 42, 3) := by decide +kernel
theorem dX12_beside_171 : decode cX12_beside 171 = .ok (.aload_n 0, 1) := by decide +kernel
theorem dX12_beside_172 : decode cX12_beside 172 = .ok (.getfield 29, 3) := by decide +kernel
theorem dX12_beside_175 : decode cX12_beside 175 = .ok (.iload_n 2, 1) := by decide +kernel
theorem dX12_beside_176 : decode cX12_beside 176 = .ok (.iaload, 1) := by decide +kernel
theorem dX12_beside_177 : decode cX12_beside 177 = .ok (.iconst 4, 1) := by decide +kernel
theorem dX12_beside_178 : decode cX12_beside 178 = .ok (.if_icmp .eq 28, 3) := by decide +kernel
theorem dX12_beside_181 : decode cX12_beside 181 = .ok (.aload_n 0, 1) := by decide +kernel
theorem dX12_beside_182 : decode cX12_beside 182 = .ok (.getfield 95, 3) := by decide +kernel
theorem dX12_beside_185 : decode cX12_beside 185 = .ok (.aload_n 0, 1) := by decide +kernel
theorem dX12_beside_186 : decode cX12_beside 186 = .ok (.getfield 35, 3) := by decide +kernel
theorem dX12_beside_189 : decode cX12_beside 189 = .ok (.iload_n 2, 1) := by decide +kernel
theorem dX12_beside_190 : decode cX12_beside 190 = .ok (.iaload, 1) := by decide +kernel
theorem dX12_beside_191 : decode cX12_beside 191 = .ok (.iaload, 1) := by decide +kernel
theorem dX12_beside_192 : decode cX12_beside 192 = .ok (.aload_n 0, 1) := by decide +kernel
theorem dX12_beside_193 : decode cX12_beside 193 = .ok (.getfield 26, 3) := by decide +kernel
theorem dX12_beside_196 : decode cX12_beside 196 = .ok (.aload_n 0, 1) := by decide +kernel
theorem dX12_beside_197 : decode cX12_beside 197 = .ok (.getfield 35, 3) := by decide +kernel
theorem dX12_beside_200 : decode cX12_beside 200 = .ok (.iload_n 2, 1) := by decide +kernel
theorem dX12_beside_201 : decode cX12_beside 201 = .ok (.iaload, 1) := by decide +kernel
theorem dX12_beside_202 : decode cX12_beside 202 = .ok (.iaload, 1) := by decide +kernel
theorem dX12_beside_203 : decode cX12_beside 203 = .ok (.if_icmp .ne 7, 3) := by decide +kernel
theorem dX12_beside_206 : decode cX12_beside 206 = .ok (.iconst 1, 1) := by decide +kernel
theorem dX12_beside_207 : decode cX12_beside 207 = .ok (.goto 4, 3) := by decide +kernel
theorem dX12_beside_210 : decode cX12_beside 210 = .ok (.iconst 0, 1) := by decide +kernel
theorem dX12_beside_211 : decode cX12_beside 211 = .ok (.istore_n 1, 1) := by decide +kernel
theorem dX12_beside_212 : decode cX12_beside 212 = .ok (.iinc 2 1, 3) := by decide +kernel
theorem dX12_beside_215 : decode cX12_beside 215 = .ok (.goto (-56), 3) := by decide +kernel
theorem dX12_beside_218 : decode cX12_beside 218 = .ok (.iload_n 1, 1) := by decide +kernel
theorem dX12_beside_219 : decode cX12_beside 219 = .ok (.ifCond .eq 7, 3) := by decide +kernel
theorem dX12_beside_222 : decode cX12_beside 222 = .ok (.iconst 1, 1) := by decide +kernel
theorem dX12_beside_223 : decode cX12_beside 223 = .ok (.goto 4, 3) := by decide +kernel
theorem dX12_beside_226 : decode cX12_beside 226 = .ok (.iconst 0, 1) := by decide +kernel
theorem dX12_beside_227 : decode cX12_beside 227 = .ok (.ireturn, 1) := by decide +kernel
theorem dX12_count_0 : decode cX12_count 0 = .ok (.aload_n 0, 1) := by decide +kernel
theorem dX12_count_1 : decode cX12_count 1 = .ok (.iconst 0, 1) := by decide +kernel
theorem dX12_count_2 : decode cX12_count 2 = .ok (.putfield 113, 3) := by decide +kernel
theorem dX12_count_5 : decode cX12_count 5 = .ok (.iload_n 1, 1) := by decide +kernel
theorem dX12_count_6 : decode cX12_count 6 = .ok (.tableswitch 86 0 7 #[46, 51, 56, 61, 66, 71, 76, 81], 46) := by decide +kernel
theorem dX12_count_52 : decode cX12_count 52 = .ok (.aload_n 0, 1) := by decide +kernel
theorem dX12_count_53 : decode cX12_count 53 = .ok (.getfield 20, 3) := by decide +kernel
theorem dX12_count_56 : decode cX12_count 56 = .ok (.ireturn, 1) := by decide +kernel
theorem dX12_count_57 : decode cX12_count 57 = .ok (.aload_n 0, 1) := by decide +kernel
theorem dX12_count_58 : decode cX12_count 58 = .ok (.getfield 141, 3) := by decide +kernel
theorem dX12_count_61 : decode cX12_count 61 = .ok (.ireturn, 1) := by decide +kernel
theorem dX12_count_62 : decode cX12_count 62 = .ok (.aload_n 0, 1) := by decide +kernel
theorem dX12_count_63 : decode cX12_count 63 = .ok (.getfield 138, 3) := by decide +kernel
theorem dX12_count_66 : decode cX12_count 66 = .ok (.ireturn, 1) := by decide +kernel
theorem dX12_count_67 : decode cX12_count 67 = .ok (.aload_n 0, 1) := by decide +kernel
theorem dX12_count_68 : decode cX12_count 68 = .ok (.getfield 218, 3) := by decide +kernel
theorem dX12_count_71 : decode cX12_count 71 = .ok (.ireturn, 1) := by decide +kernel
theorem dX12_count_72 : decode cX12_count 72 = .ok (.aload_n 0, 1) := by decide +kernel
theorem dX12_count_73 : decode cX12_count 73 = .ok (.getfield 250, 3) := by decide +kernel
theorem dX12_count_76 : decode cX12_count 76 = .ok (.ireturn, 1) := by decide +kernel
theorem dX12_count_77 : decode cX12_count 77 = .ok (.aload_n 0, 1) := by decide +kernel
theorem dX12_count_78 : decode cX12_count 78 = .ok (.getfield 244, 3) := by decide +kernel
theorem dX12_count_81 : decode cX12_count 81 = .ok (.ireturn, 1) := by decide +kernel
theorem dX12_count_82 : decode cX12_count 82 = .ok (.aload_n 0, 1) := by decide +kernel
theorem dX12_count_83 : decode cX12_count 83 = .ok (.getfield 241, 3) := by decide +kernel
theorem dX12_count_86 : decode cX12_count 86 = .ok (.ireturn, 1) := by decide +kernel
theorem dX12_count_87 : decode cX12_count 87 = .ok (.aload_n 0, 1) := by decide +kernel
theorem dX12_count_88 : decode cX12_count 88 = .ok (.getfield 253, 3) := by decide +kernel
theorem dX12_count_91 : decode cX12_count 91 = .ok (.ireturn, 1) := by decide +kernel
theorem dX12_count_92 : decode cX12_count 92 = .ok (.iload_n 1, 1) := by decide +kernel
theorem dX12_count_93 : decode cX12_count 93 = .ok (.i2l, 1) := by decide +kernel
theorem dX12_count_94 : decode cX12_count 94 = .ok (.ldc2_w 128, 3) := by decide +kernel
theorem dX12_count_97 : decode cX12_count 97 = .ok (.ldc2_w 291, 3) := by decide +kernel
theorem dX12_count_100 : decode cX12_count 100 = .ok (.invokestatic 118, 3) := by decide +kernel
theorem dX12_count_103 : decode cX12_count 103 = .ok (.ifCond .eq 15, 3) := by decide +kernel
theorem dX12_count_106 : decode cX12_count 106 = .ok (.aload_n 0, 1) := by decide +kernel
theorem dX12_count_107 : decode cX12_count 107 = .ok (.getfield 53, 3) := by decide +kernel
theorem dX12_count_110 : decode cX12_count 110 = .ok (.iload_n 1, 1) := by decide +kernel
theorem dX12_count_111 : decode cX12_count 111 = .ok (.bipush 8, 2) := by decide +kernel
theorem dX12_count_113 : decode cX12_count 113 = .ok (.isub, 1) := by decide +kernel
theorem dX12_count_114 : decode cX12_count 114 = .ok (.iaload, 1) := by decide +kernel
theorem dX12_count_115 : decode cX12_count 115 = .ok (.goto 4, 3) := by decide +kernel
theorem dX12_count_118 : decode cX12_count 118 = .ok (.iconst (-1), 1) := by decide +kernel
theorem dX12_count_119 : decode cX12_count 119 = .ok (.ireturn, 1) := by decide +kernel
theorem dX12_isShelf_0 : decode cX12_isShelf 0 = .ok (.iload_n 0, 1) := by decide +kernel
theorem dX12_isShelf_1 : decode cX12_isShelf 1 = .ok (.ifCond .lt 13, 3) := by decide +kernel
theorem dX12_isShelf_4 : decode cX12_isShelf 4 = .ok (.iload_n 0, 1) := by decide +kernel
theorem dX12_isShelf_5 : decode cX12_isShelf 5 = .ok (.bipush 8, 2) := by decide +kernel
theorem dX12_isShelf_7 : decode cX12_isShelf 7 = .ok (.if_icmp .ge 7, 3) := by decide +kernel
theorem dX12_isShelf_10 : decode cX12_isShelf 10 = .ok (.iconst 1, 1) := by decide +kernel
theorem dX12_isShelf_11 : decode cX12_isShelf 11 = .ok (.goto 4, 3) := by decide +kernel
theorem dX12_isShelf_14 : decode cX12_isShelf 14 = .ok (.iconst 0, 1) := by decide +kernel
theorem dX12_isShelf_15 : decode cX12_isShelf 15 = .ok (.ireturn, 1) := by decide +kernel
theorem dX12_addressOf_0 : decode cX12_addressOf 0 = .ok (.bipush 64, 2) := by decide +kernel
theorem dX12_addressOf_2 : decode cX12_addressOf 2 = .ok (.iload_n 2, 1) := by decide +kernel
theorem dX12_addressOf_3 : decode cX12_addressOf 3 = .ok (.imul, 1) := by decide +kernel
theorem dX12_addressOf_4 : decode cX12_addressOf 4 = .ok (.bipush 16, 2) := by decide +kernel
theorem dX12_addressOf_6 : decode cX12_addressOf 6 = .ok (.iload_n 1, 1) := by decide +kernel
theorem dX12_addressOf_7 : decode cX12_addressOf 7 = .ok (.iload_n 2, 1) := by decide +kernel
theorem dX12_addressOf_8 : decode cX12_addressOf 8 = .ok (.iconst 4, 1) := by decide +kernel
theorem dX12_addressOf_9 : decode cX12_addressOf 9 = .ok (.irem, 1) := by decide +kernel
theorem dX12_addressOf_10 : decode cX12_addressOf 10 = .ok (.ixor, 1) := by decide +kernel
theorem dX12_addressOf_11 : decode cX12_addressOf 11 = .ok (.imul, 1) := by decide +kernel
theorem dX12_addressOf_12 : decode cX12_addressOf 12 = .ok (.iadd, 1) := by decide +kernel
theorem dX12_addressOf_13 : decode cX12_addressOf 13 = .ok (.iload_n 3, 1) := by decide +kernel
theorem dX12_addressOf_14 : decode cX12_addressOf 14 = .ok (.iadd, 1) := by decide +kernel
theorem dX12_addressOf_15 : decode cX12_addressOf 15 = .ok (.ireturn, 1) := by decide +kernel
theorem dX12_keep_0 : decode cX12_keep 0 = .ok (.aload_n 0, 1) := by decide +kernel
theorem dX12_keep_1 : decode cX12_keep 1 = .ok (.iconst 0, 1) := by decide +kernel
theorem dX12_keep_2 : decode cX12_keep 2 = .ok (.putfield 113, 3) := by decide +kernel
theorem dX12_keep_5 : decode cX12_keep 5 = .ok (.iload_n 1, 1) := by decide +kernel
theorem dX12_keep_6 : decode cX12_keep 6 = .ok (.invokestatic 293, 3) := by decide +kernel
theorem dX12_keep_9 : decode cX12_keep 9 = .ok (.ifCond .eq 46, 3) := by decide +kernel
theorem dX12_keep_12 : decode cX12_keep 12 = .ok (.iload_n 2, 1) := by decide +kernel
theorem dX12_keep_13 : decode cX12_keep 13 = .ok (.ifCond .eq 38, 3) := by decide +kernel
theorem dX12_keep_16 : decode cX12_keep 16 = .ok (.iload_n 2, 1) := by decide +kernel
theorem dX12_keep_17 : decode cX12_keep 17 = .ok (.iconst 1, 1) := by decide +kernel
theorem dX12_keep_18 : decode cX12_keep 18 = .ok (.if_icmp .ne 11, 3) := by decide +kernel
theorem dX12_keep_21 : decode cX12_keep 21 = .ok (.aload_n 0, 1) := by decide +kernel
theorem dX12_keep_22 : decode cX12_keep 22 = .ok (.iload_n 3, 1) := by decide +kernel
theorem dX12_keep_23 : decode cX12_keep 23 = .ok (.invokevirtual 276, 3) := by decide +kernel
theorem dX12_keep_26 : decode cX12_keep 26 = .ok (.ifCond .ne 25, 3) := by decide +kernel
theorem dX12_keep_29 : decode cX12_keep 29 = .ok (.iload_n 2, 1) := by decide +kernel
theorem dX12_keep_30 : decode cX12_keep 30 = .ok (.iconst 3, 1) := by decide +kernel
theorem dX12_keep_31 : decode cX12_keep 31 = .ok (.if_icmp .ne 15, 3) := by decide +kernel
theorem dX12_keep_34 : decode cX12_keep 34 = .ok (.iload_n 3, 1) := by decide +kernel
theorem dX12_keep_35 : decode cX12_keep 35 = .ok (.i2l, 1) := by decide +kernel
theorem dX12_keep_36 : decode cX12_keep 36 = .ok (.lconst 0, 1) := by decide +kernel
theorem dX12_keep_37 : decode cX12_keep 37 = .ok (.ldc2_w 296, 3) := by decide +kernel
theorem dX12_keep_40 : decode cX12_keep 40 = .ok (.invokestatic 118, 3) := by decide +kernel
theorem dX12_keep_43 : decode cX12_keep 43 = .ok (.ifCond .ne 8, 3) := by decide +kernel
theorem dX12_keep_46 : decode cX12_keep 46 = .ok (.iload_n 2, 1) := by decide +kernel
theorem dX12_keep_47 : decode cX12_keep 47 = .ok (.iconst 4, 1) := by decide +kernel
theorem dX12_keep_48 : decode cX12_keep 48 = .ok (.if_icmp .ne 7, 3) := by decide +kernel
theorem dX12_keep_51 : decode cX12_keep 51 = .ok (.iconst 1, 1) := by decide +kernel
theorem dX12_keep_52 : decode cX12_keep 52 = .ok (.goto 4, 3) := by decide +kernel
theorem dX12_keep_55 : decode cX12_keep 55 = .ok (.iconst 0, 1) := by decide +kernel
theorem dX12_keep_56 : decode cX12_keep 56 = .ok (.istore 4, 2) := by decide +kernel
theorem dX12_keep_58 : decode cX12_keep 58 = .ok (.iload 4, 2) := by decide +kernel
theorem dX12_keep_60 : decode cX12_keep 60 = .ok (.ifCond .ne 5, 3) := by decide +kernel
theorem dX12_keep_63 : decode cX12_keep 63 = .ok (.iconst (-1), 1) := by decide +kernel
theorem dX12_keep_64 : decode cX12_keep 64 = .ok (.ireturn, 1) := by decide +kernel
theorem dX12_keep_65 : decode cX12_keep 65 = .ok (.aload_n 0, 1) := by decide +kernel
theorem dX12_keep_66 : decode cX12_keep 66 = .ok (.getfield 98, 3) := by decide +kernel
theorem dX12_keep_69 : decode cX12_keep 69 = .ok (.iload_n 1, 1) := by decide +kernel
theorem dX12_keep_70 : decode cX12_keep 70 = .ok (.iload_n 2, 1) := by decide +kernel
theorem dX12_keep_71 : decode cX12_keep 71 = .ok (.iastore, 1) := by decide +kernel
theorem dX12_keep_72 : decode cX12_keep 72 = .ok (.aload_n 0, 1) := by decide +kernel
theorem dX12_keep_73 : decode cX12_keep 73 = .ok (.getfield 104, 3) := by decide +kernel
theorem dX12_keep_76 : decode cX12_keep 76 = .ok (.iload_n 1, 1) := by decide +kernel
theorem dX12_keep_77 : decode cX12_keep 77 = .ok (.iload_n 3, 1) := by decide +kernel
theorem dX12_keep_78 : decode cX12_keep 78 = .ok (.iastore, 1) := by decide +kernel
theorem dX12_keep_79 : decode cX12_keep 79 = .ok (.aload_n 0, 1) := by decide +kernel
theorem dX12_keep_80 : decode cX12_keep 80 = .ok (.getfield 101, 3) := by decide +kernel
theorem dX12_keep_83 : decode cX12_keep 83 = .ok (.iload_n 1, 1) := by decide +kernel
theorem dX12_keep_84 : decode cX12_keep 84 = .ok (.iload_n 2, 1) := by decide +kernel
theorem dX12_keep_85 : decode cX12_keep 85 = .ok (.iconst 3, 1) := by decide +kernel
theorem dX12_keep_86 : decode cX12_keep 86 = .ok (.if_icmp .ne 8, 3) := by decide +kernel
theorem dX12_keep_89 : decode cX12_keep 89 = .ok (.bipush 16, 2) := by decide +kernel
theorem dX12_keep_91 : decode cX12_keep 91 = .ok (.goto 14, 3) := by decide +kernel
theorem dX12_keep_94 : decode cX12_keep 94 = .ok (.iload_n 2, 1) := by decide +kernel
theorem dX12_keep_95 : decode cX12_keep 95 = .ok (.iconst 4, 1) := by decide +kernel
theorem dX12_keep_96 : decode cX12_keep 96 = .ok (.if_icmp .ne 8, 3) := by decide +kernel
theorem dX12_keep_99 : decode cX12_keep 99 = .ok (.bipush 13, 2) := by decide +kernel
theorem dX12_keep_101 : decode cX12_keep 101 = .ok (.goto 4, 3) := by decide +kernel
theorem dX12_keep_104 : decode cX12_keep 104 = .ok (.iconst 0, 1) := by decide +kernel
theorem dX12_keep_105 : decode cX12_keep 105 = .ok (.iastore, 1) := by decide +kernel
theorem dX12_keep_106 : decode cX12_keep 106 = .ok (.iconst 0, 1) := by decide +kernel
theorem dX12_keep_107 : decode cX12_keep 107 = .ok (.istore 5, 2) := by decide +kernel
theorem dX12_keep_109 : decode cX12_keep 109 = .ok (.iload 5, 2) := by decide +kernel
theorem dX12_keep_111 : decode cX12_keep 111 = .ok (.aload_n 0, 1) := by decide +kernel
theorem dX12_keep_112 : decode cX12_keep 112 = .ok (.getfield 101, 3) := by decide +kernel
theorem dX12_keep_115 : decode cX12_keep 115 = .ok (.iload_n 1, 1) := by decide +kernel
theorem dX12_keep_116 : decode cX12_keep 116 = .ok (.iaload, 1) := by decide +kernel
theorem dX12_keep_117 : decode cX12_keep 117 = .ok (.if_icmp .ge 59, 3) := by decide +kernel
theorem dX12_keep_120 : decode cX12_keep 120 = .ok (.aload_n 0, 1) := by decide +kernel
theorem dX12_keep_121 : decode cX12_keep 121 = .ok (.getfield 107, 3) := by decide +kernel
theorem dX12_keep_124 : decode cX12_keep 124 = .ok (.bipush 60, 2) := by decide +kernel
theorem dX12_keep_126 : decode cX12_keep 126 = .ok (.iload_n 1, 1) := by decide +kernel
theorem dX12_keep_127 : decode cX12_keep 127 = .ok (.imul, 1) := by decide +kernel
theorem dX12_keep_128 : decode cX12_keep 128 = .ok (.iload 5, 2) := by decide +kernel
theorem dX12_keep_130 : decode cX12_keep 130 = .ok (.iadd, 1) := by decide +kernel
theorem dX12_keep_131 : decode cX12_keep 131 = .ok (.iload_n 2, 1) := by decide +kernel
theorem dX12_keep_132 : decode cX12_keep 132 = .ok (.iconst 4, 1) := by decide +kernel
theorem dX12_keep_133 : decode cX12_keep 133 = .ok (.if_icmp .ne 13, 3) := by decide +kernel
theorem dX12_keep_136 : decode cX12_keep 136 = .ok (.aload_n 0, 1) := by decide +kernel
theorem dX12_keep_137 : decode cX12_keep 137 = .ok (.getfield 7, 3) := by decide +kernel
theorem dX12_keep_140 : decode cX12_keep 140 = .ok (.iload 5, 2) := by decide +kernel
theorem dX12_keep_142 : decode cX12_keep 142 = .ok (.iaload, 1) := by decide +kernel
theorem dX12_keep_143 : decode cX12_keep 143 = .ok (.goto 26, 3) := by decide +kernel
theorem dX12_keep_146 : decode cX12_keep 146 = .ok (.aload_n 0, 1) := by decide +kernel
theorem dX12_keep_147 : decode cX12_keep 147 = .ok (.getfield 26, 3) := by decide +kernel
theorem dX12_keep_150 : decode cX12_keep 150 = .ok (.aload_n 0, 1) := by decide +kernel
theorem dX12_keep_151 : decode cX12_keep 151 = .ok (.iload_n 3, 1) := by decide +kernel
theorem dX12_keep_152 : decode cX12_keep 152 = .ok (.bipush 16, 2) := by decide +kernel
theorem dX12_keep_154 : decode cX12_keep 154 = .ok (.idiv, 1) := by decide +kernel
theorem dX12_keep_155 : decode cX12_keep 155 = .ok (.iload_n 3, 1) := by decide +kernel
theorem dX12_keep_156 : decode cX12_keep 156 = .ok (.bipush 16, 2) := by decide +kernel
theorem dX12_keep_158 : decode cX12_keep 158 = .ok (.irem, 1) := by decide +kernel
theorem dX12_keep_159 : decode cX12_keep 159 = .ok (.iload 5, 2) := by decide +kernel
theorem dX12_keep_161 : decode cX12_keep 161 = .ok (.invokevirtual 298, 3) := by decide +kernel
theorem dX12_keep_164 : decode cX12_keep 164 = .ok (.iaload, 1) := by decide +kernel
theorem dX12_keep_165 : decode cX12_keep 165 = .ok (.sipush 128, 3) := by decide +kernel
theorem dX12_keep_168 : decode cX12_keep 168 = .ok (.isub, 1) := by decide +kernel
theorem dX12_keep_169 : decode cX12_keep 169 = .ok (.iastore, 1) := by decide +kernel
theorem dX12_keep_170 : decode cX12_keep 170 = .ok (.iinc 5 1, 3) := by decide +kernel
theorem dX12_keep_173 : decode cX12_keep 173 = .ok (.goto (-64), 3) := by decide +kernel
theorem dX12_keep_176 : decode cX12_keep 176 = .ok (.iconst 0, 1) := by decide +kernel
theorem dX12_keep_177 : decode cX12_keep 177 = .ok (.ireturn, 1) := by decide +kernel
theorem dX12_make_0 : decode cX12_make 0 = .ok (.aload_n 0, 1) := by decide +kernel
theorem dX12_make_1 : decode cX12_make 1 = .ok (.iconst 0, 1) := by decide +kernel
theorem dX12_make_2 : decode cX12_make 2 = .ok (.putfield 113, 3) := by decide +kernel
theorem dX12_make_5 : decode cX12_make 5 = .ok (.iload_n 1, 1) := by decide +kernel
theorem dX12_make_6 : decode cX12_make 6 = .ok (.invokestatic 293, 3) := by decide +kernel
theorem dX12_make_9 : decode cX12_make 9 = .ok (.ifCond .eq 23, 3) := by decide +kernel
theorem dX12_make_12 : decode cX12_make 12 = .ok (.iload_n 2, 1) := by decide +kernel
theorem dX12_make_13 : decode cX12_make 13 = .ok (.i2l, 1) := by decide +kernel
theorem dX12_make_14 : decode cX12_make 14 = .ok (.ldc2_w 150, 3) := by decide +kernel
theorem dX12_make_17 : decode cX12_make 17 = .ok (.ldc2_w 281, 3) := by decide +kernel
theorem dX12_make_20 : decode cX12_make 20 = .ok (.invokestatic 118, 3) := by decide +kernel
theorem dX12_make_23 : decode cX12_make 23 = .ok (.ifCond .eq 9, 3) := by decide +kernel
theorem dX12_make_26 : decode cX12_make 26 = .ok (.iload_n 3, 1) := by decide +kernel
theorem dX12_make_27 : decode cX12_make 27 = .ok (.bipush 60, 2) := by decide +kernel
theorem dX12_make_29 : decode cX12_make 29 = .ok (.if_icmp .le 5, 3) := by decide +kernel
theorem dX12_make_32 : decode cX12_make 32 = .ok (.iconst (-1), 1) := by decide +kernel
theorem dX12_make_33 : decode cX12_make 33 = .ok (.ireturn, 1) := by decide +kernel
theorem dX12_make_34 : decode cX12_make 34 = .ok (.iload_n 3, 1) := by decide +kernel
theorem dX12_make_35 : decode cX12_make 35 = .ok (.ifCond .ge 6, 3) := by decide +kernel
theorem dX12_make_38 : decode cX12_make 38 = .ok (.bipush (-14), 2) := by decide +kernel
theorem dX12_make_40 : decode cX12_make 40 = .ok (.ireturn, 1) := by decide +kernel
theorem dX12_make_41 : decode cX12_make 41 = .ok (.aload_n 0, 1) := by decide +kernel
theorem dX12_make_42 : decode cX12_make 42 = .ok (.getfield 98, 3) := by decide +kernel
theorem dX12_make_45 : decode cX12_make 45 = .ok (.iload_n 1, 1) := by decide +kernel
theorem dX12_make_46 : decode cX12_make 46 = .ok (.iload_n 2, 1) := by decide +kernel
theorem dX12_make_47 : decode cX12_make 47 = .ok (.iastore, 1) := by decide +kernel
theorem dX12_make_48 : decode cX12_make 48 = .ok (.aload_n 0, 1) := by decide +kernel
theorem dX12_make_49 : decode cX12_make 49 = .ok (.getfield 101, 3) := by decide +kernel
theorem dX12_make_52 : decode cX12_make 52 = .ok (.iload_n 1, 1) := by decide +kernel
theorem dX12_make_53 : decode cX12_make 53 = .ok (.iload_n 3, 1) := by decide +kernel
theorem dX12_make_54 : decode cX12_make 54 = .ok (.iastore, 1) := by decide +kernel
theorem dX12_make_55 : decode cX12_make 55 = .ok (.iconst 0, 1) := by decide +kernel
theorem dX12_make_56 : decode cX12_make 56 = .ok (.istore 4, 2) := by decide +kernel
theorem dX12_make_58 : decode cX12_make 58 = .ok (.iload 4, 2) := by decide +kernel
theorem dX12_make_60 : decode cX12_make 60 = .ok (.iload_n 3, 1) := by decide +kernel
theorem dX12_make_61 : decode cX12_make 61 = .ok (.if_icmp .ge 22, 3) := by decide +kernel
theorem dX12_make_64 : decode cX12_make 64 = .ok (.aload_n 0, 1) := by decide +kernel
theorem dX12_make_65 : decode cX12_make 65 = .ok (.getfield 107, 3) := by decide +kernel
theorem dX12_make_68 : decode cX12_make 68 = .ok (.bipush 60, 2) := by decide +kernel
theorem dX12_make_70 : decode cX12_make 70 = .ok (.iload_n 1, 1) := by decide +kernel
theorem dX12_make_71 : decode cX12_make 71 = .ok (.imul, 1) := by decide +kernel
theorem dX12_make_72 : decode cX12_make 72 = .ok (.iload 4, 2) := by decide +kernel
theorem dX12_make_74 : decode cX12_make 74 = .ok (.iadd, 1) := by decide +kernel
theorem dX12_make_75 : decode cX12_make 75 = .ok (.iconst 0, 1) := by decide +kernel
theorem dX12_make_76 : decode cX12_make 76 = .ok (.iastore, 1) := by decide +kernel
theorem dX12_make_77 : decode cX12_make 77 = .ok (.iinc 4 1, 3) := by decide +kernel
theorem dX12_make_80 : decode cX12_make 80 = .ok (.goto (-22), 3) := by decide +kernel
theorem dX12_make_83 : decode cX12_make 83 = .ok (.iconst 0, 1) := by decide +kernel
theorem dX12_make_84 : decode cX12_make 84 = .ok (.ireturn, 1) := by decide +kernel
theorem dX12_element_0 : decode cX12_element 0 = .ok (.iload_n 1, 1) := by decide +kernel
theorem dX12_element_1 : decode cX12_element 1 = .ok (.invokestatic 293, 3) := by decide +kernel
theorem dX12_element_4 : decode cX12_element 4 = .ok (.ifCond .eq 35, 3) := by decide +kernel
theorem dX12_element_7 : decode cX12_element 7 = .ok (.aload_n 0, 1) := by decide +kernel
theorem dX12_element_8 : decode cX12_element 8 = .ok (.getfield 98, 3) := by decide +kernel
theorem dX12_element_11 : decode cX12_element 11 = .ok (.iload_n 1, 1) := by decide +kernel
theorem dX12_element_12 : decode cX12_element 12 = .ok (.iaload, 1) := by decide +kernel
theorem dX12_element_13 : decode cX12_element 13 = .ok (.iconst 2, 1) := by decide +kernel
theorem dX12_element_14 : decode cX12_element 14 = .ok (.if_icmp .le 25, 3) := by decide +kernel
theorem dX12_element_17 : decode cX12_element 17 = .ok (.iload_n 2, 1) := by decide +kernel
theorem dX12_element_18 : decode cX12_element 18 = .ok (.i2l, 1) := by decide +kernel
theorem dX12_element_19 : decode cX12_element 19 = .ok (.lconst 0, 1) := by decide +kernel
theorem dX12_element_20 : decode cX12_element 20 = .ok (.aload_n 0, 1) := by decide +kernel
theorem dX12_element_21 : decode cX12_element 21 = .ok (.getfield 101, 3) := by decide +kernel
theorem dX12_element_24 : decode cX12_element 24 = .ok (.iload_n 1, 1) := by decide +kernel
theorem dX12_element_25 : decode cX12_element 25 = .ok (.iaload, 1) := by decide +kernel
theorem dX12_element_26 : decode cX12_element 26 = .ok (.iconst 1, 1) := by decide +kernel
theorem dX12_element_27 : decode cX12_element 27 = .ok (.isub, 1) := by decide +kernel
theorem dX12_element_28 : decode cX12_element 28 = .ok (.i2l, 1) := by decide +kernel
theorem dX12_element_29 : decode cX12_element 29 = .ok (.invokestatic 118, 3) := by decide +kernel
theorem dX12_element_32 : decode cX12_element 32 = .ok (.ifCond .eq 7, 3) := by decide +kernel
theorem dX12_element_35 : decode cX12_element 35 = .ok (.iconst 1, 1) := by decide +kernel
theorem dX12_element_36 : decode cX12_element 36 = .ok (.goto 4, 3) := by decide +kernel
theorem dX12_element_39 : decode cX12_element 39 = .ok (.iconst 0, 1) := by decide +kernel
theorem dX12_element_40 : decode cX12_element 40 = .ok (.istore_n 3, 1) := by decide +kernel
theorem dX12_element_41 : decode cX12_element 41 = .ok (.aload_n 0, 1) := by decide +kernel
theorem dX12_element_42 : decode cX12_element 42 = .ok (.iload_n 1, 1) := by decide +kernel
theorem dX12_element_43 : decode cX12_element 43 = .ok (.invokestatic 293, 3) := by decide +kernel
theorem dX12_element_46 : decode cX12_element 46 = .ok (.ifCond .ne 7, 3) := by decide +kernel
theorem dX12_element_49 : decode cX12_element 49 = .ok (.iconst 1, 1) := by decide +kernel
theorem dX12_element_50 : decode cX12_element 50 = .ok (.goto 12, 3) := by decide +kernel
theorem dX12_element_53 : decode cX12_element 53 = .ok (.iload_n 3, 1) := by decide +kernel
theorem dX12_element_54 : decode cX12_element 54 = .ok (.ifCond .eq 7, 3) := by decide +kernel
theorem dX12_element_57 : decode cX12_element 57 = .ok (.iconst 0, 1) := by decide +kernel
theorem dX12_element_58 : decode cX12_element 58 = .ok (.goto 4, 3) := by decide +kernel
theorem dX12_element_61 : decode cX12_element 61 = .ok (.iconst 2, 1) := by decide +kernel
theorem dX12_element_62 : decode cX12_element 62 = .ok (.putfield 113, 3) := by decide +kernel
theorem dX12_element_65 : decode cX12_element 65 = .ok (.iload_n 3, 1) := by decide +kernel
theorem dX12_element_66 : decode cX12_element 66 = .ok (.ifCond .eq 18, 3) := by decide +kernel
theorem dX12_element_69 : decode cX12_element 69 = .ok (.aload_n 0, 1) := by decide +kernel
theorem dX12_element_70 : decode cX12_element 70 = .ok (.getfield 107, 3) := by decide +kernel
theorem dX12_element_73 : decode cX12_element 73 = .ok (.bipush 60, 2) := by decide +kernel
theorem dX12_element_75 : decode cX12_element 75 = .ok (.iload_n 1, 1) := by decide +kernel
theorem dX12_element_76 : decode cX12_element 76 = .ok (.imul, 1) := by decide +kernel
theorem dX12_element_77 : decode cX12_element 77 = .ok (.iload_n 2, 1) := by decide +kernel
theorem dX12_element_78 : decode cX12_element 78 = .ok (.iadd, 1) := by decide +kernel
theorem dX12_element_79 : decode cX12_element 79 = .ok (.iaload, 1) := by decide +kernel
theorem dX12_element_80 : decode cX12_element 80 = .ok (.i2l, 1) := by decide +kernel
theorem dX12_element_81 : decode cX12_element 81 = .ok (.goto 4, 3) := by decide +kernel
theorem dX12_element_84 : decode cX12_element 84 = .ok (.lconst 0, 1) := by decide +kernel
theorem dX12_element_85 : decode cX12_element 85 = .ok (.lreturn, 1) := by decide +kernel
theorem dX12_hasPlaces_0 : decode cX12_hasPlaces 0 = .ok (.iload_n 3, 1) := by decide +kernel
theorem dX12_hasPlaces_1 : decode cX12_hasPlaces 1 = .ok (.ifCond .lt 33, 3) := by decide +kernel
theorem dX12_hasPlaces_4 : decode cX12_hasPlaces 4 = .ok (.iload_n 2, 1) := by decide +kernel
theorem dX12_hasPlaces_5 : decode cX12_hasPlaces 5 = .ok (.ifCond .lt 29, 3) := by decide +kernel
theorem dX12_hasPlaces_8 : decode cX12_hasPlaces 8 = .ok (.iload_n 2, 1) := by decide +kernel
theorem dX12_hasPlaces_9 : decode cX12_hasPlaces 9 = .ok (.aload_n 0, 1) := by decide +kernel
theorem dX12_hasPlaces_10 : decode cX12_hasPlaces 10 = .ok (.getfield 101, 3) := by decide +kernel
theorem dX12_hasPlaces_13 : decode cX12_hasPlaces 13 = .ok (.iload_n 1, 1) := by decide +kernel
theorem dX12_hasPlaces_14 : decode cX12_hasPlaces 14 = .ok (.iaload, 1) := by decide +kernel
theorem dX12_hasPlaces_15 : decode cX12_hasPlaces 15 = .ok (.if_icmp .gt 19, 3) := by decide +kernel
theorem dX12_hasPlaces_18 : decode cX12_hasPlaces 18 = .ok (.iload_n 3, 1) := by decide +kernel
theorem dX12_hasPlaces_19 : decode cX12_hasPlaces 19 = .ok (.aload_n 0, 1) := by decide +kernel
theorem dX12_hasPlaces_20 : decode cX12_hasPlaces 20 = .ok (.getfield 101, 3) := by decide +kernel
theorem dX12_hasPlaces_23 : decode cX12_hasPlaces 23 = .ok (.iload_n 1, 1) := by decide +kernel
theorem dX12_hasPlaces_24 : decode cX12_hasPlaces 24 = .ok (.iaload, 1) := by decide +kernel
theorem dX12_hasPlaces_25 : decode cX12_hasPlaces 25 = .ok (.iload_n 2, 1) := by decide +kernel
theorem dX12_hasPlaces_26 : decode cX12_hasPlaces 26 = .ok (.isub, 1) := by decide +kernel
theorem dX12_hasPlaces_27 : decode cX12_hasPlaces 27 = .ok (.if_icmp .gt 7, 3) := by decide +kernel
theorem dX12_hasPlaces_30 : decode cX12_hasPlaces 30 = .ok (.iconst 1, 1) := by decide +kernel
theorem dX12_hasPlaces_31 : decode cX12_hasPlaces 31 = .ok (.goto 4, 3) := by decide +kernel
theorem dX12_hasPlaces_34 : decode cX12_hasPlaces 34 = .ok (.iconst 0, 1) := by decide +kernel
theorem dX12_hasPlaces_35 : decode cX12_hasPlaces 35 = .ok (.ireturn, 1) := by decide +kernel
theorem dX12_copy_0 : decode cX12_copy 0 = .ok (.aload_n 0, 1) := by decide +kernel
theorem dX12_copy_1 : decode cX12_copy 1 = .ok (.iconst 0, 1) := by decide +kernel
theorem dX12_copy_2 : decode cX12_copy 2 = .ok (.putfield 113, 3) := by decide +kernel
theorem dX12_copy_5 : decode cX12_copy 5 = .ok (.iload_n 1, 1) := by decide +kernel
theorem dX12_copy_6 : decode cX12_copy 6 = .ok (.invokestatic 293, 3) := by decide +kernel
theorem dX12_copy_9 : decode cX12_copy 9 = .ok (.ifCond .eq 10, 3) := by decide +kernel
theorem dX12_copy_12 : decode cX12_copy 12 = .ok (.iload_n 3, 1) := by decide +kernel
theorem dX12_copy_13 : decode cX12_copy 13 = .ok (.invokestatic 293, 3) := by decide +kernel
theorem dX12_copy_16 : decode cX12_copy 16 = .ok (.ifCond .ne 5, 3) := by decide +kernel
theorem dX12_copy_19 : decode cX12_copy 19 = .ok (.iconst (-1), 1) := by decide +kernel
theorem dX12_copy_20 : decode cX12_copy 20 = .ok (.ireturn, 1) := by decide +kernel
theorem dX12_copy_21 : decode cX12_copy 21 = .ok (.aload_n 0, 1) := by decide +kernel
theorem dX12_copy_22 : decode cX12_copy 22 = .ok (.getfield 98, 3) := by decide +kernel
theorem dX12_copy_25 : decode cX12_copy 25 = .ok (.iload_n 1, 1) := by decide +kernel
theorem dX12_copy_26 : decode cX12_copy 26 = .ok (.iaload, 1) := by decide +kernel
theorem dX12_copy_27 : decode cX12_copy 27 = .ok (.ifCond .eq 12, 3) := by decide +kernel
theorem dX12_copy_30 : decode cX12_copy 30 = .ok (.aload_n 0, 1) := by decide +kernel
theorem dX12_copy_31 : decode cX12_copy 31 = .ok (.getfield 98, 3) := by decide +kernel
theorem dX12_copy_34 : decode cX12_copy 34 = .ok (.iload_n 3, 1) := by decide +kernel
theorem dX12_copy_35 : decode cX12_copy 35 = .ok (.iaload, 1) := by decide +kernel
theorem dX12_copy_36 : decode cX12_copy 36 = .ok (.ifCond .ne 6, 3) := by decide +kernel
theorem dX12_copy_39 : decode cX12_copy 39 = .ok (.bipush (-11), 2) := by decide +kernel
theorem dX12_copy_41 : decode cX12_copy 41 = .ok (.ireturn, 1) := by decide +kernel
theorem dX12_copy_42 : decode cX12_copy 42 = .ok (.aload_n 0, 1) := by decide +kernel
theorem dX12_copy_43 : decode cX12_copy 43 = .ok (.getfield 98, 3) := by decide +kernel
theorem dX12_copy_46 : decode cX12_copy 46 = .ok (.iload_n 1, 1) := by decide +kernel
theorem dX12_copy_47 : decode cX12_copy 47 = .ok (.iaload, 1) := by decide +kernel
theorem dX12_copy_48 : decode cX12_copy 48 = .ok (.iconst 3, 1) := by decide +kernel
theorem dX12_copy_49 : decode cX12_copy 49 = .ok (.if_icmp .lt 18, 3) := by decide +kernel
theorem dX12_copy_52 : decode cX12_copy 52 = .ok (.aload_n 0, 1) := by decide +kernel
theorem dX12_copy_53 : decode cX12_copy 53 = .ok (.getfield 98, 3) := by decide +kernel
theorem dX12_copy_56 : decode cX12_copy 56 = .ok (.iload_n 1, 1) := by decide +kernel
theorem dX12_copy_57 : decode cX12_copy 57 = .ok (.iaload, 1) := by decide +kernel
theorem dX12_copy_58 : decode cX12_copy 58 = .ok (.aload_n 0, 1) := by decide +kernel
theorem dX12_copy_59 : decode cX12_copy 59 = .ok (.getfield 98, 3) := by decide +kernel
theorem dX12_copy_62 : decode cX12_copy 62 = .ok (.iload_n 3, 1) := by decide +kernel
theorem dX12_copy_63 : decode cX12_copy 63 = .ok (.iaload, 1) := by decide +kernel
theorem dX12_copy_64 : decode cX12_copy 64 = .ok (.if_icmp .eq 6, 3) := by decide +kernel
theorem dX12_copy_67 : decode cX12_copy 67 = .ok (.bipush (-12), 2) := by decide +kernel
theorem dX12_copy_69 : decode cX12_copy 69 = .ok (.ireturn, 1) := by decide +kernel
theorem dX12_copy_70 : decode cX12_copy 70 = .ok (.aload_n 0, 1) := by decide +kernel
theorem dX12_copy_71 : decode cX12_copy 71 = .ok (.iload_n 1, 1) := by decide +kernel
theorem dX12_copy_72 : decode cX12_copy 72 = .ok (.iload_n 2, 1) := by decide +kernel
theorem dX12_copy_73 : decode cX12_copy 73 = .ok (.iload 5, 2) := by decide +kernel
theorem dX12_copy_75 : decode cX12_copy 75 = .ok (.invokevirtual 302, 3) := by decide +kernel
theorem dX12_copy_78 : decode cX12_copy 78 = .ok (.ifCond .eq 15, 3) := by decide +kernel
theorem dX12_copy_81 : decode cX12_copy 81 = .ok (.aload_n 0, 1) := by decide +kernel
theorem dX12_copy_82 : decode cX12_copy 82 = .ok (.iload_n 3, 1) := by decide +kernel
theorem dX12_copy_83 : decode cX12_copy 83 = .ok (.iload 4, 2) := by decide +kernel
theorem dX12_copy_85 : decode cX12_copy 85 = .ok (.iload 5, 2) := by decide +kernel
theorem dX12_copy_87 : decode cX12_copy 87 = .ok (.invokevirtual 302, 3) := by decide +kernel
theorem dX12_copy_90 : decode cX12_copy 90 = .ok (.ifCond .ne 6, 3) := by decide +kernel
theorem dX12_copy_93 : decode cX12_copy 93 = .ok (.bipush (-13), 2) := by decide +kernel
theorem dX12_copy_95 : decode cX12_copy 95 = .ok (.ireturn, 1) := by decide +kernel
theorem dX12_copy_96 : decode cX12_copy 96 = .ok (.iconst 0, 1) := by decide +kernel
theorem dX12_copy_97 : decode cX12_copy 97 = .ok (.istore 6, 2) := by decide +kernel
theorem dX12_copy_99 : decode cX12_copy 99 = .ok (.iload 6, 2) := by decide +kernel
theorem dX12_copy_101 : decode cX12_copy 101 = .ok (.iload 5, 2) := by decide +kernel
theorem dX12_copy_103 : decode cX12_copy 103 = .ok (.if_icmp .ge 30, 3) := by decide +kernel
theorem dX12_copy_106 : decode cX12_copy 106 = .ok (.aload_n 0, 1) := by decide +kernel
theorem dX12_copy_107 : decode cX12_copy 107 = .ok (.getfield 110, 3) := by decide +kernel
theorem dX12_copy_110 : decode cX12_copy 110 = .ok (.iload 6, 2) := by decide +kernel
theorem dX12_copy_112 : decode cX12_copy 112 = .ok (.aload_n 0, 1) := by decide +kernel
theorem dX12_copy_113 : decode cX12_copy 113 = .ok (.getfield 107, 3) := by decide +kernel
theorem dX12_copy_116 : decode cX12_copy 116 = .ok (.bipush 60, 2) := by decide +kernel
theorem dX12_copy_118 : decode cX12_copy 118 = .ok (.iload_n 1, 1) := by decide +kernel
theorem dX12_copy_119 : decode cX12_copy 119 = .ok (.imul, 1) := by decide +kernel
theorem dX12_copy_120 : decode cX12_copy 120 = .ok (.iload_n 2, 1) := by decide +kernel
theorem dX12_copy_121 : decode cX12_copy 121 = .ok (.iadd, 1) := by decide +kernel
theorem dX12_copy_122 : decode cX12_copy 122 = .ok (.iload 6, 2) := by decide +kernel
theorem dX12_copy_124 : decode cX12_copy 124 = .ok (.iadd, 1) := by decide +kernel
theorem dX12_copy_125 : decode cX12_copy 125 = .ok (.iaload, 1) := by decide +kernel
theorem dX12_copy_126 : decode cX12_copy 126 = .ok (.iastore, 1) := by decide +kernel
theorem dX12_copy_127 : decode cX12_copy 127 = .ok (.iinc 6 1, 3) := by decide +kernel
theorem dX12_copy_130 : decode cX12_copy 130 = .ok (.goto (-31), 3) := by decide +kernel
theorem dX12_copy_133 : decode cX12_copy 133 = .ok (.iconst 0, 1) := by decide +kernel
theorem dX12_copy_134 : decode cX12_copy 134 = .ok (.istore 6, 2) := by decide +kernel
theorem dX12_copy_136 : decode cX12_copy 136 = .ok (.iload 6, 2) := by decide +kernel
theorem dX12_copy_138 : decode cX12_copy 138 = .ok (.iload 5, 2) := by decide +kernel
theorem dX12_copy_140 : decode cX12_copy 140 = .ok (.if_icmp .ge 31, 3) := by decide +kernel
theorem dX12_copy_143 : decode cX12_copy 143 = .ok (.aload_n 0, 1) := by decide +kernel
theorem dX12_copy_144 : decode cX12_copy 144 = .ok (.getfield 107, 3) := by decide +kernel
theorem dX12_copy_147 : decode cX12_copy 147 = .ok (.bipush 60, 2) := by decide +kernel
theorem dX12_copy_149 : decode cX12_copy 149 = .ok (.iload_n 3, 1) := by decide +kernel
theorem dX12_copy_150 : decode cX12_copy 150 = .ok (.imul, 1) := by decide +kernel
theorem dX12_copy_151 : decode cX12_copy 151 = .ok (.iload 4, 2) := by decide +kernel
theorem dX12_copy_153 : decode cX12_copy 153 = .ok (.iadd, 1) := by decide +kernel
theorem dX12_copy_154 : decode cX12_copy 154 = .ok (.iload 6, 2) := by decide +kernel
theorem dX12_copy_156 : decode cX12_copy 156 = .ok (.iadd, 1) := by decide +kernel
theorem dX12_copy_157 : decode cX12_copy 157 = .ok (.aload_n 0, 1) := by decide +kernel
theorem dX12_copy_158 : decode cX12_copy 158 = .ok (.getfield 110, 3) := by decide +kernel
theorem dX12_copy_161 : decode cX12_copy 161 = .ok (.iload 6, 2) := by decide +kernel
theorem dX12_copy_163 : decode cX12_copy 163 = .ok (.iaload, 1) := by decide +kernel
theorem dX12_copy_164 : decode cX12_copy 164 = .ok (.iastore, 1) := by decide +kernel
theorem dX12_copy_165 : decode cX12_copy 165 = .ok (.iinc 6 1, 3) := by decide +kernel
theorem dX12_copy_168 : decode cX12_copy 168 = .ok (.goto (-32), 3) := by decide +kernel
theorem dX12_copy_171 : decode cX12_copy 171 = .ok (.iload 5, 2) := by decide +kernel
theorem dX12_copy_173 : decode cX12_copy 173 = .ok (.ireturn, 1) := by decide +kernel
theorem dX12_denied_0 : decode cX12_denied 0 = .ok (.iload_n 1, 1) := by decide +kernel
theorem dX12_denied_1 : decode cX12_denied 1 = .ok (.invokestatic 293, 3) := by decide +kernel
theorem dX12_denied_4 : decode cX12_denied 4 = .ok (.ifCond .ne 7, 3) := by decide +kernel
theorem dX12_denied_7 : decode cX12_denied 7 = .ok (.iconst (-1), 1) := by decide +kernel
theorem dX12_denied_8 : decode cX12_denied 8 = .ok (.goto 33, 3) := by decide +kernel
theorem dX12_denied_11 : decode cX12_denied 11 = .ok (.aload_n 0, 1) := by decide +kernel
theorem dX12_denied_12 : decode cX12_denied 12 = .ok (.getfield 98, 3) := by decide +kernel
theorem dX12_denied_15 : decode cX12_denied 15 = .ok (.iload_n 1, 1) := by decide +kernel
theorem dX12_denied_16 : decode cX12_denied 16 = .ok (.iaload, 1) := by decide +kernel
theorem dX12_denied_17 : decode cX12_denied 17 = .ok (.ifCond .ne 8, 3) := by decide +kernel
theorem dX12_denied_20 : decode cX12_denied 20 = .ok (.bipush (-11), 2) := by decide +kernel
theorem dX12_denied_22 : decode cX12_denied 22 = .ok (.goto 19, 3) := by decide +kernel
theorem dX12_denied_25 : decode cX12_denied 25 = .ok (.aload_n 0, 1) := by decide +kernel
theorem dX12_denied_26 : decode cX12_denied 26 = .ok (.getfield 98, 3) := by decide +kernel
theorem dX12_denied_29 : decode cX12_denied 29 = .ok (.iload_n 1, 1) := by decide +kernel
theorem dX12_denied_30 : decode cX12_denied 30 = .ok (.iaload, 1) := by decide +kernel
theorem dX12_denied_31 : decode cX12_denied 31 = .ok (.iconst 1, 1) := by decide +kernel
theorem dX12_denied_32 : decode cX12_denied 32 = .ok (.if_icmp .le 8, 3) := by decide +kernel
theorem dX12_denied_35 : decode cX12_denied 35 = .ok (.bipush (-12), 2) := by decide +kernel
theorem dX12_denied_37 : decode cX12_denied 37 = .ok (.goto 4, 3) := by decide +kernel
theorem dX12_denied_40 : decode cX12_denied 40 = .ok (.iconst 0, 1) := by decide +kernel
theorem dX12_denied_41 : decode cX12_denied 41 = .ok (.ireturn, 1) := by decide +kernel
theorem dX12_weight_0 : decode cX12_weight 0 = .ok (.aload_n 0, 1) := by decide +kernel
theorem dX12_weight_1 : decode cX12_weight 1 = .ok (.iconst 0, 1) := by decide +kernel
theorem dX12_weight_2 : decode cX12_weight 2 = .ok (.putfield 113, 3) := by decide +kernel
theorem dX12_weight_5 : decode cX12_weight 5 = .ok (.aload_n 0, 1) := by decide +kernel
theorem dX12_weight_6 : decode cX12_weight 6 = .ok (.iload_n 1, 1) := by decide +kernel
theorem dX12_weight_7 : decode cX12_weight 7 = .ok (.invokevirtual 305, 3) := by decide +kernel
theorem dX12_weight_10 : decode cX12_weight 10 = .ok (.istore_n 2, 1) := by decide +kernel
theorem dX12_weight_11 : decode cX12_weight 11 = .ok (.iload_n 2, 1) := by decide +kernel
theorem dX12_weight_12 : decode cX12_weight 12 = .ok (.ifCond .ge 5, 3) := by decide +kernel
theorem dX12_weight_15 : decode cX12_weight 15 = .ok (.iload_n 2, 1) := by decide +kernel
theorem dX12_weight_16 : decode cX12_weight 16 = .ok (.ireturn, 1) := by decide +kernel
theorem dX12_weight_17 : decode cX12_weight 17 = .ok (.iconst 5, 1) := by decide +kernel
theorem dX12_weight_18 : decode cX12_weight 18 = .ok (.aload_n 0, 1) := by decide +kernel
theorem dX12_weight_19 : decode cX12_weight 19 = .ok (.getfield 32, 3) := by decide +kernel
theorem dX12_weight_22 : decode cX12_weight 22 = .ok (.aload_n 0, 1) := by decide +kernel
theorem dX12_weight_23 : decode cX12_weight 23 = .ok (.getfield 104, 3) := by decide +kernel
theorem dX12_weight_26 : decode cX12_weight 26 = .ok (.iload_n 1, 1) := by decide +kernel
theorem dX12_weight_27 : decode cX12_weight 27 = .ok (.iaload, 1) := by decide +kernel
theorem dX12_weight_28 : decode cX12_weight 28 = .ok (.iaload, 1) := by decide +kernel
theorem dX12_weight_29 : decode cX12_weight 29 = .ok (.iadd, 1) := by decide +kernel
theorem dX12_weight_30 : decode cX12_weight 30 = .ok (.istore_n 3, 1) := by decide +kernel
theorem dX12_weight_31 : decode cX12_weight 31 = .ok (.aload_n 0, 1) := by decide +kernel
theorem dX12_weight_32 : decode cX12_weight 32 = .ok (.getfield 29, 3) := by decide +kernel
theorem dX12_weight_35 : decode cX12_weight 35 = .ok (.aload_n 0, 1) := by decide +kernel
theorem dX12_weight_36 : decode cX12_weight 36 = .ok (.getfield 104, 3) := by decide +kernel
theorem dX12_weight_39 : decode cX12_weight 39 = .ok (.iload_n 1, 1) := by decide +kernel
theorem dX12_weight_40 : decode cX12_weight 40 = .ok (.iaload, 1) := by decide +kernel
theorem dX12_weight_41 : decode cX12_weight 41 = .ok (.iaload, 1) := by decide +kernel
theorem dX12_weight_42 : decode cX12_weight 42 = .ok (.tableswitch 53 0 3 #[30, 32, 37, 44], 30) := by decide +kernel
theorem dX12_weight_72 : decode cX12_weight 72 = .ok (.iload_n 3, 1) := by decide +kernel
theorem dX12_weight_73 : decode cX12_weight 73 = .ok (.ireturn, 1) := by decide +kernel
theorem dX12_weight_74 : decode cX12_weight 74 = .ok (.iload_n 3, 1) := by decide +kernel
theorem dX12_weight_75 : decode cX12_weight 75 = .ok (.bipush 20, 2) := by decide +kernel
theorem dX12_weight_77 : decode cX12_weight 77 = .ok (.iadd, 1) := by decide +kernel
theorem dX12_weight_78 : decode cX12_weight 78 = .ok (.ireturn, 1) := by decide +kernel
theorem dX12_weight_79 : decode cX12_weight 79 = .ok (.iconst 2, 1) := by decide +kernel
theorem dX12_weight_80 : decode cX12_weight 80 = .ok (.iload_n 3, 1) := by decide +kernel
theorem dX12_weight_81 : decode cX12_weight 81 = .ok (.bipush 20, 2) := by decide +kernel
theorem dX12_weight_83 : decode cX12_weight 83 = .ok (.iadd, 1) := by decide +kernel
theorem dX12_weight_84 : decode cX12_weight 84 = .ok (.imul, 1) := by decide +kernel
theorem dX12_weight_85 : decode cX12_weight 85 = .ok (.ireturn, 1) := by decide +kernel
theorem dX12_weight_86 : decode cX12_weight 86 = .ok (.iconst 2, 1) := by decide +kernel
theorem dX12_weight_87 : decode cX12_weight 87 = .ok (.iload_n 3, 1) := by decide +kernel
theorem dX12_weight_88 : decode cX12_weight 88 = .ok (.bipush 20, 2) := by decide +kernel
theorem dX12_weight_90 : decode cX12_weight 90 = .ok (.iadd, 1) := by decide +kernel
theorem dX12_weight_91 : decode cX12_weight 91 = .ok (.imul, 1) := by decide +kernel
theorem dX12_weight_92 : decode cX12_weight 92 = .ok (.iconst 1, 1) := by decide +kernel
theorem dX12_weight_93 : decode cX12_weight 93 = .ok (.iadd, 1) := by decide +kernel
theorem dX12_weight_94 : decode cX12_weight 94 = .ok (.ireturn, 1) := by decide +kernel
theorem dX12_weight_95 : decode cX12_weight 95 = .ok (.iload_n 3, 1) := by decide +kernel
theorem dX12_weight_96 : decode cX12_weight 96 = .ok (.sipush 300, 3) := by decide +kernel
theorem dX12_weight_99 : decode cX12_weight 99 = .ok (.iadd, 1) := by decide +kernel
theorem dX12_weight_100 : decode cX12_weight 100 = .ok (.ireturn, 1) := by decide +kernel
theorem dX12_toss_0 : decode cX12_toss 0 = .ok (.aload_n 0, 1) := by decide +kernel
theorem dX12_toss_1 : decode cX12_toss 1 = .ok (.iconst 0, 1) := by decide +kernel
theorem dX12_toss_2 : decode cX12_toss 2 = .ok (.putfield 113, 3) := by decide +kernel
theorem dX12_toss_5 : decode cX12_toss 5 = .ok (.aload_n 0, 1) := by decide +kernel
theorem dX12_toss_6 : decode cX12_toss 6 = .ok (.iload_n 1, 1) := by decide +kernel
theorem dX12_toss_7 : decode cX12_toss 7 = .ok (.invokevirtual 305, 3) := by decide +kernel
theorem dX12_toss_10 : decode cX12_toss 10 = .ok (.istore_n 2, 1) := by decide +kernel
theorem dX12_toss_11 : decode cX12_toss 11 = .ok (.iload_n 2, 1) := by decide +kernel
theorem dX12_toss_12 : decode cX12_toss 12 = .ok (.ifCond .ge 7, 3) := by decide +kernel
theorem dX12_toss_15 : decode cX12_toss 15 = .ok (.iload_n 2, 1) := by decide +kernel
theorem dX12_toss_16 : decode cX12_toss 16 = .ok (.goto 28, 3) := by decide +kernel
theorem dX12_toss_19 : decode cX12_toss 19 = .ok (.aload_n 0, 1) := by decide +kernel
theorem dX12_toss_20 : decode cX12_toss 20 = .ok (.getfield 29, 3) := by decide +kernel
theorem dX12_toss_23 : decode cX12_toss 23 = .ok (.aload_n 0, 1) := by decide +kernel
theorem dX12_toss_24 : decode cX12_toss 24 = .ok (.getfield 104, 3) := by decide +kernel
theorem dX12_toss_27 : decode cX12_toss 27 = .ok (.iload_n 1, 1) := by decide +kernel
theorem dX12_toss_28 : decode cX12_toss 28 = .ok (.iaload, 1) := by decide +kernel
theorem dX12_toss_29 : decode cX12_toss 29 = .ok (.iaload, 1) := by decide +kernel
theorem dX12_toss_30 : decode cX12_toss 30 = .ok (.ifCond .ne 8, 3) := by decide +kernel
theorem dX12_toss_33 : decode cX12_toss 33 = .ok (.bipush (-15), 2) := by decide +kernel
theorem dX12_toss_35 : decode cX12_toss 35 = .ok (.goto 9, 3) := by decide +kernel
theorem dX12_toss_38 : decode cX12_toss 38 = .ok (.aload_n 0, 1) := by decide +kernel
theorem dX12_toss_39 : decode cX12_toss 39 = .ok (.getfield 104, 3) := by decide +kernel
theorem dX12_toss_42 : decode cX12_toss 42 = .ok (.iload_n 1, 1) := by decide +kernel
theorem dX12_toss_43 : decode cX12_toss 43 = .ok (.iaload, 1) := by decide +kernel
theorem dX12_toss_44 : decode cX12_toss 44 = .ok (.ireturn, 1) := by decide +kernel
end
section
theorem dL_element_0 : decode cL_element 0 = .ok (.aload_n 3, 1) := by decide +kernel
theorem dL_element_1 : decode cL_element 1 = .ok (.iconst 0, 1) := by decide +kernel
theorem dL_element_2 : decode cL_element 2 = .ok (.aload_n 0, 1) := by decide +kernel
theorem dL_element_3 : decode cL_element 3 = .ok (.iload_n 1, 1) := by decide +kernel
theorem dL_element_4 : decode cL_element 4 = .ok (.iload_n 2, 1) := by decide +kernel
theorem dL_element_5 : decode cL_element 5 = .ok (.invokevirtual 7, 3) := by decide +kernel
theorem dL_element_8 : decode cL_element 8 = .ok (.lastore, 1) := by decide +kernel
theorem dL_element_9 : decode cL_element 9 = .ok (.goto 11, 3) := by decide +kernel
theorem dL_element_12 : decode cL_element 12 = .ok (.astore 4, 2) := by decide +kernel
theorem dL_element_14 : decode cL_element 14 = .ok (.iconst 1, 1) := by decide +kernel
theorem dL_element_15 : decode cL_element 15 = .ok (.ireturn, 1) := by decide +kernel
theorem dL_element_16 : decode cL_element 16 = .ok (.astore 4, 2) := by decide +kernel
theorem dL_element_18 : decode cL_element 18 = .ok (.iconst 2, 1) := by decide +kernel
theorem dL_element_19 : decode cL_element 19 = .ok (.ireturn, 1) := by decide +kernel
theorem dL_element_20 : decode cL_element 20 = .ok (.iconst 0, 1) := by decide +kernel
theorem dL_element_21 : decode cL_element 21 = .ok (.ireturn, 1) := by decide +kernel
theorem dL_law_0 : decode cL_law 0 = .ok (.new 8, 3) := by decide +kernel
theorem dL_law_3 : decode cL_law 3 = .ok (.dup, 1) := by decide +kernel
theorem dL_law_4 : decode cL_law 4 = .ok (.invokespecial 17, 3) := by decide +kernel
theorem dL_law_7 : decode cL_law 7 = .ok (.astore_n 1, 1) := by decide +kernel
theorem dL_law_8 : decode cL_law 8 = .ok (.new 18, 3) := by decide +kernel
theorem dL_law_11 : decode cL_law 11 = .ok (.dup, 1) := by decide +kernel
theorem dL_law_12 : decode cL_law 12 = .ok (.invokespecial 20, 3) := by decide +kernel
theorem dL_law_15 : decode cL_law 15 = .ok (.astore_n 2, 1) := by decide +kernel
theorem dL_law_16 : decode cL_law 16 = .ok (.iconst 1, 1) := by decide +kernel
theorem dL_law_17 : decode cL_law 17 = .ok (.newarray .long, 2) := by decide +kernel
theorem dL_law_19 : decode cL_law 19 = .ok (.astore_n 3, 1) := by decide +kernel
theorem dL_law_20 : decode cL_law 20 = .ok (.iconst 0, 1) := by decide +kernel
theorem dL_law_21 : decode cL_law 21 = .ok (.istore 4, 2) := by decide +kernel
theorem dL_law_23 : decode cL_law 23 = .ok (.iload 4, 2) := by decide +kernel
theorem dL_law_25 : decode cL_law 25 = .ok (.aload_n 0, 1) := by decide +kernel
theorem dL_law_26 : decode cL_law 26 = .ok (.arraylength, 1) := by decide +kernel
theorem dL_law_27 : decode cL_law 27 = .ok (.bipush 6, 2) := by decide +kernel
theorem dL_law_29 : decode cL_law 29 = .ok (.isub, 1) := by decide +kernel
theorem dL_law_30 : decode cL_law 30 = .ok (.if_icmp .gt 1143, 3) := by decide +kernel
theorem dL_law_33 : decode cL_law 33 = .ok (.aload_n 0, 1) := by decide +kernel
theorem dL_law_34 : decode cL_law 34 = .ok (.iload 4, 2) := by decide +kernel
theorem dL_law_36 : decode cL_law 36 = .ok (.iaload, 1) := by decide +kernel
theorem dL_law_37 : decode cL_law 37 = .ok (.bipush 31, 2) := by decide +kernel
theorem dL_law_39 : decode cL_law 39 = .ok (.iand, 1) := by decide +kernel
theorem dL_law_40 : decode cL_law 40 = .ok (.tableswitch 1127 0 28 #[132, 169, 206, 243, 280, 329, 390, 439, 464, 489, 514, 527, 564, 589, 626, 651, 676, 713, 750, 763, 776, 801, 814, 839, 888, 937, 1004, 1077, 1102], 132) := by decide +kernel
theorem dL_law_172 : decode cL_law 172 = .ok (.aload_n 1, 1) := by decide +kernel
theorem dL_law_173 : decode cL_law 173 = .ok (.aload_n 0, 1) := by decide +kernel
theorem dL_law_174 : decode cL_law 174 = .ok (.iload 4, 2) := by decide +kernel
theorem dL_law_176 : decode cL_law 176 = .ok (.iconst 1, 1) := by decide +kernel
theorem dL_law_177 : decode cL_law 177 = .ok (.iadd, 1) := by decide +kernel
theorem dL_law_178 : decode cL_law 178 = .ok (.iaload, 1) := by decide +kernel
theorem dL_law_179 : decode cL_law 179 = .ok (.aload_n 0, 1) := by decide +kernel
theorem dL_law_180 : decode cL_law 180 = .ok (.iload 4, 2) := by decide +kernel
theorem dL_law_182 : decode cL_law 182 = .ok (.iconst 2, 1) := by decide +kernel
theorem dL_law_183 : decode cL_law 183 = .ok (.iadd, 1) := by decide +kernel
theorem dL_law_184 : decode cL_law 184 = .ok (.iaload, 1) := by decide +kernel
theorem dL_law_185 : decode cL_law 185 = .ok (.invokevirtual 21, 3) := by decide +kernel
theorem dL_law_188 : decode cL_law 188 = .ok (.aload_n 2, 1) := by decide +kernel
theorem dL_law_189 : decode cL_law 189 = .ok (.aload_n 0, 1) := by decide +kernel
theorem dL_law_190 : decode cL_law 190 = .ok (.iload 4, 2) := by decide +kernel
theorem dL_law_192 : decode cL_law 192 = .ok (.iconst 1, 1) := by decide +kernel
theorem dL_law_193 : decode cL_law 193 = .ok (.iadd, 1) := by decide +kernel
theorem dL_law_194 : decode cL_law 194 = .ok (.iaload, 1) := by decide +kernel
theorem dL_law_195 : decode cL_law 195 = .ok (.aload_n 0, 1) := by decide +kernel
theorem dL_law_196 : decode cL_law 196 = .ok (.iload 4, 2) := by decide +kernel
theorem dL_law_198 : decode cL_law 198 = .ok (.iconst 2, 1) := by decide +kernel
theorem dL_law_199 : decode cL_law 199 = .ok (.iadd, 1) := by decide +kernel
theorem dL_law_200 : decode cL_law 200 = .ok (.iaload, 1) := by decide +kernel
theorem dL_law_201 : decode cL_law 201 = .ok (.invokevirtual 25, 3) := by decide +kernel
theorem dL_law_204 : decode cL_law 204 = .ok (.if_icmp .eq 963, 3) := by decide +kernel
theorem dL_law_207 : decode cL_law 207 = .ok (.iconst 0, 1) := by decide +kernel
theorem dL_law_208 : decode cL_law 208 = .ok (.ireturn, 1) := by decide +kernel
theorem dL_law_209 : decode cL_law 209 = .ok (.aload_n 1, 1) := by decide +kernel
theorem dL_law_210 : decode cL_law 210 = .ok (.aload_n 0, 1) := by decide +kernel
theorem dL_law_211 : decode cL_law 211 = .ok (.iload 4, 2) := by decide +kernel
theorem dL_law_213 : decode cL_law 213 = .ok (.iconst 1, 1) := by decide +kernel
theorem dL_law_214 : decode cL_law 214 = .ok (.iadd, 1) := by decide +kernel
theorem dL_law_215 : decode cL_law 215 = .ok (.iaload, 1) := by decide +kernel
theorem dL_law_216 : decode cL_law 216 = .ok (.aload_n 0, 1) := by decide +kernel
theorem dL_law_217 : decode cL_law 217 = .ok (.iload 4, 2) := by decide +kernel
theorem dL_law_219 : decode cL_law 219 = .ok (.iconst 2, 1) := by decide +kernel
theorem dL_law_220 : decode cL_law 220 = .ok (.iadd, 1) := by decide +kernel
theorem dL_law_221 : decode cL_law 221 = .ok (.iaload, 1) := by decide +kernel
theorem dL_law_222 : decode cL_law 222 = .ok (.invokevirtual 26, 3) := by decide +kernel
theorem dL_law_225 : decode cL_law 225 = .ok (.aload_n 2, 1) := by decide +kernel
theorem dL_law_226 : decode cL_law 226 = .ok (.aload_n 0, 1) := by decide +kernel
theorem dL_law_227 : decode cL_law 227 = .ok (.iload 4, 2) := by decide +kernel
theorem dL_law_229 : decode cL_law 229 = .ok (.iconst 1, 1) := by decide +kernel
theorem dL_law_230 : decode cL_law 230 = .ok (.iadd, 1) := by decide +kernel
theorem dL_law_231 : decode cL_law 231 = .ok (.iaload, 1) := by decide +kernel
theorem dL_law_232 : decode cL_law 232 = .ok (.aload_n 0, 1) := by decide +kernel
theorem dL_law_233 : decode cL_law 233 = .ok (.iload 4, 2) := by decide +kernel
theorem dL_law_235 : decode cL_law 235 = .ok (.iconst 2, 1) := by decide +kernel
theorem dL_law_236 : decode cL_law 236 = .ok (.iadd, 1) := by decide +kernel
theorem dL_law_237 : decode cL_law 237 = .ok (.iaload, 1) := by decide +kernel
theorem dL_law_238 : decode cL_law 238 = .ok (.invokevirtual 29, 3) := by decide +kernel
theorem dL_law_241 : decode cL_law 241 = .ok (.if_icmp .eq 926, 3) := by decide +kernel
theorem dL_law_244 : decode cL_law 244 = .ok (.iconst 0, 1) := by decide +kernel
theorem dL_law_245 : decode cL_law 245 = .ok (.ireturn, 1) := by decide +kernel
theorem dL_law_246 : decode cL_law 246 = .ok (.aload_n 1, 1) := by decide +kernel
theorem dL_law_247 : decode cL_law 247 = .ok (.aload_n 0, 1) := by decide +kernel
theorem dL_law_248 : decode cL_law 248 = .ok (.iload 4, 2) := by decide +kernel
theorem dL_law_250 : decode cL_law 250 = .ok (.iconst 1, 1) := by decide +kernel
theorem dL_law_251 : decode cL_law 251 = .ok (.iadd, 1) := by decide +kernel
theorem dL_law_252 : decode cL_law 252 = .ok (.iaload, 1) := by decide +kernel
theorem dL_law_253 : decode cL_law 253 = .ok (.aload_n 0, 1) := by decide +kernel
theorem dL_law_254 : decode cL_law 254 = .ok (.iload 4, 2) := by decide +kernel
theorem dL_law_256 : decode cL_law 256 = .ok (.iconst 2, 1) := by decide +kernel
theorem dL_law_257 : decode cL_law 257 = .ok (.iadd, 1) := by decide +kernel
theorem dL_law_258 : decode cL_law 258 = .ok (.iaload, 1) := by decide +kernel
theorem dL_law_259 : decode cL_law 259 = .ok (.invokevirtual 30, 3) := by decide +kernel
theorem dL_law_262 : decode cL_law 262 = .ok (.aload_n 2, 1) := by decide +kernel
theorem dL_law_263 : decode cL_law 263 = .ok (.aload_n 0, 1) := by decide +kernel
theorem dL_law_264 : decode cL_law 264 = .ok (.iload 4, 2) := by decide +kernel
theorem dL_law_266 : decode cL_law 266 = .ok (.iconst 1, 1) := by decide +kernel
theorem dL_law_267 : decode cL_law 267 = .ok (.iadd, 1) := by decide +kernel
theorem dL_law_268 : decode cL_law 268 = .ok (.iaload, 1) := by decide +kernel
theorem dL_law_269 : decode cL_law 269 = .ok (.aload_n 0, 1) := by decide +kernel
theorem dL_law_270 : decode cL_law 270 = .ok (.iload 4, 2) := by decide +kernel
theorem dL_law_272 : decode cL_law 272 = .ok (.iconst 2, 1) := by decide +kernel
theorem dL_law_273 : decode cL_law 273 = .ok (.iadd, 1) := by decide +kernel
theorem dL_law_274 : decode cL_law 274 = .ok (.iaload, 1) := by decide +kernel
theorem dL_law_275 : decode cL_law 275 = .ok (.invokevirtual 33, 3) := by decide +kernel
theorem dL_law_278 : decode cL_law 278 = .ok (.if_icmp .eq 889, 3) := by decide +kernel
theorem dL_law_281 : decode cL_law 281 = .ok (.iconst 0, 1) := by decide +kernel
theorem dL_law_282 : decode cL_law 282 = .ok (.ireturn, 1) := by decide +kernel
theorem dL_law_283 : decode cL_law 283 = .ok (.aload_n 1, 1) := by decide +kernel
theorem dL_law_284 : decode cL_law 284 = .ok (.aload_n 0, 1) := by decide +kernel
theorem dL_law_285 : decode cL_law 285 = .ok (.iload 4, 2) := by decide +kernel
theorem dL_law_287 : decode cL_law 287 = .ok (.iconst 1, 1) := by decide +kernel
theorem dL_law_288 : decode cL_law 288 = .ok (.iadd, 1) := by decide +kernel
theorem dL_law_289 : decode cL_law 289 = .ok (.iaload, 1) := by decide +kernel
theorem dL_law_290 : decode cL_law 290 = .ok (.aload_n 0, 1) := by decide +kernel
theorem dL_law_291 : decode cL_law 291 = .ok (.iload 4, 2) := by decide +kernel
theorem dL_law_293 : decode cL_law 293 = .ok (.iconst 2, 1) := by decide +kernel
theorem dL_law_294 : decode cL_law 294 = .ok (.iadd, 1) := by decide +kernel
theorem dL_law_295 : decode cL_law 295 = .ok (.iaload, 1) := by decide +kernel
theorem dL_law_296 : decode cL_law 296 = .ok (.invokevirtual 34, 3) := by decide +kernel
theorem dL_law_299 : decode cL_law 299 = .ok (.aload_n 2, 1) := by decide +kernel
theorem dL_law_300 : decode cL_law 300 = .ok (.aload_n 0, 1) := by decide +kernel
theorem dL_law_301 : decode cL_law 301 = .ok (.iload 4, 2) := by decide +kernel
theorem dL_law_303 : decode cL_law 303 = .ok (.iconst 1, 1) := by decide +kernel
theorem dL_law_304 : decode cL_law 304 = .ok (.iadd, 1) := by decide +kernel
theorem dL_law_305 : decode cL_law 305 = .ok (.iaload, 1) := by decide +kernel
theorem dL_law_306 : decode cL_law 306 = .ok (.aload_n 0, 1) := by decide +kernel
theorem dL_law_307 : decode cL_law 307 = .ok (.iload 4, 2) := by decide +kernel
theorem dL_law_309 : decode cL_law 309 = .ok (.iconst 2, 1) := by decide +kernel
theorem dL_law_310 : decode cL_law 310 = .ok (.iadd, 1) := by decide +kernel
theorem dL_law_311 : decode cL_law 311 = .ok (.iaload, 1) := by decide +kernel
theorem dL_law_312 : decode cL_law 312 = .ok (.invokevirtual 37, 3) := by decide +kernel
theorem dL_law_315 : decode cL_law 315 = .ok (.if_icmp .eq 852, 3) := by decide +kernel
theorem dL_law_318 : decode cL_law 318 = .ok (.iconst 0, 1) := by decide +kernel
theorem dL_law_319 : decode cL_law 319 = .ok (.ireturn, 1) := by decide +kernel
theorem dL_law_320 : decode cL_law 320 = .ok (.aload_n 1, 1) := by decide +kernel
theorem dL_law_321 : decode cL_law 321 = .ok (.aload_n 0, 1) := by decide +kernel
theorem dL_law_322 : decode cL_law 322 = .ok (.iload 4, 2) := by decide +kernel
theorem dL_law_324 : decode cL_law 324 = .ok (.iconst 1, 1) := by decide +kernel
theorem dL_law_325 : decode cL_law 325 = .ok (.iadd, 1) := by decide +kernel
theorem dL_law_326 : decode cL_law 326 = .ok (.iaload, 1) := by decide +kernel
theorem dL_law_327 : decode cL_law 327 = .ok (.aload_n 0, 1) := by decide +kernel
theorem dL_law_328 : decode cL_law 328 = .ok (.iload 4, 2) := by decide +kernel
theorem dL_law_330 : decode cL_law 330 = .ok (.iconst 2, 1) := by decide +kernel
theorem dL_law_331 : decode cL_law 331 = .ok (.iadd, 1) := by decide +kernel
theorem dL_law_332 : decode cL_law 332 = .ok (.iaload, 1) := by decide +kernel
theorem dL_law_333 : decode cL_law 333 = .ok (.aload_n 0, 1) := by decide +kernel
theorem dL_law_334 : decode cL_law 334 = .ok (.iload 4, 2) := by decide +kernel
theorem dL_law_336 : decode cL_law 336 = .ok (.iconst 3, 1) := by decide +kernel
theorem dL_law_337 : decode cL_law 337 = .ok (.iadd, 1) := by decide +kernel
theorem dL_law_338 : decode cL_law 338 = .ok (.iaload, 1) := by decide +kernel
theorem dL_law_339 : decode cL_law 339 = .ok (.invokevirtual 38, 3) := by decide +kernel
theorem dL_law_342 : decode cL_law 342 = .ok (.aload_n 2, 1) := by decide +kernel
theorem dL_law_343 : decode cL_law 343 = .ok (.aload_n 0, 1) := by decide +kernel
theorem dL_law_344 : decode cL_law 344 = .ok (.iload 4, 2) := by decide +kernel
theorem dL_law_346 : decode cL_law 346 = .ok (.iconst 1, 1) := by decide +kernel
theorem dL_law_347 : decode cL_law 347 = .ok (.iadd, 1) := by decide +kernel
theorem dL_law_348 : decode cL_law 348 = .ok (.iaload, 1) := by decide +kernel
theorem dL_law_349 : decode cL_law 349 = .ok (.aload_n 0, 1) := by decide +kernel
theorem dL_law_350 : decode cL_law 350 = .ok (.iload 4, 2) := by decide +kernel
theorem dL_law_352 : decode cL_law 352 = .ok (.iconst 2, 1) := by decide +kernel
theorem dL_law_353 : decode cL_law 353 = .ok (.iadd, 1) := by decide +kernel
theorem dL_law_354 : decode cL_law 354 = .ok (.iaload, 1) := by decide +kernel
theorem dL_law_355 : decode cL_law 355 = .ok (.aload_n 0, 1) := by decide +kernel
theorem dL_law_356 : decode cL_law 356 = .ok (.iload 4, 2) := by decide +kernel
theorem dL_law_358 : decode cL_law 358 = .ok (.iconst 3, 1) := by decide +kernel
theorem dL_law_359 : decode cL_law 359 = .ok (.iadd, 1) := by decide +kernel
theorem dL_law_360 : decode cL_law 360 = .ok (.iaload, 1) := by decide +kernel
theorem dL_law_361 : decode cL_law 361 = .ok (.invokevirtual 42, 3) := by decide +kernel
theorem dL_law_364 : decode cL_law 364 = .ok (.if_icmp .eq 803, 3) := by decide +kernel
theorem dL_law_367 : decode cL_law 367 = .ok (.iconst 0, 1) := by decide +kernel
theorem dL_law_368 : decode cL_law 368 = .ok (.ireturn, 1) := by decide +kernel
theorem dL_law_369 : decode cL_law 369 = .ok (.aload_n 1, 1) := by decide +kernel
theorem dL_law_370 : decode cL_law 370 = .ok (.aload_n 0, 1) := by decide +kernel
theorem dL_law_371 : decode cL_law 371 = .ok (.iload 4, 2) := by decide +kernel
theorem dL_law_373 : decode cL_law 373 = .ok (.iconst 1, 1) := by decide +kernel
theorem dL_law_374 : decode cL_law 374 = .ok (.iadd, 1) := by decide +kernel
theorem dL_law_375 : decode cL_law 375 = .ok (.iaload, 1) := by decide +kernel
theorem dL_law_376 : decode cL_law 376 = .ok (.aload_n 0, 1) := by decide +kernel
theorem dL_law_377 : decode cL_law 377 = .ok (.iload 4, 2) := by decide +kernel
theorem dL_law_379 : decode cL_law 379 = .ok (.iconst 2, 1) := by decide +kernel
theorem dL_law_380 : decode cL_law 380 = .ok (.iadd, 1) := by decide +kernel
theorem dL_law_381 : decode cL_law 381 = .ok (.iaload, 1) := by decide +kernel
theorem dL_law_382 : decode cL_law 382 = .ok (.aload_n 0, 1) := by decide +kernel
theorem dL_law_383 : decode cL_law 383 = .ok (.iload 4, 2) := by decide +kernel
theorem dL_law_385 : decode cL_law 385 = .ok (.iconst 3, 1) := by decide +kernel
theorem dL_law_386 : decode cL_law 386 = .ok (.iadd, 1) := by decide +kernel
theorem dL_law_387 : decode cL_law 387 = .ok (.iaload, 1) := by decide +kernel
theorem dL_law_388 : decode cL_law 388 = .ok (.aload_n 0, 1) := by decide +kernel
theorem dL_law_389 : decode cL_law 389 = .ok (.iload 4, 2) := by decide +kernel
theorem dL_law_391 : decode cL_law 391 = .ok (.iconst 4, 1) := by decide +kernel
theorem dL_law_392 : decode cL_law 392 = .ok (.iadd, 1) := by decide +kernel
theorem dL_law_393 : decode cL_law 393 = .ok (.iaload, 1) := by decide +kernel
theorem dL_law_394 : decode cL_law 394 = .ok (.invokevirtual 43, 3) := by decide +kernel
theorem dL_law_397 : decode cL_law 397 = .ok (.aload_n 2, 1) := by decide +kernel
theorem dL_law_398 : decode cL_law 398 = .ok (.aload_n 0, 1) := by decide +kernel
theorem dL_law_399 : decode cL_law 399 = .ok (.iload 4, 2) := by decide +kernel
theorem dL_law_401 : decode cL_law 401 = .ok (.iconst 1, 1) := by decide +kernel
theorem dL_law_402 : decode cL_law 402 = .ok (.iadd, 1) := by decide +kernel
theorem dL_law_403 : decode cL_law 403 = .ok (.iaload, 1) := by decide +kernel
theorem dL_law_404 : decode cL_law 404 = .ok (.aload_n 0, 1) := by decide +kernel
theorem dL_law_405 : decode cL_law 405 = .ok (.iload 4, 2) := by decide +kernel
theorem dL_law_407 : decode cL_law 407 = .ok (.iconst 2, 1) := by decide +kernel
theorem dL_law_408 : decode cL_law 408 = .ok (.iadd, 1) := by decide +kernel
theorem dL_law_409 : decode cL_law 409 = .ok (.iaload, 1) := by decide +kernel
theorem dL_law_410 : decode cL_law 410 = .ok (.aload_n 0, 1) := by decide +kernel
theorem dL_law_411 : decode cL_law 411 = .ok (.iload 4, 2) := by decide +kernel
theorem dL_law_413 : decode cL_law 413 = .ok (.iconst 3, 1) := by decide +kernel
theorem dL_law_414 : decode cL_law 414 = .ok (.iadd, 1) := by decide +kernel
theorem dL_law_415 : decode cL_law 415 = .ok (.iaload, 1) := by decide +kernel
theorem dL_law_416 : decode cL_law 416 = .ok (.aload_n 0, 1) := by decide +kernel
theorem dL_law_417 : decode cL_law 417 = .ok (.iload 4, 2) := by decide +kernel
theorem dL_law_419 : decode cL_law 419 = .ok (.iconst 4, 1) := by decide +kernel
theorem dL_law_420 : decode cL_law 420 = .ok (.iadd, 1) := by decide +kernel
theorem dL_law_421 : decode cL_law 421 = .ok (.iaload, 1) := by decide +kernel
theorem dL_law_422 : decode cL_law 422 = .ok (.invokevirtual 47, 3) := by decide +kernel
theorem dL_law_425 : decode cL_law 425 = .ok (.if_icmp .eq 742, 3) := by decide +kernel
theorem dL_law_428 : decode cL_law 428 = .ok (.iconst 0, 1) := by decide +kernel
theorem dL_law_429 : decode cL_law 429 = .ok (.ireturn, 1) := by decide +kernel
theorem dL_law_430 : decode cL_law 430 = .ok (.aload_n 1, 1) := by decide +kernel
theorem dL_law_431 : decode cL_law 431 = .ok (.aload_n 0, 1) := by decide +kernel
theorem dL_law_432 : decode cL_law 432 = .ok (.iload 4, 2) := by decide +kernel
theorem dL_law_434 : decode cL_law 434 = .ok (.iconst 1, 1) := by decide +kernel
theorem dL_law_435 : decode cL_law 435 = .ok (.iadd, 1) := by decide +kernel
theorem dL_law_436 : decode cL_law 436 = .ok (.iaload, 1) := by decide +kernel
theorem dL_law_437 : decode cL_law 437 = .ok (.aload_n 0, 1) := by decide +kernel
theorem dL_law_438 : decode cL_law 438 = .ok (.iload 4, 2) := by decide +kernel
theorem dL_law_440 : decode cL_law 440 = .ok (.iconst 2, 1) := by decide +kernel
theorem dL_law_441 : decode cL_law 441 = .ok (.iadd, 1) := by decide +kernel
theorem dL_law_442 : decode cL_law 442 = .ok (.iaload, 1) := by decide +kernel
theorem dL_law_443 : decode cL_law 443 = .ok (.aload_n 0, 1) := by decide +kernel
theorem dL_law_444 : decode cL_law 444 = .ok (.iload 4, 2) := by decide +kernel
theorem dL_law_446 : decode cL_law 446 = .ok (.iconst 3, 1) := by decide +kernel
theorem dL_law_447 : decode cL_law 447 = .ok (.iadd, 1) := by decide +kernel
theorem dL_law_448 : decode cL_law 448 = .ok (.iaload, 1) := by decide +kernel
theorem dL_law_449 : decode cL_law 449 = .ok (.invokevirtual 48, 3) := by decide +kernel
theorem dL_law_452 : decode cL_law 452 = .ok (.aload_n 2, 1) := by decide +kernel
theorem dL_law_453 : decode cL_law 453 = .ok (.aload_n 0, 1) := by decide +kernel
theorem dL_law_454 : decode cL_law 454 = .ok (.iload 4, 2) := by decide +kernel
theorem dL_law_456 : decode cL_law 456 = .ok (.iconst 1, 1) := by decide +kernel
theorem dL_law_457 : decode cL_law 457 = .ok (.iadd, 1) := by decide +kernel
theorem dL_law_458 : decode cL_law 458 = .ok (.iaload, 1) := by decide +kernel
theorem dL_law_459 : decode cL_law 459 = .ok (.aload_n 0, 1) := by decide +kernel
theorem dL_law_460 : decode cL_law 460 = .ok (.iload 4, 2) := by decide +kernel
theorem dL_law_462 : decode cL_law 462 = .ok (.iconst 2, 1) := by decide +kernel
theorem dL_law_463 : decode cL_law 463 = .ok (.iadd, 1) := by decide +kernel
theorem dL_law_464 : decode cL_law 464 = .ok (.iaload, 1) := by decide +kernel
theorem dL_law_465 : decode cL_law 465 = .ok (.aload_n 0, 1) := by decide +kernel
theorem dL_law_466 : decode cL_law 466 = .ok (.iload 4, 2) := by decide +kernel
theorem dL_law_468 : decode cL_law 468 = .ok (.iconst 3, 1) := by decide +kernel
theorem dL_law_469 : decode cL_law 469 = .ok (.iadd, 1) := by decide +kernel
theorem dL_law_470 : decode cL_law 470 = .ok (.iaload, 1) := by decide +kernel
theorem dL_law_471 : decode cL_law 471 = .ok (.invokevirtual 51, 3) := by decide +kernel
theorem dL_law_474 : decode cL_law 474 = .ok (.if_icmp .eq 693, 3) := by decide +kernel
theorem dL_law_477 : decode cL_law 477 = .ok (.iconst 0, 1) := by decide +kernel
theorem dL_law_478 : decode cL_law 478 = .ok (.ireturn, 1) := by decide +kernel
theorem dL_law_479 : decode cL_law 479 = .ok (.aload_n 1, 1) := by decide +kernel
theorem dL_law_480 : decode cL_law 480 = .ok (.aload_n 0, 1) := by decide +kernel
theorem dL_law_481 : decode cL_law 481 = .ok (.iload 4, 2) := by decide +kernel
theorem dL_law_483 : decode cL_law 483 = .ok (.iconst 1, 1) := by decide +kernel
theorem dL_law_484 : decode cL_law 484 = .ok (.iadd, 1) := by decide +kernel
theorem dL_law_485 : decode cL_law 485 = .ok (.iaload, 1) := by decide +kernel
theorem dL_law_486 : decode cL_law 486 = .ok (.invokevirtual 52, 3) := by decide +kernel
theorem dL_law_489 : decode cL_law 489 = .ok (.aload_n 2, 1) := by decide +kernel
theorem dL_law_490 : decode cL_law 490 = .ok (.aload_n 0, 1) := by decide +kernel
theorem dL_law_491 : decode cL_law 491 = .ok (.iload 4, 2) := by decide +kernel
theorem dL_law_493 : decode cL_law 493 = .ok (.iconst 1, 1) := by decide +kernel
theorem dL_law_494 : decode cL_law 494 = .ok (.iadd, 1) := by decide +kernel
theorem dL_law_495 : decode cL_law 495 = .ok (.iaload, 1) := by decide +kernel
theorem dL_law_496 : decode cL_law 496 = .ok (.invokevirtual 56, 3) := by decide +kernel
theorem dL_law_499 : decode cL_law 499 = .ok (.if_icmp .eq 668, 3) := by decide +kernel
theorem dL_law_502 : decode cL_law 502 = .ok (.iconst 0, 1) := by decide +kernel
theorem dL_law_503 : decode cL_law 503 = .ok (.ireturn, 1) := by decide +kernel
theorem dL_law_504 : decode cL_law 504 = .ok (.aload_n 1, 1) := by decide +kernel
theorem dL_law_505 : decode cL_law 505 = .ok (.aload_n 0, 1) := by decide +kernel
theorem dL_law_506 : decode cL_law 506 = .ok (.iload 4, 2) := by decide +kernel
theorem dL_law_508 : decode cL_law 508 = .ok (.iconst 1, 1) := by decide +kernel
theorem dL_law_509 : decode cL_law 509 = .ok (.iadd, 1) := by decide +kernel
theorem dL_law_510 : decode cL_law 510 = .ok (.iaload, 1) := by decide +kernel
theorem dL_law_511 : decode cL_law 511 = .ok (.invokevirtual 57, 3) := by decide +kernel
theorem dL_law_514 : decode cL_law 514 = .ok (.aload_n 2, 1) := by decide +kernel
theorem dL_law_515 : decode cL_law 515 = .ok (.aload_n 0, 1) := by decide +kernel
theorem dL_law_516 : decode cL_law 516 = .ok (.iload 4, 2) := by decide +kernel
theorem dL_law_518 : decode cL_law 518 = .ok (.iconst 1, 1) := by decide +kernel
theorem dL_law_519 : decode cL_law 519 = .ok (.iadd, 1) := by decide +kernel
theorem dL_law_520 : decode cL_law 520 = .ok (.iaload, 1) := by decide +kernel
theorem dL_law_521 : decode cL_law 521 = .ok (.invokevirtual 60, 3) := by decide +kernel
theorem dL_law_524 : decode cL_law 524 = .ok (.if_icmp .eq 643, 3) := by decide +kernel
theorem dL_law_527 : decode cL_law 527 = .ok (.iconst 0, 1) := by decide +kernel
theorem dL_law_528 : decode cL_law 528 = .ok (.ireturn, 1) := by decide +kernel
theorem dL_law_529 : decode cL_law 529 = .ok (.aload_n 1, 1) := by decide +kernel
theorem dL_law_530 : decode cL_law 530 = .ok (.aload_n 0, 1) := by decide +kernel
theorem dL_law_531 : decode cL_law 531 = .ok (.iload 4, 2) := by decide +kernel
theorem dL_law_533 : decode cL_law 533 = .ok (.iconst 1, 1) := by decide +kernel
theorem dL_law_534 : decode cL_law 534 = .ok (.iadd, 1) := by decide +kernel
theorem dL_law_535 : decode cL_law 535 = .ok (.iaload, 1) := by decide +kernel
theorem dL_law_536 : decode cL_law 536 = .ok (.invokevirtual 61, 3) := by decide +kernel
theorem dL_law_539 : decode cL_law 539 = .ok (.aload_n 2, 1) := by decide +kernel
theorem dL_law_540 : decode cL_law 540 = .ok (.aload_n 0, 1) := by decide +kernel
theorem dL_law_541 : decode cL_law 541 = .ok (.iload 4, 2) := by decide +kernel
theorem dL_law_543 : decode cL_law 543 = .ok (.iconst 1, 1) := by decide +kernel
theorem dL_law_544 : decode cL_law 544 = .ok (.iadd, 1) := by decide +kernel
theorem dL_law_545 : decode cL_law 545 = .ok (.iaload, 1) := by decide +kernel
theorem dL_law_546 : decode cL_law 546 = .ok (.invokevirtual 64, 3) := by decide +kernel
theorem dL_law_549 : decode cL_law 549 = .ok (.if_icmp .eq 618, 3) := by decide +kernel
theorem dL_law_552 : decode cL_law 552 = .ok (.iconst 0, 1) := by decide +kernel
theorem dL_law_553 : decode cL_law 553 = .ok (.ireturn, 1) := by decide +kernel
theorem dL_law_554 : decode cL_law 554 = .ok (.aload_n 1, 1) := by decide +kernel
theorem dL_law_555 : decode cL_law 555 = .ok (.invokevirtual 65, 3) := by decide +kernel
theorem dL_law_558 : decode cL_law 558 = .ok (.aload_n 2, 1) := by decide +kernel
theorem dL_law_559 : decode cL_law 559 = .ok (.invokevirtual 69, 3) := by decide +kernel
theorem dL_law_562 : decode cL_law 562 = .ok (.if_icmp .eq 605, 3) := by decide +kernel
theorem dL_law_565 : decode cL_law 565 = .ok (.iconst 0, 1) := by decide +kernel
theorem dL_law_566 : decode cL_law 566 = .ok (.ireturn, 1) := by decide +kernel
theorem dL_law_567 : decode cL_law 567 = .ok (.aload_n 1, 1) := by decide +kernel
theorem dL_law_568 : decode cL_law 568 = .ok (.aload_n 0, 1) := by decide +kernel
theorem dL_law_569 : decode cL_law 569 = .ok (.iload 4, 2) := by decide +kernel
theorem dL_law_571 : decode cL_law 571 = .ok (.iconst 1, 1) := by decide +kernel
theorem dL_law_572 : decode cL_law 572 = .ok (.iadd, 1) := by decide +kernel
theorem dL_law_573 : decode cL_law 573 = .ok (.iaload, 1) := by decide +kernel
theorem dL_law_574 : decode cL_law 574 = .ok (.aload_n 0, 1) := by decide +kernel
theorem dL_law_575 : decode cL_law 575 = .ok (.iload 4, 2) := by decide +kernel
theorem dL_law_577 : decode cL_law 577 = .ok (.iconst 2, 1) := by decide +kernel
theorem dL_law_578 : decode cL_law 578 = .ok (.iadd, 1) := by decide +kernel
theorem dL_law_579 : decode cL_law 579 = .ok (.iaload, 1) := by decide +kernel
theorem dL_law_580 : decode cL_law 580 = .ok (.invokevirtual 70, 3) := by decide +kernel
theorem dL_law_583 : decode cL_law 583 = .ok (.aload_n 2, 1) := by decide +kernel
theorem dL_law_584 : decode cL_law 584 = .ok (.aload_n 0, 1) := by decide +kernel
theorem dL_law_585 : decode cL_law 585 = .ok (.iload 4, 2) := by decide +kernel
theorem dL_law_587 : decode cL_law 587 = .ok (.iconst 1, 1) := by decide +kernel
theorem dL_law_588 : decode cL_law 588 = .ok (.iadd, 1) := by decide +kernel
theorem dL_law_589 : decode cL_law 589 = .ok (.iaload, 1) := by decide +kernel
theorem dL_law_590 : decode cL_law 590 = .ok (.aload_n 0, 1) := by decide +kernel
theorem dL_law_591 : decode cL_law 591 = .ok (.iload 4, 2) := by decide +kernel
theorem dL_law_593 : decode cL_law 593 = .ok (.iconst 2, 1) := by decide +kernel
theorem dL_law_594 : decode cL_law 594 = .ok (.iadd, 1) := by decide +kernel
theorem dL_law_595 : decode cL_law 595 = .ok (.iaload, 1) := by decide +kernel
theorem dL_law_596 : decode cL_law 596 = .ok (.invokevirtual 73, 3) := by decide +kernel
theorem dL_law_599 : decode cL_law 599 = .ok (.if_icmp .eq 568, 3) := by decide +kernel
theorem dL_law_602 : decode cL_law 602 = .ok (.iconst 0, 1) := by decide +kernel
theorem dL_law_603 : decode cL_law 603 = .ok (.ireturn, 1) := by decide +kernel
theorem dL_law_604 : decode cL_law 604 = .ok (.aload_n 1, 1) := by decide +kernel
theorem dL_law_605 : decode cL_law 605 = .ok (.aload_n 0, 1) := by decide +kernel
theorem dL_law_606 : decode cL_law 606 = .ok (.iload 4, 2) := by decide +kernel
theorem dL_law_608 : decode cL_law 608 = .ok (.iconst 1, 1) := by decide +kernel
theorem dL_law_609 : decode cL_law 609 = .ok (.iadd, 1) := by decide +kernel
theorem dL_law_610 : decode cL_law 610 = .ok (.iaload, 1) := by decide +kernel
theorem dL_law_611 : decode cL_law 611 = .ok (.invokevirtual 74, 3) := by decide +kernel
theorem dL_law_614 : decode cL_law 614 = .ok (.aload_n 2, 1) := by decide +kernel
theorem dL_law_615 : decode cL_law 615 = .ok (.aload_n 0, 1) := by decide +kernel
theorem dL_law_616 : decode cL_law 616 = .ok (.iload 4, 2) := by decide +kernel
theorem dL_law_618 : decode cL_law 618 = .ok (.iconst 1, 1) := by decide +kernel
theorem dL_law_619 : decode cL_law 619 = .ok (.iadd, 1) := by decide +kernel
theorem dL_law_620 : decode cL_law 620 = .ok (.iaload, 1) := by decide +kernel
theorem dL_law_621 : decode cL_law 621 = .ok (.invokevirtual 77, 3) := by decide +kernel
theorem dL_law_624 : decode cL_law 624 = .ok (.if_icmp .eq 543, 3) := by decide +kernel
theorem dL_law_627 : decode cL_law 627 = .ok (.iconst 0, 1) := by decide +kernel
theorem dL_law_628 : decode cL_law 628 = .ok (.ireturn, 1) := by decide +kernel
theorem dL_law_629 : decode cL_law 629 = .ok (.aload_n 1, 1) := by decide +kernel
theorem dL_law_630 : decode cL_law 630 = .ok (.aload_n 0, 1) := by decide +kernel
theorem dL_law_631 : decode cL_law 631 = .ok (.iload 4, 2) := by decide +kernel
theorem dL_law_633 : decode cL_law 633 = .ok (.iconst 1, 1) := by decide +kernel
theorem dL_law_634 : decode cL_law 634 = .ok (.iadd, 1) := by decide +kernel
theorem dL_law_635 : decode cL_law 635 = .ok (.iaload, 1) := by decide +kernel
theorem dL_law_636 : decode cL_law 636 = .ok (.aload_n 0, 1) := by decide +kernel
theorem dL_law_637 : decode cL_law 637 = .ok (.iload 4, 2) := by decide +kernel
theorem dL_law_639 : decode cL_law 639 = .ok (.iconst 2, 1) := by decide +kernel
theorem dL_law_640 : decode cL_law 640 = .ok (.iadd, 1) := by decide +kernel
theorem dL_law_641 : decode cL_law 641 = .ok (.iaload, 1) := by decide +kernel
theorem dL_law_642 : decode cL_law 642 = .ok (.invokevirtual 78, 3) := by decide +kernel
theorem dL_law_645 : decode cL_law 645 = .ok (.aload_n 2, 1) := by decide +kernel
theorem dL_law_646 : decode cL_law 646 = .ok (.aload_n 0, 1) := by decide +kernel
theorem dL_law_647 : decode cL_law 647 = .ok (.iload 4, 2) := by decide +kernel
theorem dL_law_649 : decode cL_law 649 = .ok (.iconst 1, 1) := by decide +kernel
theorem dL_law_650 : decode cL_law 650 = .ok (.iadd, 1) := by decide +kernel
theorem dL_law_651 : decode cL_law 651 = .ok (.iaload, 1) := by decide +kernel
theorem dL_law_652 : decode cL_law 652 = .ok (.aload_n 0, 1) := by decide +kernel
theorem dL_law_653 : decode cL_law 653 = .ok (.iload 4, 2) := by decide +kernel
theorem dL_law_655 : decode cL_law 655 = .ok (.iconst 2, 1) := by decide +kernel
theorem dL_law_656 : decode cL_law 656 = .ok (.iadd, 1) := by decide +kernel
theorem dL_law_657 : decode cL_law 657 = .ok (.iaload, 1) := by decide +kernel
theorem dL_law_658 : decode cL_law 658 = .ok (.invokevirtual 81, 3) := by decide +kernel
theorem dL_law_661 : decode cL_law 661 = .ok (.if_icmp .eq 506, 3) := by decide +kernel
theorem dL_law_664 : decode cL_law 664 = .ok (.iconst 0, 1) := by decide +kernel
theorem dL_law_665 : decode cL_law 665 = .ok (.ireturn, 1) := by decide +kernel
theorem dL_law_666 : decode cL_law 666 = .ok (.aload_n 1, 1) := by decide +kernel
theorem dL_law_667 : decode cL_law 667 = .ok (.aload_n 0, 1) := by decide +kernel
theorem dL_law_668 : decode cL_law 668 = .ok (.iload 4, 2) := by decide +kernel
theorem dL_law_670 : decode cL_law 670 = .ok (.iconst 1, 1) := by decide +kernel
theorem dL_law_671 : decode cL_law 671 = .ok (.iadd, 1) := by decide +kernel
theorem dL_law_672 : decode cL_law 672 = .ok (.iaload, 1) := by decide +kernel
theorem dL_law_673 : decode cL_law 673 = .ok (.invokevirtual 82, 3) := by decide +kernel
theorem dL_law_676 : decode cL_law 676 = .ok (.aload_n 2, 1) := by decide +kernel
theorem dL_law_677 : decode cL_law 677 = .ok (.aload_n 0, 1) := by decide +kernel
theorem dL_law_678 : decode cL_law 678 = .ok (.iload 4, 2) := by decide +kernel
theorem dL_law_680 : decode cL_law 680 = .ok (.iconst 1, 1) := by decide +kernel
theorem dL_law_681 : decode cL_law 681 = .ok (.iadd, 1) := by decide +kernel
theorem dL_law_682 : decode cL_law 682 = .ok (.iaload, 1) := by decide +kernel
theorem dL_law_683 : decode cL_law 683 = .ok (.invokevirtual 85, 3) := by decide +kernel
theorem dL_law_686 : decode cL_law 686 = .ok (.if_icmp .eq 481, 3) := by decide +kernel
theorem dL_law_689 : decode cL_law 689 = .ok (.iconst 0, 1) := by decide +kernel
theorem dL_law_690 : decode cL_law 690 = .ok (.ireturn, 1) := by decide +kernel
theorem dL_law_691 : decode cL_law 691 = .ok (.aload_n 1, 1) := by decide +kernel
theorem dL_law_692 : decode cL_law 692 = .ok (.aload_n 0, 1) := by decide +kernel
theorem dL_law_693 : decode cL_law 693 = .ok (.iload 4, 2) := by decide +kernel
theorem dL_law_695 : decode cL_law 695 = .ok (.iconst 1, 1) := by decide +kernel
theorem dL_law_696 : decode cL_law 696 = .ok (.iadd, 1) := by decide +kernel
theorem dL_law_697 : decode cL_law 697 = .ok (.iaload, 1) := by decide +kernel
theorem dL_law_698 : decode cL_law 698 = .ok (.invokevirtual 86, 3) := by decide +kernel
theorem dL_law_701 : decode cL_law 701 = .ok (.aload_n 2, 1) := by decide +kernel
theorem dL_law_702 : decode cL_law 702 = .ok (.aload_n 0, 1) := by decide +kernel
theorem dL_law_703 : decode cL_law 703 = .ok (.iload 4, 2) := by decide +kernel
theorem dL_law_705 : decode cL_law 705 = .ok (.iconst 1, 1) := by decide +kernel
theorem dL_law_706 : decode cL_law 706 = .ok (.iadd, 1) := by decide +kernel
theorem dL_law_707 : decode cL_law 707 = .ok (.iaload, 1) := by decide +kernel
theorem dL_law_708 : decode cL_law 708 = .ok (.invokevirtual 89, 3) := by decide +kernel
theorem dL_law_711 : decode cL_law 711 = .ok (.if_icmp .eq 456, 3) := by decide +kernel
theorem dL_law_714 : decode cL_law 714 = .ok (.iconst 0, 1) := by decide +kernel
theorem dL_law_715 : decode cL_law 715 = .ok (.ireturn, 1) := by decide +kernel
theorem dL_law_716 : decode cL_law 716 = .ok (.aload_n 1, 1) := by decide +kernel
theorem dL_law_717 : decode cL_law 717 = .ok (.aload_n 0, 1) := by decide +kernel
theorem dL_law_718 : decode cL_law 718 = .ok (.iload 4, 2) := by decide +kernel
theorem dL_law_720 : decode cL_law 720 = .ok (.iconst 1, 1) := by decide +kernel
theorem dL_law_721 : decode cL_law 721 = .ok (.iadd, 1) := by decide +kernel
theorem dL_law_722 : decode cL_law 722 = .ok (.iaload, 1) := by decide +kernel
theorem dL_law_723 : decode cL_law 723 = .ok (.aload_n 0, 1) := by decide +kernel
theorem dL_law_724 : decode cL_law 724 = .ok (.iload 4, 2) := by decide +kernel
theorem dL_law_726 : decode cL_law 726 = .ok (.iconst 2, 1) := by decide +kernel
theorem dL_law_727 : decode cL_law 727 = .ok (.iadd, 1) := by decide +kernel
theorem dL_law_728 : decode cL_law 728 = .ok (.iaload, 1) := by decide +kernel
theorem dL_law_729 : decode cL_law 729 = .ok (.invokevirtual 90, 3) := by decide +kernel
theorem dL_law_732 : decode cL_law 732 = .ok (.aload_n 2, 1) := by decide +kernel
theorem dL_law_733 : decode cL_law 733 = .ok (.aload_n 0, 1) := by decide +kernel
theorem dL_law_734 : decode cL_law 734 = .ok (.iload 4, 2) := by decide +kernel
theorem dL_law_736 : decode cL_law 736 = .ok (.iconst 1, 1) := by decide +kernel
theorem dL_law_737 : decode cL_law 737 = .ok (.iadd, 1) := by decide +kernel
theorem dL_law_738 : decode cL_law 738 = .ok (.iaload, 1) := by decide +kernel
theorem dL_law_739 : decode cL_law 739 = .ok (.aload_n 0, 1) := by decide +kernel
theorem dL_law_740 : decode cL_law 740 = .ok (.iload 4, 2) := by decide +kernel
theorem dL_law_742 : decode cL_law 742 = .ok (.iconst 2, 1) := by decide +kernel
theorem dL_law_743 : decode cL_law 743 = .ok (.iadd, 1) := by decide +kernel
theorem dL_law_744 : decode cL_law 744 = .ok (.iaload, 1) := by decide +kernel
theorem dL_law_745 : decode cL_law 745 = .ok (.invokevirtual 93, 3) := by decide +kernel
theorem dL_law_748 : decode cL_law 748 = .ok (.if_icmp .eq 419, 3) := by decide +kernel
theorem dL_law_751 : decode cL_law 751 = .ok (.iconst 0, 1) := by decide +kernel
theorem dL_law_752 : decode cL_law 752 = .ok (.ireturn, 1) := by decide +kernel
theorem dL_law_753 : decode cL_law 753 = .ok (.aload_n 1, 1) := by decide +kernel
theorem dL_law_754 : decode cL_law 754 = .ok (.aload_n 0, 1) := by decide +kernel
theorem dL_law_755 : decode cL_law 755 = .ok (.iload 4, 2) := by decide +kernel
theorem dL_law_757 : decode cL_law 757 = .ok (.iconst 1, 1) := by decide +kernel
theorem dL_law_758 : decode cL_law 758 = .ok (.iadd, 1) := by decide +kernel
theorem dL_law_759 : decode cL_law 759 = .ok (.iaload, 1) := by decide +kernel
theorem dL_law_760 : decode cL_law 760 = .ok (.aload_n 0, 1) := by decide +kernel
theorem dL_law_761 : decode cL_law 761 = .ok (.iload 4, 2) := by decide +kernel
theorem dL_law_763 : decode cL_law 763 = .ok (.iconst 2, 1) := by decide +kernel
theorem dL_law_764 : decode cL_law 764 = .ok (.iadd, 1) := by decide +kernel
theorem dL_law_765 : decode cL_law 765 = .ok (.iaload, 1) := by decide +kernel
theorem dL_law_766 : decode cL_law 766 = .ok (.invokevirtual 94, 3) := by decide +kernel
theorem dL_law_769 : decode cL_law 769 = .ok (.aload_n 2, 1) := by decide +kernel
theorem dL_law_770 : decode cL_law 770 = .ok (.aload_n 0, 1) := by decide +kernel
theorem dL_law_771 : decode cL_law 771 = .ok (.iload 4, 2) := by decide +kernel
theorem dL_law_773 : decode cL_law 773 = .ok (.iconst 1, 1) := by decide +kernel
theorem dL_law_774 : decode cL_law 774 = .ok (.iadd, 1) := by decide +kernel
theorem dL_law_775 : decode cL_law 775 = .ok (.iaload, 1) := by decide +kernel
theorem dL_law_776 : decode cL_law 776 = .ok (.aload_n 0, 1) := by decide +kernel
theorem dL_law_777 : decode cL_law 777 = .ok (.iload 4, 2) := by decide +kernel
theorem dL_law_779 : decode cL_law 779 = .ok (.iconst 2, 1) := by decide +kernel
theorem dL_law_780 : decode cL_law 780 = .ok (.iadd, 1) := by decide +kernel
theorem dL_law_781 : decode cL_law 781 = .ok (.iaload, 1) := by decide +kernel
theorem dL_law_782 : decode cL_law 782 = .ok (.invokevirtual 97, 3) := by decide +kernel
theorem dL_law_785 : decode cL_law 785 = .ok (.if_icmp .eq 382, 3) := by decide +kernel
theorem dL_law_788 : decode cL_law 788 = .ok (.iconst 0, 1) := by decide +kernel
theorem dL_law_789 : decode cL_law 789 = .ok (.ireturn, 1) := by decide +kernel
theorem dL_law_790 : decode cL_law 790 = .ok (.aload_n 1, 1) := by decide +kernel
theorem dL_law_791 : decode cL_law 791 = .ok (.invokevirtual 98, 3) := by decide +kernel
theorem dL_law_794 : decode cL_law 794 = .ok (.aload_n 2, 1) := by decide +kernel
theorem dL_law_795 : decode cL_law 795 = .ok (.invokevirtual 101, 3) := by decide +kernel
theorem dL_law_798 : decode cL_law 798 = .ok (.if_icmp .eq 369, 3) := by decide +kernel
theorem dL_law_801 : decode cL_law 801 = .ok (.iconst 0, 1) := by decide +kernel
theorem dL_law_802 : decode cL_law 802 = .ok (.ireturn, 1) := by decide +kernel
theorem dL_law_803 : decode cL_law 803 = .ok (.aload_n 1, 1) := by decide +kernel
theorem dL_law_804 : decode cL_law 804 = .ok (.invokevirtual 102, 3) := by decide +kernel
theorem dL_law_807 : decode cL_law 807 = .ok (.aload_n 2, 1) := by decide +kernel
theorem dL_law_808 : decode cL_law 808 = .ok (.invokevirtual 105, 3) := by decide +kernel
theorem dL_law_811 : decode cL_law 811 = .ok (.if_icmp .eq 356, 3) := by decide +kernel
theorem dL_law_814 : decode cL_law 814 = .ok (.iconst 0, 1) := by decide +kernel
theorem dL_law_815 : decode cL_law 815 = .ok (.ireturn, 1) := by decide +kernel
theorem dL_law_816 : decode cL_law 816 = .ok (.aload_n 1, 1) := by decide +kernel
theorem dL_law_817 : decode cL_law 817 = .ok (.aload_n 0, 1) := by decide +kernel
theorem dL_law_818 : decode cL_law 818 = .ok (.iload 4, 2) := by decide +kernel
theorem dL_law_820 : decode cL_law 820 = .ok (.iconst 1, 1) := by decide +kernel
theorem dL_law_821 : decode cL_law 821 = .ok (.iadd, 1) := by decide +kernel
theorem dL_law_822 : decode cL_law 822 = .ok (.iaload, 1) := by decide +kernel
theorem dL_law_823 : decode cL_law 823 = .ok (.invokevirtual 106, 3) := by decide +kernel
theorem dL_law_826 : decode cL_law 826 = .ok (.aload_n 2, 1) := by decide +kernel
theorem dL_law_827 : decode cL_law 827 = .ok (.aload_n 0, 1) := by decide +kernel
theorem dL_law_828 : decode cL_law 828 = .ok (.iload 4, 2) := by decide +kernel
theorem dL_law_830 : decode cL_law 830 = .ok (.iconst 1, 1) := by decide +kernel
theorem dL_law_831 : decode cL_law 831 = .ok (.iadd, 1) := by decide +kernel
theorem dL_law_832 : decode cL_law 832 = .ok (.iaload, 1) := by decide +kernel
theorem dL_law_833 : decode cL_law 833 = .ok (.invokevirtual 109, 3) := by decide +kernel
theorem dL_law_836 : decode cL_law 836 = .ok (.if_icmp .eq 331, 3) := by decide +kernel
theorem dL_law_839 : decode cL_law 839 = .ok (.iconst 0, 1) := by decide +kernel
theorem dL_law_840 : decode cL_law 840 = .ok (.ireturn, 1) := by decide +kernel
theorem dL_law_841 : decode cL_law 841 = .ok (.aload_n 1, 1) := by decide +kernel
theorem dL_law_842 : decode cL_law 842 = .ok (.invokevirtual 110, 3) := by decide +kernel
theorem dL_law_845 : decode cL_law 845 = .ok (.aload_n 2, 1) := by decide +kernel
theorem dL_law_846 : decode cL_law 846 = .ok (.invokevirtual 113, 3) := by decide +kernel
theorem dL_law_849 : decode cL_law 849 = .ok (.if_icmp .eq 318, 3) := by decide +kernel
theorem dL_law_852 : decode cL_law 852 = .ok (.iconst 0, 1) := by decide +kernel
theorem dL_law_853 : decode cL_law 853 = .ok (.ireturn, 1) := by decide +kernel
theorem dL_law_854 : decode cL_law 854 = .ok (.aload_n 1, 1) := by decide +kernel
theorem dL_law_855 : decode cL_law 855 = .ok (.aload_n 0, 1) := by decide +kernel
theorem dL_law_856 : decode cL_law 856 = .ok (.iload 4, 2) := by decide +kernel
theorem dL_law_858 : decode cL_law 858 = .ok (.iconst 1, 1) := by decide +kernel
theorem dL_law_859 : decode cL_law 859 = .ok (.iadd, 1) := by decide +kernel
theorem dL_law_860 : decode cL_law 860 = .ok (.iaload, 1) := by decide +kernel
theorem dL_law_861 : decode cL_law 861 = .ok (.invokevirtual 114, 3) := by decide +kernel
theorem dL_law_864 : decode cL_law 864 = .ok (.aload_n 2, 1) := by decide +kernel
theorem dL_law_865 : decode cL_law 865 = .ok (.aload_n 0, 1) := by decide +kernel
theorem dL_law_866 : decode cL_law 866 = .ok (.iload 4, 2) := by decide +kernel
theorem dL_law_868 : decode cL_law 868 = .ok (.iconst 1, 1) := by decide +kernel
theorem dL_law_869 : decode cL_law 869 = .ok (.iadd, 1) := by decide +kernel
theorem dL_law_870 : decode cL_law 870 = .ok (.iaload, 1) := by decide +kernel
theorem dL_law_871 : decode cL_law 871 = .ok (.invokevirtual 117, 3) := by decide +kernel
theorem dL_law_874 : decode cL_law 874 = .ok (.if_icmp .eq 293, 3) := by decide +kernel
theorem dL_law_877 : decode cL_law 877 = .ok (.iconst 0, 1) := by decide +kernel
theorem dL_law_878 : decode cL_law 878 = .ok (.ireturn, 1) := by decide +kernel
theorem dL_law_879 : decode cL_law 879 = .ok (.aload_n 1, 1) := by decide +kernel
theorem dL_law_880 : decode cL_law 880 = .ok (.aload_n 0, 1) := by decide +kernel
theorem dL_law_881 : decode cL_law 881 = .ok (.iload 4, 2) := by decide +kernel
theorem dL_law_883 : decode cL_law 883 = .ok (.iconst 1, 1) := by decide +kernel
theorem dL_law_884 : decode cL_law 884 = .ok (.iadd, 1) := by decide +kernel
theorem dL_law_885 : decode cL_law 885 = .ok (.iaload, 1) := by decide +kernel
theorem dL_law_886 : decode cL_law 886 = .ok (.aload_n 0, 1) := by decide +kernel
theorem dL_law_887 : decode cL_law 887 = .ok (.iload 4, 2) := by decide +kernel
theorem dL_law_889 : decode cL_law 889 = .ok (.iconst 2, 1) := by decide +kernel
theorem dL_law_890 : decode cL_law 890 = .ok (.iadd, 1) := by decide +kernel
theorem dL_law_891 : decode cL_law 891 = .ok (.iaload, 1) := by decide +kernel
theorem dL_law_892 : decode cL_law 892 = .ok (.aload_n 0, 1) := by decide +kernel
theorem dL_law_893 : decode cL_law 893 = .ok (.iload 4, 2) := by decide +kernel
theorem dL_law_895 : decode cL_law 895 = .ok (.iconst 3, 1) := by decide +kernel
theorem dL_law_896 : decode cL_law 896 = .ok (.iadd, 1) := by decide +kernel
theorem dL_law_897 : decode cL_law 897 = .ok (.iaload, 1) := by decide +kernel
theorem dL_law_898 : decode cL_law 898 = .ok (.invokevirtual 118, 3) := by decide +kernel
theorem dL_law_901 : decode cL_law 901 = .ok (.aload_n 2, 1) := by decide +kernel
theorem dL_law_902 : decode cL_law 902 = .ok (.aload_n 0, 1) := by decide +kernel
theorem dL_law_903 : decode cL_law 903 = .ok (.iload 4, 2) := by decide +kernel
theorem dL_law_905 : decode cL_law 905 = .ok (.iconst 1, 1) := by decide +kernel
theorem dL_law_906 : decode cL_law 906 = .ok (.iadd, 1) := by decide +kernel
theorem dL_law_907 : decode cL_law 907 = .ok (.iaload, 1) := by decide +kernel
theorem dL_law_908 : decode cL_law 908 = .ok (.aload_n 0, 1) := by decide +kernel
theorem dL_law_909 : decode cL_law 909 = .ok (.iload 4, 2) := by decide +kernel
theorem dL_law_911 : decode cL_law 911 = .ok (.iconst 2, 1) := by decide +kernel
theorem dL_law_912 : decode cL_law 912 = .ok (.iadd, 1) := by decide +kernel
theorem dL_law_913 : decode cL_law 913 = .ok (.iaload, 1) := by decide +kernel
theorem dL_law_914 : decode cL_law 914 = .ok (.aload_n 0, 1) := by decide +kernel
theorem dL_law_915 : decode cL_law 915 = .ok (.iload 4, 2) := by decide +kernel
theorem dL_law_917 : decode cL_law 917 = .ok (.iconst 3, 1) := by decide +kernel
theorem dL_law_918 : decode cL_law 918 = .ok (.iadd, 1) := by decide +kernel
theorem dL_law_919 : decode cL_law 919 = .ok (.iaload, 1) := by decide +kernel
theorem dL_law_920 : decode cL_law 920 = .ok (.invokevirtual 121, 3) := by decide +kernel
theorem dL_law_923 : decode cL_law 923 = .ok (.if_icmp .eq 244, 3) := by decide +kernel
theorem dL_law_926 : decode cL_law 926 = .ok (.iconst 0, 1) := by decide +kernel
theorem dL_law_927 : decode cL_law 927 = .ok (.ireturn, 1) := by decide +kernel
theorem dL_law_928 : decode cL_law 928 = .ok (.aload_n 1, 1) := by decide +kernel
theorem dL_law_929 : decode cL_law 929 = .ok (.aload_n 0, 1) := by decide +kernel
theorem dL_law_930 : decode cL_law 930 = .ok (.iload 4, 2) := by decide +kernel
theorem dL_law_932 : decode cL_law 932 = .ok (.iconst 1, 1) := by decide +kernel
theorem dL_law_933 : decode cL_law 933 = .ok (.iadd, 1) := by decide +kernel
theorem dL_law_934 : decode cL_law 934 = .ok (.iaload, 1) := by decide +kernel
theorem dL_law_935 : decode cL_law 935 = .ok (.aload_n 0, 1) := by decide +kernel
theorem dL_law_936 : decode cL_law 936 = .ok (.iload 4, 2) := by decide +kernel
theorem dL_law_938 : decode cL_law 938 = .ok (.iconst 2, 1) := by decide +kernel
theorem dL_law_939 : decode cL_law 939 = .ok (.iadd, 1) := by decide +kernel
theorem dL_law_940 : decode cL_law 940 = .ok (.iaload, 1) := by decide +kernel
theorem dL_law_941 : decode cL_law 941 = .ok (.aload_n 0, 1) := by decide +kernel
theorem dL_law_942 : decode cL_law 942 = .ok (.iload 4, 2) := by decide +kernel
theorem dL_law_944 : decode cL_law 944 = .ok (.iconst 3, 1) := by decide +kernel
theorem dL_law_945 : decode cL_law 945 = .ok (.iadd, 1) := by decide +kernel
theorem dL_law_946 : decode cL_law 946 = .ok (.iaload, 1) := by decide +kernel
theorem dL_law_947 : decode cL_law 947 = .ok (.invokevirtual 122, 3) := by decide +kernel
theorem dL_law_950 : decode cL_law 950 = .ok (.aload_n 2, 1) := by decide +kernel
theorem dL_law_951 : decode cL_law 951 = .ok (.aload_n 0, 1) := by decide +kernel
theorem dL_law_952 : decode cL_law 952 = .ok (.iload 4, 2) := by decide +kernel
theorem dL_law_954 : decode cL_law 954 = .ok (.iconst 1, 1) := by decide +kernel
theorem dL_law_955 : decode cL_law 955 = .ok (.iadd, 1) := by decide +kernel
theorem dL_law_956 : decode cL_law 956 = .ok (.iaload, 1) := by decide +kernel
theorem dL_law_957 : decode cL_law 957 = .ok (.aload_n 0, 1) := by decide +kernel
theorem dL_law_958 : decode cL_law 958 = .ok (.iload 4, 2) := by decide +kernel
theorem dL_law_960 : decode cL_law 960 = .ok (.iconst 2, 1) := by decide +kernel
theorem dL_law_961 : decode cL_law 961 = .ok (.iadd, 1) := by decide +kernel
theorem dL_law_962 : decode cL_law 962 = .ok (.iaload, 1) := by decide +kernel
theorem dL_law_963 : decode cL_law 963 = .ok (.aload_n 0, 1) := by decide +kernel
theorem dL_law_964 : decode cL_law 964 = .ok (.iload 4, 2) := by decide +kernel
theorem dL_law_966 : decode cL_law 966 = .ok (.iconst 3, 1) := by decide +kernel
theorem dL_law_967 : decode cL_law 967 = .ok (.iadd, 1) := by decide +kernel
theorem dL_law_968 : decode cL_law 968 = .ok (.iaload, 1) := by decide +kernel
theorem dL_law_969 : decode cL_law 969 = .ok (.invokevirtual 125, 3) := by decide +kernel
theorem dL_law_972 : decode cL_law 972 = .ok (.if_icmp .eq 195, 3) := by decide +kernel
theorem dL_law_975 : decode cL_law 975 = .ok (.iconst 0, 1) := by decide +kernel
theorem dL_law_976 : decode cL_law 976 = .ok (.ireturn, 1) := by decide +kernel
theorem dL_law_977 : decode cL_law 977 = .ok (.aload_n 1, 1) := by decide +kernel
theorem dL_law_978 : decode cL_law 978 = .ok (.aload_n 0, 1) := by decide +kernel
theorem dL_law_979 : decode cL_law 979 = .ok (.iload 4, 2) := by decide +kernel
theorem dL_law_981 : decode cL_law 981 = .ok (.iconst 1, 1) := by decide +kernel
theorem dL_law_982 : decode cL_law 982 = .ok (.iadd, 1) := by decide +kernel
theorem dL_law_983 : decode cL_law 983 = .ok (.iaload, 1) := by decide +kernel
theorem dL_law_984 : decode cL_law 984 = .ok (.aload_n 0, 1) := by decide +kernel
theorem dL_law_985 : decode cL_law 985 = .ok (.iload 4, 2) := by decide +kernel
theorem dL_law_987 : decode cL_law 987 = .ok (.iconst 2, 1) := by decide +kernel
theorem dL_law_988 : decode cL_law 988 = .ok (.iadd, 1) := by decide +kernel
theorem dL_law_989 : decode cL_law 989 = .ok (.iaload, 1) := by decide +kernel
theorem dL_law_990 : decode cL_law 990 = .ok (.aload_n 3, 1) := by decide +kernel
theorem dL_law_991 : decode cL_law 991 = .ok (.invokestatic 126, 3) := by decide +kernel
theorem dL_law_994 : decode cL_law 994 = .ok (.istore 5, 2) := by decide +kernel
theorem dL_law_996 : decode cL_law 996 = .ok (.aload_n 2, 1) := by decide +kernel
theorem dL_law_997 : decode cL_law 997 = .ok (.aload_n 0, 1) := by decide +kernel
theorem dL_law_998 : decode cL_law 998 = .ok (.iload 4, 2) := by decide +kernel
theorem dL_law_1000 : decode cL_law 1000 = .ok (.iconst 1, 1) := by decide +kernel
theorem dL_law_1001 : decode cL_law 1001 = .ok (.iadd, 1) := by decide +kernel
theorem dL_law_1002 : decode cL_law 1002 = .ok (.iaload, 1) := by decide +kernel
theorem dL_law_1003 : decode cL_law 1003 = .ok (.aload_n 0, 1) := by decide +kernel
theorem dL_law_1004 : decode cL_law 1004 = .ok (.iload 4, 2) := by decide +kernel
theorem dL_law_1006 : decode cL_law 1006 = .ok (.iconst 2, 1) := by decide +kernel
theorem dL_law_1007 : decode cL_law 1007 = .ok (.iadd, 1) := by decide +kernel
theorem dL_law_1008 : decode cL_law 1008 = .ok (.iaload, 1) := by decide +kernel
theorem dL_law_1009 : decode cL_law 1009 = .ok (.invokevirtual 131, 3) := by decide +kernel
theorem dL_law_1012 : decode cL_law 1012 = .ok (.lstore 6, 2) := by decide +kernel
theorem dL_law_1014 : decode cL_law 1014 = .ok (.aload_n 2, 1) := by decide +kernel
theorem dL_law_1015 : decode cL_law 1015 = .ok (.invokevirtual 132, 3) := by decide +kernel
theorem dL_law_1018 : decode cL_law 1018 = .ok (.iload 5, 2) := by decide +kernel
theorem dL_law_1020 : decode cL_law 1020 = .ok (.if_icmp .eq 5, 3) := by decide +kernel
theorem dL_law_1023 : decode cL_law 1023 = .ok (.iconst 0, 1) := by decide +kernel
theorem dL_law_1024 : decode cL_law 1024 = .ok (.ireturn, 1) := by decide +kernel
theorem dL_law_1025 : decode cL_law 1025 = .ok (.iload 5, 2) := by decide +kernel
theorem dL_law_1027 : decode cL_law 1027 = .ok (.ifCond .ne 14, 3) := by decide +kernel
theorem dL_law_1030 : decode cL_law 1030 = .ok (.aload_n 3, 1) := by decide +kernel
theorem dL_law_1031 : decode cL_law 1031 = .ok (.iconst 0, 1) := by decide +kernel
theorem dL_law_1032 : decode cL_law 1032 = .ok (.laload, 1) := by decide +kernel
theorem dL_law_1033 : decode cL_law 1033 = .ok (.lload 6, 2) := by decide +kernel
theorem dL_law_1035 : decode cL_law 1035 = .ok (.lcmp, 1) := by decide +kernel
theorem dL_law_1036 : decode cL_law 1036 = .ok (.ifCond .eq 5, 3) := by decide +kernel
theorem dL_law_1039 : decode cL_law 1039 = .ok (.iconst 0, 1) := by decide +kernel
theorem dL_law_1040 : decode cL_law 1040 = .ok (.ireturn, 1) := by decide +kernel
theorem dL_law_1041 : decode cL_law 1041 = .ok (.goto 126, 3) := by decide +kernel
theorem dL_law_1044 : decode cL_law 1044 = .ok (.aload_n 1, 1) := by decide +kernel
theorem dL_law_1045 : decode cL_law 1045 = .ok (.aload_n 0, 1) := by decide +kernel
theorem dL_law_1046 : decode cL_law 1046 = .ok (.iload 4, 2) := by decide +kernel
theorem dL_law_1048 : decode cL_law 1048 = .ok (.iconst 1, 1) := by decide +kernel
theorem dL_law_1049 : decode cL_law 1049 = .ok (.iadd, 1) := by decide +kernel
theorem dL_law_1050 : decode cL_law 1050 = .ok (.iaload, 1) := by decide +kernel
theorem dL_law_1051 : decode cL_law 1051 = .ok (.aload_n 0, 1) := by decide +kernel
theorem dL_law_1052 : decode cL_law 1052 = .ok (.iload 4, 2) := by decide +kernel
theorem dL_law_1054 : decode cL_law 1054 = .ok (.iconst 2, 1) := by decide +kernel
theorem dL_law_1055 : decode cL_law 1055 = .ok (.iadd, 1) := by decide +kernel
theorem dL_law_1056 : decode cL_law 1056 = .ok (.iaload, 1) := by decide +kernel
theorem dL_law_1057 : decode cL_law 1057 = .ok (.aload_n 0, 1) := by decide +kernel
theorem dL_law_1058 : decode cL_law 1058 = .ok (.iload 4, 2) := by decide +kernel
theorem dL_law_1060 : decode cL_law 1060 = .ok (.iconst 3, 1) := by decide +kernel
theorem dL_law_1061 : decode cL_law 1061 = .ok (.iadd, 1) := by decide +kernel
theorem dL_law_1062 : decode cL_law 1062 = .ok (.iaload, 1) := by decide +kernel
theorem dL_law_1063 : decode cL_law 1063 = .ok (.aload_n 0, 1) := by decide +kernel
theorem dL_law_1064 : decode cL_law 1064 = .ok (.iload 4, 2) := by decide +kernel
theorem dL_law_1066 : decode cL_law 1066 = .ok (.iconst 4, 1) := by decide +kernel
theorem dL_law_1067 : decode cL_law 1067 = .ok (.iadd, 1) := by decide +kernel
theorem dL_law_1068 : decode cL_law 1068 = .ok (.iaload, 1) := by decide +kernel
theorem dL_law_1069 : decode cL_law 1069 = .ok (.aload_n 0, 1) := by decide +kernel
theorem dL_law_1070 : decode cL_law 1070 = .ok (.iload 4, 2) := by decide +kernel
theorem dL_law_1072 : decode cL_law 1072 = .ok (.iconst 5, 1) := by decide +kernel
theorem dL_law_1073 : decode cL_law 1073 = .ok (.iadd, 1) := by decide +kernel
theorem dL_law_1074 : decode cL_law 1074 = .ok (.iaload, 1) := by decide +kernel
theorem dL_law_1075 : decode cL_law 1075 = .ok (.invokevirtual 135, 3) := by decide +kernel
theorem dL_law_1078 : decode cL_law 1078 = .ok (.aload_n 2, 1) := by decide +kernel
theorem dL_law_1079 : decode cL_law 1079 = .ok (.aload_n 0, 1) := by decide +kernel
theorem dL_law_1080 : decode cL_law 1080 = .ok (.iload 4, 2) := by decide +kernel
theorem dL_law_1082 : decode cL_law 1082 = .ok (.iconst 1, 1) := by decide +kernel
theorem dL_law_1083 : decode cL_law 1083 = .ok (.iadd, 1) := by decide +kernel
theorem dL_law_1084 : decode cL_law 1084 = .ok (.iaload, 1) := by decide +kernel
theorem dL_law_1085 : decode cL_law 1085 = .ok (.aload_n 0, 1) := by decide +kernel
theorem dL_law_1086 : decode cL_law 1086 = .ok (.iload 4, 2) := by decide +kernel
theorem dL_law_1088 : decode cL_law 1088 = .ok (.iconst 2, 1) := by decide +kernel
theorem dL_law_1089 : decode cL_law 1089 = .ok (.iadd, 1) := by decide +kernel
theorem dL_law_1090 : decode cL_law 1090 = .ok (.iaload, 1) := by decide +kernel
theorem dL_law_1091 : decode cL_law 1091 = .ok (.aload_n 0, 1) := by decide +kernel
theorem dL_law_1092 : decode cL_law 1092 = .ok (.iload 4, 2) := by decide +kernel
theorem dL_law_1094 : decode cL_law 1094 = .ok (.iconst 3, 1) := by decide +kernel
theorem dL_law_1095 : decode cL_law 1095 = .ok (.iadd, 1) := by decide +kernel
theorem dL_law_1096 : decode cL_law 1096 = .ok (.iaload, 1) := by decide +kernel
theorem dL_law_1097 : decode cL_law 1097 = .ok (.aload_n 0, 1) := by decide +kernel
theorem dL_law_1098 : decode cL_law 1098 = .ok (.iload 4, 2) := by decide +kernel
theorem dL_law_1100 : decode cL_law 1100 = .ok (.iconst 4, 1) := by decide +kernel
theorem dL_law_1101 : decode cL_law 1101 = .ok (.iadd, 1) := by decide +kernel
theorem dL_law_1102 : decode cL_law 1102 = .ok (.iaload, 1) := by decide +kernel
theorem dL_law_1103 : decode cL_law 1103 = .ok (.aload_n 0, 1) := by decide +kernel
theorem dL_law_1104 : decode cL_law 1104 = .ok (.iload 4, 2) := by decide +kernel
theorem dL_law_1106 : decode cL_law 1106 = .ok (.iconst 5, 1) := by decide +kernel
theorem dL_law_1107 : decode cL_law 1107 = .ok (.iadd, 1) := by decide +kernel
theorem dL_law_1108 : decode cL_law 1108 = .ok (.iaload, 1) := by decide +kernel
theorem dL_law_1109 : decode cL_law 1109 = .ok (.invokevirtual 139, 3) := by decide +kernel
theorem dL_law_1112 : decode cL_law 1112 = .ok (.if_icmp .eq 55, 3) := by decide +kernel
theorem dL_law_1115 : decode cL_law 1115 = .ok (.iconst 0, 1) := by decide +kernel
theorem dL_law_1116 : decode cL_law 1116 = .ok (.ireturn, 1) := by decide +kernel
theorem dL_law_1117 : decode cL_law 1117 = .ok (.aload_n 1, 1) := by decide +kernel
theorem dL_law_1118 : decode cL_law 1118 = .ok (.aload_n 0, 1) := by decide +kernel
theorem dL_law_1119 : decode cL_law 1119 = .ok (.iload 4, 2) := by decide +kernel
theorem dL_law_1121 : decode cL_law 1121 = .ok (.iconst 1, 1) := by decide +kernel
theorem dL_law_1122 : decode cL_law 1122 = .ok (.iadd, 1) := by decide +kernel
theorem dL_law_1123 : decode cL_law 1123 = .ok (.iaload, 1) := by decide +kernel
theorem dL_law_1124 : decode cL_law 1124 = .ok (.invokevirtual 140, 3) := by decide +kernel
theorem dL_law_1127 : decode cL_law 1127 = .ok (.aload_n 2, 1) := by decide +kernel
theorem dL_law_1128 : decode cL_law 1128 = .ok (.aload_n 0, 1) := by decide +kernel
theorem dL_law_1129 : decode cL_law 1129 = .ok (.iload 4, 2) := by decide +kernel
theorem dL_law_1131 : decode cL_law 1131 = .ok (.iconst 1, 1) := by decide +kernel
theorem dL_law_1132 : decode cL_law 1132 = .ok (.iadd, 1) := by decide +kernel
theorem dL_law_1133 : decode cL_law 1133 = .ok (.iaload, 1) := by decide +kernel
theorem dL_law_1134 : decode cL_law 1134 = .ok (.invokevirtual 143, 3) := by decide +kernel
theorem dL_law_1137 : decode cL_law 1137 = .ok (.if_icmp .eq 30, 3) := by decide +kernel
theorem dL_law_1140 : decode cL_law 1140 = .ok (.iconst 0, 1) := by decide +kernel
theorem dL_law_1141 : decode cL_law 1141 = .ok (.ireturn, 1) := by decide +kernel
theorem dL_law_1142 : decode cL_law 1142 = .ok (.aload_n 1, 1) := by decide +kernel
theorem dL_law_1143 : decode cL_law 1143 = .ok (.aload_n 0, 1) := by decide +kernel
theorem dL_law_1144 : decode cL_law 1144 = .ok (.iload 4, 2) := by decide +kernel
theorem dL_law_1146 : decode cL_law 1146 = .ok (.iconst 1, 1) := by decide +kernel
theorem dL_law_1147 : decode cL_law 1147 = .ok (.iadd, 1) := by decide +kernel
theorem dL_law_1148 : decode cL_law 1148 = .ok (.iaload, 1) := by decide +kernel
theorem dL_law_1149 : decode cL_law 1149 = .ok (.invokevirtual 144, 3) := by decide +kernel
theorem dL_law_1152 : decode cL_law 1152 = .ok (.aload_n 2, 1) := by decide +kernel
theorem dL_law_1153 : decode cL_law 1153 = .ok (.aload_n 0, 1) := by decide +kernel
theorem dL_law_1154 : decode cL_law 1154 = .ok (.iload 4, 2) := by decide +kernel
theorem dL_law_1156 : decode cL_law 1156 = .ok (.iconst 1, 1) := by decide +kernel
theorem dL_law_1157 : decode cL_law 1157 = .ok (.iadd, 1) := by decide +kernel
theorem dL_law_1158 : decode cL_law 1158 = .ok (.iaload, 1) := by decide +kernel
theorem dL_law_1159 : decode cL_law 1159 = .ok (.invokevirtual 147, 3) := by decide +kernel
theorem dL_law_1162 : decode cL_law 1162 = .ok (.if_icmp .eq 5, 3) := by decide +kernel
theorem dL_law_1165 : decode cL_law 1165 = .ok (.iconst 0, 1) := by decide +kernel
theorem dL_law_1166 : decode cL_law 1166 = .ok (.ireturn, 1) := by decide +kernel
theorem dL_law_1167 : decode cL_law 1167 = .ok (.iinc 4 6, 3) := by decide +kernel
theorem dL_law_1170 : decode cL_law 1170 = .ok (.goto (-1147), 3) := by decide +kernel
theorem dL_law_1173 : decode cL_law 1173 = .ok (.iconst 1, 1) := by decide +kernel
theorem dL_law_1174 : decode cL_law 1174 = .ok (.ireturn, 1) := by decide +kernel
end
section
/-! ===== whole numbers for the machine's ints, names for its cells ===== -/
abbrev rng (x : Int) : Prop := -2147483648 ≤ x ∧ x ≤ 2147483647
def vI (x : Int) : Value := .int (Int32.ofInt x)
def vL (x : Int) : Value := .long (Int64.ofInt x)
def vR (ad : Nat → Nat) (r : Option Nat) : Value := va_rf (r.map ad)
def vS (ad : Nat → Nat) : Int ⊕ Option Nat → Value
  | .inl x => vI x
  | .inr r => vR ad r
theorem rg_t {x : Int} (h : rng x) : (Int32.ofInt x).toInt = x := Int32.toInt_ofInt_of_le (by omega) (by omega)
theorem rg_le {x y : Int} (hx : rng x) (hy : rng y) : Int32.ofInt x ≤ Int32.ofInt y ↔ x ≤ y := by rw [Int32.le_iff_toInt_le, rg_t hx, rg_t hy]
theorem rg_lt {x y : Int} (hx : rng x) (hy : rng y) : Int32.ofInt x < Int32.ofInt y ↔ x < y := by rw [Int32.lt_iff_toInt_lt, rg_t hx, rg_t hy]
theorem rg_eq {x y : Int} (hx : rng x) (hy : rng y) : Int32.ofInt x = Int32.ofInt y ↔ x = y := by rw [← Int32.toInt_inj, rg_t hx, rg_t hy]
theorem rg_cl {x : Int} (hx : rng x) : (Int32.ofInt x).toNatClampNeg = x.toNat := Int32.toNatClampNeg_ofInt_of_le (by omega) (by omega)
theorem rg_o (z : Int32) : rng z.toInt := by
  have h1 := z.le_toInt
  have h2 := z.toInt_lt
  omega
theorem rg_in {x : Int} {n : Nat} (hx : rng x) (h0 : 0 ≤ x) (h1 : x < n) : vp_in (Int32.ofInt x) n := by
  rw [vp_in_iff, rg_t hx]
  exact ⟨h0, h1⟩
def bAnd (x y : Int) : Int := (Int32.ofInt x &&& Int32.ofInt y).toInt
def bOr (x y : Int) : Int := (Int32.ofInt x ||| Int32.ofInt y).toInt
def bXor (x y : Int) : Int := (Int32.ofInt x ^^^ Int32.ofInt y).toInt
def bShl (x y : Int) : Int := (Int32.ofInt x <<< (Int32.ofInt y &&& 31)).toInt
def bShr (x y : Int) : Int := (Int32.ofInt x >>> (Int32.ofInt y &&& 31)).toInt
theorem rg_idiv {x y : Int} (hx : rng x) (hy : rng y) : Int32.ofInt (x.tdiv y) = Int32.ofInt x / Int32.ofInt y := by
  have h : Int32.minValue.toInt = -2147483648 := by decide
  have h' : Int32.maxValue.toInt = 2147483647 := by decide
  exact Int32.ofInt_tdiv (by omega) (by omega) (by omega) (by omega)
theorem rg_irem {x y : Int} (hx : rng x) (hy : rng y) : Int32.ofInt (x.tmod y) = Int32.ofInt x - Int32.ofInt x / Int32.ofInt y * Int32.ofInt y := by
  rw [← rg_idiv hx hy, ← Int32.ofInt_mul, ← Int32.ofInt_sub, Int.tmod_def]
  congr 1
  rw [Int.mul_comm]
theorem vS_cat (ad : Nat → Nat) (v : Int ⊕ Option Nat) : (vS ad v).category = 1 := by
  rcases v with x | r
  · rfl
  · cases r <;> rfl
/-! ===== the words of the tables, for every method the same ===== -/
def UW : List Cond := lw_tbl.filter goodWord
theorem uwT {w : Cond} (i : Nat) (h : tables_1[i]? = some w) (g : goodWord w = true) : w ∈ UW := List.mem_filter.mpr ⟨List.mem_append_right _ (List.mem_of_getElem? h), g⟩
theorem uwP {w : Cond} (i : Nat) (h : (k2_sels lw_privs)[i]? = some w) (g : goodWord w = true) : w ∈ UW := List.mem_filter.mpr ⟨List.mem_append_left _ (List.mem_of_getElem? h), g⟩
theorem uw_all (ws : List Cond) (ps : List Nat) (hp : ps.map (fun i => tables_1[i]?) = ws.map some) (hg : ws.all goodWord = true) : ∀ w ∈ ws, w ∈ UW := by
  intro w hw
  have h1 : some w ∈ ps.map (fun i => tables_1[i]?) := by rw [hp]; exact List.mem_map.mpr ⟨w, hw, rfl⟩
  obtain ⟨i, -, hi⟩ := List.mem_map.mp h1
  exact uwT i hi (List.all_eq_true.mp hg w hw)
theorem uw_good : GoodIn UW UW := fun _ hw => ⟨hw, good_of_word (List.mem_filter.mp hw).2⟩
theorem uw_in {y : MethodName} {cc : ByteArray} {n : Nat} {r : Option FieldType} (h : Cond.code y cc n r ∈ UW) : GoodIn UW (.code y cc n r :: UW) := fun w hw => by
  rcases List.mem_cons.mp hw with e | e
  · rw [e]; exact uw_good _ h
  · exact uw_good _ e
/-! ===== memory: ints S.1, changing references S.2; the fixed part V: how many cells, their types, lengths, final references ===== -/
abbrev Me : Type := (Nat → Nat → Int) × (Nat → Nat → Option Nat)
abbrev Vt : Type := Nat × (Nat → Nat) × (Nat → Nat) × (Nat → Nat → Option Nat)
def sI (S : Me) (a k : Nat) (x : Int) : Me := (fun b j => if b = a ∧ j = k then x else S.1 b j, S.2)
def sP (S : Me) (a k : Nat) (r : Option Nat) : Me := (S.1, fun b j => if b = a ∧ j = k then r else S.2 b j)
theorem sI_1 (S : Me) (a k : Nat) (x : Int) (b j : Nat) : (sI S a k x).1 b j = if b = a ∧ j = k then x else S.1 b j := rfl
theorem sI_2 (S : Me) (a k : Nat) (x : Int) : (sI S a k x).2 = S.2 := rfl
theorem sP_1 (S : Me) (a k : Nat) (r : Option Nat) : (sP S a k r).1 = S.1 := rfl
theorem sP_2 (S : Me) (a k : Nat) (r : Option Nat) (b j : Nat) : (sP S a k r).2 b j = if b = a ∧ j = k then r else S.2 b j := rfl
theorem nd_inj {l : List Nat} (h : l.Nodup) {a b x : Nat} (ha : l[a]? = some x) (hb : l[b]? = some x) : a = b := by
  obtain ⟨a1, a2⟩ := List.getElem?_eq_some_iff.mp ha
  obtain ⟨b1, b2⟩ := List.getElem?_eq_some_iff.mp hb
  rcases Nat.lt_trichotomy a b with q | q | q
  · exact absurd (a2.trans b2.symm) (List.pairwise_iff_getElem.mp h a b a1 b1 q)
  · exact q
  · exact absurd (b2.trans a2.symm) (List.pairwise_iff_getElem.mp h b a b1 a1 q)
/-- a class's fields: 0 an int, 1 a changing reference, 2 a final one, 3 a boolean; its place -/
def fl : Nat → List (Nat × Nat)
  | 0 => [(2, 0), (2, 1), (2, 2), (2, 3), (2, 4), (2, 5), (2, 6), (0, 7), (0, 8)]
  | 1 => [(0, 0), (0, 1), (0, 2), (0, 3), (0, 4), (0, 5), (0, 6), (0, 7), (1, 8), (1, 9), (0, 10)]
  | 2 => [(0, 11), (0, 0), (0, 1), (0, 2), (0, 3), (0, 4), (0, 5), (0, 6), (0, 7), (1, 8), (1, 9), (0, 10), (0, 12)]
  | 3 => [(2, 0), (2, 1)]
  | 4 => [(2, 0), (2, 1), (2, 2), (2, 3), (2, 4), (2, 5), (2, 6), (0, 7), (0, 8), (0, 9), (0, 10), (0, 11)]
  | 5 => [(0, 0), (0, 1), (0, 2), (0, 3), (0, 4), (0, 5), (0, 6), (0, 7), (1, 8), (1, 9), (0, 10)]
  | 6 => [(2, 0), (2, 1), (2, 2), (2, 3), (1, 4), (1, 5), (0, 6), (0, 7), (0, 8), (0, 9), (0, 10)]
  | 7 => [(1, 0), (1, 1), (3, 2)]
  | 8 => [(0, 11), (0, 0), (0, 1), (0, 2), (0, 3), (0, 4), (0, 5), (0, 6), (0, 7), (1, 8), (1, 9), (0, 10)]
  | 9 => [(0, 0), (0, 1), (0, 2), (0, 3), (0, 4), (0, 5), (0, 6), (0, 7), (1, 8), (1, 9), (0, 10), (0, 11)]
  | 10 => [(2, 0), (2, 1), (2, 2), (2, 3), (2, 4), (2, 5), (0, 6), (0, 7), (0, 8), (0, 9), (0, 10), (0, 11), (0, 12), (0, 13), (0, 14), (1, 15)]
  | 11 => [(0, 0), (2, 1), (0, 2), (0, 3), (0, 4), (0, 5), (0, 6), (0, 7), (0, 8), (0, 9), (0, 10), (2, 11), (2, 12), (0, 13), (0, 14), (2, 15), (2, 16), (2, 17), (2, 18), (2, 19), (2, 20), (2, 21), (2, 22), (2, 23), (0, 24), (0, 25), (0, 26), (2, 27), (2, 28), (2, 29), (0, 30), (2, 31), (2, 32), (2, 33), (2, 34), (2, 35), (2, 36), (0, 37), (2, 38), (0, 39), (0, 40), (0, 41), (0, 42), (2, 43), (2, 44), (2, 45), (2, 46), (2, 47), (2, 48), (2, 49)]
  | _ => []
theorem fl_nd : ∀ t, ((fl t).map (·.2)).Nodup := by
  intro t
  match t with
  | 0 => exact (by decide)
  | 1 => exact (by decide)
  | 2 => exact (by decide)
  | 3 => exact (by decide)
  | 4 => exact (by decide)
  | 5 => exact (by decide)
  | 6 => exact (by decide)
  | 7 => exact (by decide)
  | 8 => exact (by decide)
  | 9 => exact (by decide)
  | 10 => exact (by decide)
  | 11 => exact (by decide)
  | _ + 12 => exact List.nodup_nil
def fv (ad : Nat → Nat) (i : Nat → Int) (p f : Nat → Option Nat) (q : Nat × Nat) : Value := match q.1 with
  | 0 => vI (i q.2)
  | 1 => vR ad (p q.2)
  | 2 => vR ad (f q.2)
  | _ => vI (i q.2)
def cf (cy : ClassId × ClassId × ClassId) (ad : Nat → Nat) (t L : Nat) (i : Nat → Int) (p f : Nat → Option Nat) : va_E :=
  if t < 12 then .inr (t, (fl t).map (fv ad i p f))
  else if t = 12 then .inl (cy.1, L, .inl (fun j => Int32.ofInt (i j)))
  else if t = 13 then .inl (cy.2.1, L, .inr (.inr (.inr (.inr (fun j => (p j).map ad)))))
  else .inl (cy.2.2, L, .inr (.inr (.inr (.inr (fun j => (p j).map ad)))))
def wo (cy : ClassId × ClassId × ClassId) (ad : Nat → Nat) (V : Vt) (S : Me) : va_W := (List.range V.1).map (fun a => (ad a, cf cy ad (V.2.1 a) (V.2.2.1 a) (S.1 a) (S.2 a) (V.2.2.2 a)))
theorem wo_at {cy : ClassId × ClassId × ClassId} {ad : Nat → Nat} {V : Vt} {S : Me} {a : Nat} (h : a < V.1) : (wo cy ad V S)[a]? = some (ad a, cf cy ad (V.2.1 a) (V.2.2.1 a) (S.1 a) (S.2 a) (V.2.2.2 a)) := by
  simp [wo, h]
theorem wo_at' {cy : ClassId × ClassId × ClassId} {ad : Nat → Nat} {V : Vt} {S : Me} {a : Nat} {q : Nat × va_E} (h : (wo cy ad V S)[a]? = some q) : a < V.1 ∧ q = (ad a, cf cy ad (V.2.1 a) (V.2.2.1 a) (S.1 a) (S.2 a) (V.2.2.2 a)) := by
  have h1 : a < V.1 := by
    rcases Nat.lt_or_ge a V.1 with h2 | h2
    · exact h2
    · have : (wo cy ad V S)[a]? = none := by simp [wo, h2]
      rw [this] at h; cases h
  rw [wo_at h1] at h
  exact ⟨h1, (Option.some.inj h).symm⟩
theorem wo_set {cy : ClassId × ClassId × ClassId} {ad : Nat → Nat} {V : Vt} {S S' : Me} {a : Nat} {e : va_E} (ha : a < V.1) (h1 : ∀ b, b ≠ a → S'.1 b = S.1 b) (h2 : ∀ b, b ≠ a → S'.2 b = S.2 b) (he : cf cy ad (V.2.1 a) (V.2.2.1 a) (S'.1 a) (S'.2 a) (V.2.2.2 a) = e) : (wo cy ad V S).set a (ad a, e) = wo cy ad V S' := by
  apply List.ext_getElem?
  intro b
  rw [List.getElem?_set]
  by_cases hb : a = b
  · subst hb
    rw [if_pos rfl, if_pos (by simp [wo, ha]), wo_at ha, he]
  · rw [if_neg hb]
    rcases Nat.lt_or_ge b V.1 with hl | hl
    · rw [wo_at hl, wo_at hl, h1 b (Ne.symm hb), h2 b (Ne.symm hb)]
    · simp [wo, hl]
theorem fl_set {ad : Nat → Nat} {i i' : Nat → Int} {p p' f : Nat → Option Nat} {t k kd j : Nat} {v : Value} (hk : (fl t)[k]? = some (kd, j)) (hv : fv ad i' p' f (kd, j) = v) (hi : ∀ j', j' ≠ j → i' j' = i j') (hp : ∀ j', j' ≠ j → p' j' = p j') : ((fl t).map (fv ad i p f)).set k v = (fl t).map (fv ad i' p' f) := by
  apply List.ext_getElem?
  intro b
  rw [List.getElem?_set]
  by_cases hb : k = b
  · subst hb
    have hkl : k < (fl t).length := (List.getElem?_eq_some_iff.mp hk).1
    rw [if_pos rfl, List.getElem?_map, hk, if_pos (by simpa using hkl)]
    simp [hv]
  · rw [if_neg hb, List.getElem?_map, List.getElem?_map]
    cases hq : (fl t)[b]? with
    | none => rfl
    | some q =>
      obtain ⟨kq, jq⟩ := q
      have hne : jq ≠ j := by
        intro e
        subst e
        have hbl : b < (fl t).length := (List.getElem?_eq_some_iff.mp hq).1
        have hkl : k < (fl t).length := (List.getElem?_eq_some_iff.mp hk).1
        have h1 : ((fl t).map (·.2))[b]? = some jq := by rw [List.getElem?_map, hq]; rfl
        have h2 : ((fl t).map (·.2))[k]? = some jq := by rw [List.getElem?_map, hk]; rfl
        exact hb (nd_inj (fl_nd t) h2 h1)
      simp only [Option.map_some, fv]
      split <;> simp only [hi jq hne, hp jq hne]
theorem cf_o {cy : ClassId × ClassId × ClassId} {ad : Nat → Nat} {t L : Nat} {i : Nat → Int} {p f : Nat → Option Nat} (h : t < 12) : cf cy ad t L i p f = .inr (t, (fl t).map (fv ad i p f)) := by simp [cf, h]
theorem cf_i {cy : ClassId × ClassId × ClassId} {ad : Nat → Nat} {t L : Nat} {i : Nat → Int} {p f : Nat → Option Nat} (h : t = 12) : cf cy ad t L i p f = .inl (cy.1, L, .inl (fun j => Int32.ofInt (i j))) := by subst h; rfl
theorem cf_a {cy : ClassId × ClassId × ClassId} {ad : Nat → Nat} {t L : Nat} {i : Nat → Int} {p f : Nat → Option Nat} (h : t = 13) : cf cy ad t L i p f = .inl (cy.2.1, L, .inr (.inr (.inr (.inr (fun j => (p j).map ad))))) := by subst h; rfl
theorem cf_s {cy : ClassId × ClassId × ClassId} {ad : Nat → Nat} {t L : Nat} {i : Nat → Int} {p f : Nat → Option Nat} (h : t = 14) : cf cy ad t L i p f = .inl (cy.2.2, L, .inr (.inr (.inr (.inr (fun j => (p j).map ad))))) := by subst h; rfl
/-- the heap holds the memory -/
def Gx (D : va_G) (cy : ClassId × ClassId × ClassId) (ad : Nat → Nat) (V : Vt) (S : Me) (H : Heap) : Prop :=
  va_P D vwCl (wo cy ad V S) H ∧ (∀ i j, i < V.1 → j < V.1 → ad i = ad j → i = j) ∧ (∀ a k, rng (S.1 a k)) ∧ (∀ a k z, S.2 a k = some z → z < V.1) ∧ (∀ a k z, V.2.2.2 a k = some z → z < V.1) ∧ (∀ a, V.2.2.1 a ≤ 2147483647)
def RA (ad : Nat → Nat) (n sz : Nat) : Nat → Prop := fun q => (∃ k, k < n ∧ ad k = q) ∨ sz ≤ q
def tyl (cy : ClassId × ClassId × ClassId) : List (ClassId × FieldType) := [(cy.1, .int), (cy.2.1, .object "RowBank$Ask"), (cy.2.2, .object "RowBank$Shelf")]
/-- the heap holds the memory, which lies in A; nothing else has changed since H0 -/
def Gy (D : va_G) (cy : ClassId × ClassId × ClassId) (A : Nat → Prop) (H0 : Heap) (ad : Nat → Nat) (V : Vt) (S : Me) (H : Heap) (locs : List Loc) : Prop := Gx D cy ad V S H ∧ (∀ k, k < V.1 → A (ad k)) ∧ va_S A H0 H locs
theorem wo_D {cy : ClassId × ClassId × ClassId} {A : Nat → Prop} {ad : Nat → Nat} {V : Vt} {S : Me} (hi : ∀ i j, i < V.1 → j < V.1 → ad i = ad j → i = j) (hA : ∀ k, k < V.1 → A (ad k)) : va_D A (wo cy ad V S) := by
  refine ⟨fun i j p q hp hq e => ?_, fun k q hq => ?_⟩
  · obtain ⟨h1, rfl⟩ := wo_at' hp
    obtain ⟨h2, rfl⟩ := wo_at' hq
    exact hi i j h1 h2 e
  · obtain ⟨h1, rfl⟩ := wo_at' hq
    exact hA k h1
theorem Gy.D {D : va_G} {cy : ClassId × ClassId × ClassId} {A : Nat → Prop} {H0 : Heap} {ad : Nat → Nat} {V : Vt} {S : Me} {H : Heap} {locs : List Loc} (h : Gy D cy A H0 ad V S H locs) : va_D A (wo cy ad V S) := wo_D h.1.2.1 h.2.1
theorem Gy.r {D : va_G} {cy : ClassId × ClassId × ClassId} {A : Nat → Prop} {H0 : Heap} {ad : Nat → Nat} {V : Vt} {S : Me} {H : Heap} {locs : List Loc} (h : Gy D cy A H0 ad V S H locs) (a k : Nat) : rng (S.1 a k) := h.1.2.2.1 a k
theorem Gy.v {D : va_G} {cy : ClassId × ClassId × ClassId} {A : Nat → Prop} {H0 : Heap} {ad : Nat → Nat} {V : Vt} {S : Me} {H : Heap} {locs : List Loc} (h : Gy D cy A H0 ad V S H locs) (a k : Nat) : ∀ z, S.2 a k = some z → z < V.1 := h.1.2.2.2.1 a k
theorem Gy.f {D : va_G} {cy : ClassId × ClassId × ClassId} {A : Nat → Prop} {H0 : Heap} {ad : Nat → Nat} {V : Vt} {S : Me} {H : Heap} {locs : List Loc} (h : Gy D cy A H0 ad V S H locs) (a k : Nat) : ∀ z, V.2.2.2 a k = some z → z < V.1 := h.1.2.2.2.2.1 a k
theorem Gy.l {D : va_G} {cy : ClassId × ClassId × ClassId} {A : Nat → Prop} {H0 : Heap} {ad : Nat → Nat} {V : Vt} {S : Me} {H : Heap} {locs : List Loc} (h : Gy D cy A H0 ad V S H locs) (a : Nat) : rng (V.2.2.1 a : Int) := by
  have := h.1.2.2.2.2.2 a
  omega
/-- field k of class t: its kind, its place in the memory, its name in the tables -/
def FO (t k kd j : Nat) (dcl nm ds : String) (fin : Bool) (ty : FieldType) : Prop := ∃ (C : String) (T : u_T) (N : Nat) (ty0 : Nat → FieldType), vwCl[t]? = some (C, T, N) ∧ (∀ w ∈ u_ws C T N, w ∈ UW) ∧ (∀ k, k < N → parseFieldDescriptor (T k).2.2.1 = some (ty0 k)) ∧ (∀ a, a < N → ∀ b, b < N → a ≠ b → (T a).2.1 ≠ (T b).2.1) ∧ k < N ∧ T k = (dcl, nm, ds, fin) ∧ parseFieldDescriptor ds = some ty ∧ t < 12 ∧ (fl t)[k]? = some (kd, j)
/-- words of the tables that a call doesn't carry by itself -/
def NW : List Cond := [Cond.methodLinkNest RX11 22 yX1_init RX11, Cond.methodLinkNest RX11 29 yX4_init RX11, Cond.methodLinkNest RX11 36 yX7_init RX11, Cond.methodLinkNest RX11 88 yX8_init RX11, Cond.methodLinkNest RX1 59 yX5_forget RX11, Cond.declares (⟨RX0, "kind", "()I"⟩ : MethodName), Cond.castable RX2 RX0, Cond.castable RX3 RX0, Cond.castable RX6 RX0, Cond.castable RX9 RX0, Cond.castable RX10 RX0]
/-- what holds of the tables at every state -/
def Kx (D : va_G) (cy : ClassId × ClassId × ClassId) (U : State) : Prop := va_K D vwCl (tyl cy) U ∧ ∀ w ∈ NW, va_Nw w U
theorem Kx.same {D : va_G} {cy : ClassId × ClassId × ClassId} {u U : State} (h : u.vm = U.vm) (hK : Kx D cy u) : Kx D cy U := ⟨va_K.moved (by rw [h]; exact Vm.Alike.refl _) hK.1, fun w hw => va_Nw.same (by revert w; decide +kernel) h (hK.2 w hw)⟩
theorem Kx.warm {D : va_G} {cy : ClassId × ClassId × ClassId} {u U : State} (h : u.WarmedH U.vm) (hK : Kx D cy u) : Kx D cy U := by
  refine ⟨va_K.moved h.alike hK.1, fun w hw => ?_⟩
  have h9 := hK.2 w hw
  unfold NW at hw
  simp only [List.mem_cons, List.not_mem_nil, or_false] at hw
  rcases hw with rfl | rfl | rfl | rfl | rfl | rfl | rfl | rfl | rfl | rfl | rfl
  · exact va_Nw.warmM h h9
  · exact va_Nw.warmM h h9
  · exact va_Nw.warmM h h9
  · exact va_Nw.warmM h h9
  · exact va_Nw.warmM h h9
  · exact va_Nw.warmD h h9
  · exact va_Nw.warmC h h9
  · exact va_Nw.warmC h h9
  · exact va_Nw.warmC h h9
  · exact va_Nw.warmC h h9
  · exact va_Nw.warmC h h9
end
section
theorem uw_0 : Cond.initialized RL ∈ UW := uwT 0 (by decide +kernel) (by decide +kernel)
theorem uw_1 : Cond.initialized RX11 ∈ UW := uwT 1 (by decide +kernel) (by decide +kernel)
theorem uw_2 : Cond.initialized RX5 ∈ UW := uwT 2 (by decide +kernel) (by decide +kernel)
theorem uw_3 : Cond.initialized RJ7 ∈ UW := uwT 3 (by decide +kernel) (by decide +kernel)
theorem uw_4 : Cond.initialized RX1 ∈ UW := uwT 4 (by decide +kernel) (by decide +kernel)
theorem uw_5 : Cond.initialized RX4 ∈ UW := uwT 5 (by decide +kernel) (by decide +kernel)
theorem uw_6 : Cond.initialized RX7 ∈ UW := uwT 6 (by decide +kernel) (by decide +kernel)
theorem uw_7 : Cond.initialized RJ10 ∈ UW := uwT 7 (by decide +kernel) (by decide +kernel)
theorem uw_8 : Cond.initialized RX8 ∈ UW := uwT 8 (by decide +kernel) (by decide +kernel)
theorem uw_9 : Cond.initialized RX12 ∈ UW := uwT 9 (by decide +kernel) (by decide +kernel)
theorem uw_10 : Cond.initialized RX0 ∈ UW := uwT 10 (by decide +kernel) (by decide +kernel)
theorem uw_11 : Cond.initialized RX6 ∈ UW := uwT 11 (by decide +kernel) (by decide +kernel)
theorem uw_12 : Cond.initialized RX10 ∈ UW := uwT 12 (by decide +kernel) (by decide +kernel)
theorem uw_13 : Cond.initialized RX3 ∈ UW := uwT 13 (by decide +kernel) (by decide +kernel)
theorem uw_14 : Cond.initialized RX9 ∈ UW := uwT 14 (by decide +kernel) (by decide +kernel)
theorem uw_15 : Cond.initialized RX2 ∈ UW := uwT 15 (by decide +kernel) (by decide +kernel)
theorem uw_16 : Cond.initialized RJ9 ∈ UW := uwT 16 (by decide +kernel) (by decide +kernel)
theorem uw_17 : Cond.initialized "java/lang/Throwable" ∈ UW := uwT 17 (by decide +kernel) (by decide +kernel)
theorem uw_18 : Cond.initialized "java/lang/Exception" ∈ UW := uwT 18 (by decide +kernel) (by decide +kernel)
theorem uw_19 : Cond.initialized "java/lang/RuntimeException" ∈ UW := uwT 19 (by decide +kernel) (by decide +kernel)
theorem uw_20 : Cond.initialized "java/lang/IllegalArgumentException" ∈ UW := uwT 20 (by decide +kernel) (by decide +kernel)
theorem uw_21 : Cond.initialized "java/lang/IllegalStateException" ∈ UW := uwT 21 (by decide +kernel) (by decide +kernel)
theorem uw_22 : Cond.initialized "java/lang/UnsupportedOperationException" ∈ UW := uwT 22 (by decide +kernel) (by decide +kernel)
theorem uw_23 : Cond.classLink RL 8 RX11 ∈ UW := uwT 23 (by decide +kernel) (by decide +kernel)
theorem uw_24 : Cond.instantiable RX11 16 ∈ UW := uwT 24 (by decide +kernel) (by decide +kernel)
theorem uw_25 : Cond.methodLink RL 17 yX11_init ∈ UW := uwT 25 (by decide +kernel) (by decide +kernel)
theorem uw_26 : Cond.instanceMethod yX11_init ∈ UW := uwT 26 (by decide +kernel) (by decide +kernel)
theorem uw_27 : Cond.code yX11_init cX11_init 2 (Option.none : Option Jvm.ClassFile.FieldType) ∈ UW := uwT 27 (by decide +kernel) (by decide +kernel)
theorem uw_28 : Cond.methodLink RX11 1 (⟨"java/lang/Object", "<init>", "()V"⟩ : MethodName) ∈ UW := uwT 28 (by decide +kernel) (by decide +kernel)
theorem uw_29 : Cond.instanceMethod (⟨"java/lang/Object", "<init>", "()V"⟩ : MethodName) ∈ UW := uwT 29 (by decide +kernel) (by decide +kernel)
theorem uw_30 : Cond.code (⟨"java/lang/Object", "<init>", "()V"⟩ : MethodName) object_method_1_code 1 (Option.none : Option Jvm.ClassFile.FieldType) ∈ UW := uwT 30 (by decide +kernel) (by decide +kernel)
theorem uw_31 : Cond.classLink RX11 13 RX5 ∈ UW := uwT 31 (by decide +kernel) (by decide +kernel)
theorem uw_32 : Cond.instantiable RX5 12 ∈ UW := uwT 32 (by decide +kernel) (by decide +kernel)
theorem uw_33 : Cond.methodLink RX11 15 yX5_init ∈ UW := uwT 33 (by decide +kernel) (by decide +kernel)
theorem uw_34 : Cond.instanceMethod yX5_init ∈ UW := uwT 34 (by decide +kernel) (by decide +kernel)
theorem uw_35 : Cond.code yX5_init cX5_init 1 (Option.none : Option Jvm.ClassFile.FieldType) ∈ UW := uwT 35 (by decide +kernel) (by decide +kernel)
theorem uw_36 : Cond.methodLink RX5 3 (⟨"java/lang/Object", "<init>", "()V"⟩ : MethodName) ∈ UW := uwT 36 (by decide +kernel) (by decide +kernel)
theorem uw_37 : Cond.methodLink RX5 33 yX5_forget ∈ UW := uwT 37 (by decide +kernel) (by decide +kernel)
theorem uw_39 : Cond.instanceMethod yX5_forget ∈ UW := uwT 39 (by decide +kernel) (by decide +kernel)
theorem uw_40 : Cond.code yX5_forget cX5_forget 1 (Option.none : Option Jvm.ClassFile.FieldType) ∈ UW := uwT 40 (by decide +kernel) (by decide +kernel)
theorem uw_41 : Cond.methodLink RX5 36 yJ7_fill_53178 ∈ UW := uwT 41 (by decide +kernel) (by decide +kernel)
theorem uw_42 : Cond.static yJ7_fill_53178 ∈ UW := uwT 42 (by decide +kernel) (by decide +kernel)
theorem uw_43 : Cond.code yJ7_fill_53178 cJ7_fill_53178 4 (Option.none : Option Jvm.ClassFile.FieldType) ∈ UW := uwT 43 (by decide +kernel) (by decide +kernel)
theorem uw_44 : Cond.fieldLink RX5 9 "RowBank$Past" "opens" "[I" ∈ UW := uwT 44 (by decide +kernel) (by decide +kernel)
theorem uw_45 : Cond.fieldLink RX5 15 "RowBank$Past" "opensBeside" "[I" ∈ UW := uwT 45 (by decide +kernel) (by decide +kernel)
theorem uw_46 : Cond.fieldLink RX5 18 "RowBank$Past" "shuts" "[I" ∈ UW := uwT 46 (by decide +kernel) (by decide +kernel)
theorem uw_47 : Cond.fieldLink RX5 21 "RowBank$Past" "reads" "[I" ∈ UW := uwT 47 (by decide +kernel) (by decide +kernel)
theorem uw_48 : Cond.fieldLink RX5 24 "RowBank$Past" "writes" "[I" ∈ UW := uwT 48 (by decide +kernel) (by decide +kernel)
theorem uw_49 : Cond.fieldLink RX5 27 "RowBank$Past" "columnsOfGroups" "[I" ∈ UW := uwT 49 (by decide +kernel) (by decide +kernel)
theorem uw_50 : Cond.fieldLink RX5 30 "RowBank$Past" "fourOpens" "[I" ∈ UW := uwT 50 (by decide +kernel) (by decide +kernel)
theorem uw_51 : Cond.fieldLink RX5 42 "RowBank$Past" "opensInAll" "I" ∈ UW := uwT 51 (by decide +kernel) (by decide +kernel)
theorem uw_52 : Cond.fieldLink RX11 295 "RowBank$Past" "opensInAll" "I" ∈ UW := uwT 52 (by decide +kernel) (by decide +kernel)
theorem uw_53 : Cond.fieldLink RX5 46 "RowBank$Past" "anyShut" "I" ∈ UW := uwT 53 (by decide +kernel) (by decide +kernel)
theorem uw_54 : Cond.fieldLink RX5 49 "RowBank$Past" "anyRead" "I" ∈ UW := uwT 54 (by decide +kernel) (by decide +kernel)
theorem uw_55 : Cond.fieldLink RX5 52 "RowBank$Past" "anyWrite" "I" ∈ UW := uwT 55 (by decide +kernel) (by decide +kernel)
theorem uw_56 : Cond.fieldLink RX5 55 "RowBank$Past" "refreshed" "I" ∈ UW := uwT 56 (by decide +kernel) (by decide +kernel)
theorem uw_81 : Cond.superclass RX5 "java/lang/Object" ∈ UW := uwT 81 (by decide +kernel) (by decide +kernel)
theorem uw_83 : Cond.classLink RX11 20 RX1 ∈ UW := uwT 83 (by decide +kernel) (by decide +kernel)
theorem uw_84 : Cond.instantiable RX1 9 ∈ UW := uwT 84 (by decide +kernel) (by decide +kernel)
theorem uw_86 : Cond.instanceMethod yX1_init ∈ UW := uwT 86 (by decide +kernel) (by decide +kernel)
theorem uw_87 : Cond.code yX1_init cX1_init 1 (Option.none : Option Jvm.ClassFile.FieldType) ∈ UW := uwT 87 (by decide +kernel) (by decide +kernel)
theorem uw_88 : Cond.methodLink RX1 3 (⟨"java/lang/Object", "<init>", "()V"⟩ : MethodName) ∈ UW := uwT 88 (by decide +kernel) (by decide +kernel)
theorem uw_89 : Cond.classLink RX1 30 RX5 ∈ UW := uwT 89 (by decide +kernel) (by decide +kernel)
theorem uw_90 : Cond.methodLink RX1 32 yX5_init ∈ UW := uwT 90 (by decide +kernel) (by decide +kernel)
theorem uw_91 : Cond.fieldLink RX1 9 "RowBank$CommandLog" "ticks" "[I" ∈ UW := uwT 91 (by decide +kernel) (by decide +kernel)
theorem uw_92 : Cond.fieldLink RX11 259 "RowBank$CommandLog" "ticks" "[I" ∈ UW := uwT 92 (by decide +kernel) (by decide +kernel)
theorem uw_93 : Cond.fieldLink RX1 15 "RowBank$CommandLog" "forged" "[I" ∈ UW := uwT 93 (by decide +kernel) (by decide +kernel)
theorem uw_94 : Cond.fieldLink RX11 275 "RowBank$CommandLog" "forged" "[I" ∈ UW := uwT 94 (by decide +kernel) (by decide +kernel)
theorem uw_95 : Cond.fieldLink RX1 18 "RowBank$CommandLog" "which" "[I" ∈ UW := uwT 95 (by decide +kernel) (by decide +kernel)
theorem uw_96 : Cond.fieldLink RX11 262 "RowBank$CommandLog" "which" "[I" ∈ UW := uwT 96 (by decide +kernel) (by decide +kernel)
theorem uw_97 : Cond.fieldLink RX1 21 "RowBank$CommandLog" "banks" "[I" ∈ UW := uwT 97 (by decide +kernel) (by decide +kernel)
theorem uw_98 : Cond.fieldLink RX11 265 "RowBank$CommandLog" "banks" "[I" ∈ UW := uwT 98 (by decide +kernel) (by decide +kernel)
theorem uw_99 : Cond.fieldLink RX1 24 "RowBank$CommandLog" "wheres" "[I" ∈ UW := uwT 99 (by decide +kernel) (by decide +kernel)
theorem uw_100 : Cond.fieldLink RX11 268 "RowBank$CommandLog" "wheres" "[I" ∈ UW := uwT 100 (by decide +kernel) (by decide +kernel)
theorem uw_101 : Cond.fieldLink RX1 27 "RowBank$CommandLog" "asks" "[I" ∈ UW := uwT 101 (by decide +kernel) (by decide +kernel)
theorem uw_102 : Cond.fieldLink RX11 271 "RowBank$CommandLog" "asks" "[I" ∈ UW := uwT 102 (by decide +kernel) (by decide +kernel)
theorem uw_103 : Cond.fieldLink RX1 33 "RowBank$CommandLog" "checked" "LRowBank$Past;" ∈ UW := uwT 103 (by decide +kernel) (by decide +kernel)
theorem uw_104 : Cond.fieldLink RX1 37 "RowBank$CommandLog" "size" "I" ∈ UW := uwT 104 (by decide +kernel) (by decide +kernel)
theorem uw_105 : Cond.fieldLink RX11 292 "RowBank$CommandLog" "size" "I" ∈ UW := uwT 105 (by decide +kernel) (by decide +kernel)
theorem uw_106 : Cond.fieldLink RX1 41 "RowBank$CommandLog" "faultyRule" "I" ∈ UW := uwT 106 (by decide +kernel) (by decide +kernel)
theorem uw_107 : Cond.fieldLink RX11 282 "RowBank$CommandLog" "faultyRule" "I" ∈ UW := uwT 107 (by decide +kernel) (by decide +kernel)
theorem uw_126 : Cond.superclass RX1 "java/lang/Object" ∈ UW := uwT 126 (by decide +kernel) (by decide +kernel)
theorem uw_127 : Cond.classLink RX11 27 RX4 ∈ UW := uwT 127 (by decide +kernel) (by decide +kernel)
theorem uw_128 : Cond.instantiable RX4 2 ∈ UW := uwT 128 (by decide +kernel) (by decide +kernel)
theorem uw_130 : Cond.instanceMethod yX4_init ∈ UW := uwT 130 (by decide +kernel) (by decide +kernel)
theorem uw_131 : Cond.code yX4_init cX4_init 1 (Option.none : Option Jvm.ClassFile.FieldType) ∈ UW := uwT 131 (by decide +kernel) (by decide +kernel)
theorem uw_132 : Cond.methodLink RX4 3 (⟨"java/lang/Object", "<init>", "()V"⟩ : MethodName) ∈ UW := uwT 132 (by decide +kernel) (by decide +kernel)
theorem uw_133 : Cond.fieldLink RX4 9 "RowBank$Memory" "octets" "[I" ∈ UW := uwT 133 (by decide +kernel) (by decide +kernel)
theorem uw_134 : Cond.fieldLink RX11 253 "RowBank$Memory" "octets" "[I" ∈ UW := uwT 134 (by decide +kernel) (by decide +kernel)
theorem uw_135 : Cond.fieldLink RX4 15 "RowBank$Memory" "openRows" "[I" ∈ UW := uwT 135 (by decide +kernel) (by decide +kernel)
theorem uw_136 : Cond.fieldLink RX7 92 "RowBank$Memory" "openRows" "[I" ∈ UW := uwT 136 (by decide +kernel) (by decide +kernel)
theorem uw_137 : Cond.fieldLink RX11 250 "RowBank$Memory" "openRows" "[I" ∈ UW := uwT 137 (by decide +kernel) (by decide +kernel)
theorem uw_142 : Cond.superclass RX4 "java/lang/Object" ∈ UW := uwT 142 (by decide +kernel) (by decide +kernel)
theorem uw_143 : Cond.classLink RX11 34 RX7 ∈ UW := uwT 143 (by decide +kernel) (by decide +kernel)
theorem uw_144 : Cond.instantiable RX7 11 ∈ UW := uwT 144 (by decide +kernel) (by decide +kernel)
theorem uw_146 : Cond.instanceMethod yX7_init ∈ UW := uwT 146 (by decide +kernel) (by decide +kernel)
theorem uw_147 : Cond.code yX7_init cX7_init 1 (Option.none : Option Jvm.ClassFile.FieldType) ∈ UW := uwT 147 (by decide +kernel) (by decide +kernel)
theorem uw_148 : Cond.methodLink RX7 3 (⟨"java/lang/Object", "<init>", "()V"⟩ : MethodName) ∈ UW := uwT 148 (by decide +kernel) (by decide +kernel)
theorem uw_149 : Cond.classLink RX7 9 RX0 ∈ UW := uwT 149 (by decide +kernel) (by decide +kernel)
theorem uw_151 : Cond.fieldLink RX7 11 "RowBank$Queue" "all" "[LRowBank$Ask;" ∈ UW := uwT 151 (by decide +kernel) (by decide +kernel)
theorem uw_152 : Cond.fieldLink RX7 17 "RowBank$Queue" "plainOctets" "[I" ∈ UW := uwT 152 (by decide +kernel) (by decide +kernel)
theorem uw_153 : Cond.fieldLink RX7 21 "RowBank$Queue" "doneOf" "[I" ∈ UW := uwT 153 (by decide +kernel) (by decide +kernel)
theorem uw_154 : Cond.fieldLink RX11 298 "RowBank$Queue" "doneOf" "[I" ∈ UW := uwT 154 (by decide +kernel) (by decide +kernel)
theorem uw_155 : Cond.fieldLink RX7 24 "RowBank$Queue" "worstWaits" "[I" ∈ UW := uwT 155 (by decide +kernel) (by decide +kernel)
theorem uw_156 : Cond.fieldLink RX11 285 "RowBank$Queue" "worstWaits" "[I" ∈ UW := uwT 156 (by decide +kernel) (by decide +kernel)
theorem uw_157 : Cond.fieldLink RX7 27 "RowBank$Queue" "oldest" "LRowBank$Ask;" ∈ UW := uwT 157 (by decide +kernel) (by decide +kernel)
theorem uw_158 : Cond.fieldLink RX7 31 "RowBank$Queue" "newest" "LRowBank$Ask;" ∈ UW := uwT 158 (by decide +kernel) (by decide +kernel)
theorem uw_159 : Cond.fieldLink RX7 34 "RowBank$Queue" "came" "I" ∈ UW := uwT 159 (by decide +kernel) (by decide +kernel)
theorem uw_160 : Cond.fieldLink RX11 102 "RowBank$Queue" "came" "I" ∈ UW := uwT 160 (by decide +kernel) (by decide +kernel)
theorem uw_161 : Cond.fieldLink RX7 38 "RowBank$Queue" "waiting" "I" ∈ UW := uwT 161 (by decide +kernel) (by decide +kernel)
theorem uw_162 : Cond.fieldLink RX11 137 "RowBank$Queue" "waiting" "I" ∈ UW := uwT 162 (by decide +kernel) (by decide +kernel)
theorem uw_163 : Cond.fieldLink RX7 41 "RowBank$Queue" "fencesWaiting" "I" ∈ UW := uwT 163 (by decide +kernel) (by decide +kernel)
theorem uw_164 : Cond.fieldLink RX11 155 "RowBank$Queue" "fencesWaiting" "I" ∈ UW := uwT 164 (by decide +kernel) (by decide +kernel)
theorem uw_165 : Cond.fieldLink RX7 44 "RowBank$Queue" "columns" "I" ∈ UW := uwT 165 (by decide +kernel) (by decide +kernel)
theorem uw_166 : Cond.fieldLink RX7 47 "RowBank$Queue" "columnsBefore" "I" ∈ UW := uwT 166 (by decide +kernel) (by decide +kernel)
theorem uw_189 : Cond.superclass RX7 "java/lang/Object" ∈ UW := uwT 189 (by decide +kernel) (by decide +kernel)
theorem uw_190 : Cond.classLink RX11 41 RX8 ∈ UW := uwT 190 (by decide +kernel) (by decide +kernel)
theorem uw_192 : Cond.fieldLink RX11 79 "RowBank" "FIRST_TIMES" "[I" ∈ UW := uwT 192 (by decide +kernel) (by decide +kernel)
theorem uw_194 : Cond.methodLink RX11 82 (⟨RJ10, "arraycopy", "(Ljava/lang/Object;ILjava/lang/Object;II)V"⟩ : MethodName) ∈ UW := uwT 194 (by decide +kernel) (by decide +kernel)
theorem uw_195 : Cond.static (⟨RJ10, "arraycopy", "(Ljava/lang/Object;ILjava/lang/Object;II)V"⟩ : MethodName) ∈ UW := uwT 195 (by decide +kernel) (by decide +kernel)
theorem uw_196 : Cond.native (⟨RJ10, "arraycopy", "(Ljava/lang/Object;ILjava/lang/Object;II)V"⟩ : MethodName) ∈ UW := uwT 196 (by decide +kernel) (by decide +kernel)
theorem uw_197 : Cond.instantiable RX8 3 ∈ UW := uwT 197 (by decide +kernel) (by decide +kernel)
theorem uw_199 : Cond.instanceMethod yX8_init ∈ UW := uwT 199 (by decide +kernel) (by decide +kernel)
theorem uw_200 : Cond.code yX8_init cX8_init 1 (Option.none : Option Jvm.ClassFile.FieldType) ∈ UW := uwT 200 (by decide +kernel) (by decide +kernel)
theorem uw_201 : Cond.methodLink RX8 3 (⟨"java/lang/Object", "<init>", "()V"⟩ : MethodName) ∈ UW := uwT 201 (by decide +kernel) (by decide +kernel)
theorem uw_202 : Cond.fieldLink RX8 9 "RowBank$Shelf" "ask" "LRowBank$Ask;" ∈ UW := uwT 202 (by decide +kernel) (by decide +kernel)
theorem uw_203 : Cond.fieldLink RX11 356 "RowBank$Shelf" "ask" "LRowBank$Ask;" ∈ UW := uwT 203 (by decide +kernel) (by decide +kernel)
theorem uw_204 : Cond.fieldLink RX8 15 "RowBank$Shelf" "elements" "[I" ∈ UW := uwT 204 (by decide +kernel) (by decide +kernel)
theorem uw_205 : Cond.fieldLink RX11 334 "RowBank$Shelf" "elements" "[I" ∈ UW := uwT 205 (by decide +kernel) (by decide +kernel)
theorem uw_206 : Cond.fieldLink RX8 19 "RowBank$Shelf" "ofBytes" "Z" ∈ UW := uwT 206 (by decide +kernel) (by decide +kernel)
theorem uw_207 : Cond.fieldLink RX11 348 "RowBank$Shelf" "ofBytes" "Z" ∈ UW := uwT 207 (by decide +kernel) (by decide +kernel)
theorem uw_214 : Cond.superclass RX8 "java/lang/Object" ∈ UW := uwT 214 (by decide +kernel) (by decide +kernel)
theorem uw_215 : Cond.fieldLink RX11 9 "RowBank" "times" "[I" ∈ UW := uwT 215 (by decide +kernel) (by decide +kernel)
theorem uw_216 : Cond.fieldLink RX11 16 "RowBank" "past" "LRowBank$Past;" ∈ UW := uwT 216 (by decide +kernel) (by decide +kernel)
theorem uw_217 : Cond.fieldLink RX11 23 "RowBank" "commandLog" "LRowBank$CommandLog;" ∈ UW := uwT 217 (by decide +kernel) (by decide +kernel)
theorem uw_218 : Cond.fieldLink RX11 30 "RowBank" "memory" "LRowBank$Memory;" ∈ UW := uwT 218 (by decide +kernel) (by decide +kernel)
theorem uw_219 : Cond.fieldLink RX11 37 "RowBank" "queue" "LRowBank$Queue;" ∈ UW := uwT 219 (by decide +kernel) (by decide +kernel)
theorem uw_220 : Cond.fieldLink RX11 43 "RowBank" "shelves" "[LRowBank$Shelf;" ∈ UW := uwT 220 (by decide +kernel) (by decide +kernel)
theorem uw_221 : Cond.fieldLink RX11 47 "RowBank" "tick" "I" ∈ UW := uwT 221 (by decide +kernel) (by decide +kernel)
theorem uw_222 : Cond.fieldLink RX11 51 "RowBank" "every" "I" ∈ UW := uwT 222 (by decide +kernel) (by decide +kernel)
theorem uw_223 : Cond.fieldLink RX11 54 "RowBank" "due" "I" ∈ UW := uwT 223 (by decide +kernel) (by decide +kernel)
theorem uw_224 : Cond.fieldLink RX11 57 "RowBank" "owed" "I" ∈ UW := uwT 224 (by decide +kernel) (by decide +kernel)
theorem uw_225 : Cond.fieldLink RX11 60 "RowBank" "theOrder" "I" ∈ UW := uwT 225 (by decide +kernel) (by decide +kernel)
theorem uw_226 : Cond.fieldLink RX11 63 "RowBank" "limit" "I" ∈ UW := uwT 226 (by decide +kernel) (by decide +kernel)
theorem uw_227 : Cond.fieldLink RX11 66 "RowBank" "commands" "I" ∈ UW := uwT 227 (by decide +kernel) (by decide +kernel)
theorem uw_228 : Cond.fieldLink RX11 69 "RowBank" "refreshes" "I" ∈ UW := uwT 228 (by decide +kernel) (by decide +kernel)
theorem uw_229 : Cond.fieldLink RX11 72 "RowBank" "chosenBank" "I" ∈ UW := uwT 229 (by decide +kernel) (by decide +kernel)
theorem uw_230 : Cond.fieldLink RX11 75 "RowBank" "chosenAsk" "LRowBank$Ask;" ∈ UW := uwT 230 (by decide +kernel) (by decide +kernel)
theorem uw_263 : Cond.superclass RX11 "java/lang/Object" ∈ UW := uwT 263 (by decide +kernel) (by decide +kernel)
theorem uw_264 : Cond.methodLink RL 21 yX11_time ∈ UW := uwT 264 (by decide +kernel) (by decide +kernel)
theorem uw_265 : Cond.instanceMethod yX11_time ∈ UW := uwT 265 (by decide +kernel) (by decide +kernel)
theorem uw_266 : Cond.selects RX11 yX11_time yX11_time ∈ UW := uwT 266 (by decide +kernel) (by decide +kernel)
theorem uw_267 : Cond.code yX11_time cX11_time 4 (Option.some Jvm.ClassFile.FieldType.int) ∈ UW := uwT 267 (by decide +kernel) (by decide +kernel)
theorem uw_268 : Cond.methodLink RX11 89 yX11_isWithin ∈ UW := uwT 268 (by decide +kernel) (by decide +kernel)
theorem uw_269 : Cond.static yX11_isWithin ∈ UW := uwT 269 (by decide +kernel) (by decide +kernel)
theorem uw_270 : Cond.code yX11_isWithin cX11_isWithin 3 (Option.some Jvm.ClassFile.FieldType.boolean) ∈ UW := uwT 270 (by decide +kernel) (by decide +kernel)
theorem uw_271 : Cond.methodLink RL 26 yX11_refresh ∈ UW := uwT 271 (by decide +kernel) (by decide +kernel)
theorem uw_272 : Cond.instanceMethod yX11_refresh ∈ UW := uwT 272 (by decide +kernel) (by decide +kernel)
theorem uw_273 : Cond.selects RX11 yX11_refresh yX11_refresh ∈ UW := uwT 273 (by decide +kernel) (by decide +kernel)
theorem uw_274 : Cond.code yX11_refresh cX11_refresh 3 (Option.some Jvm.ClassFile.FieldType.int) ∈ UW := uwT 274 (by decide +kernel) (by decide +kernel)
theorem uw_275 : Cond.methodLink RL 30 yX11_order ∈ UW := uwT 275 (by decide +kernel) (by decide +kernel)
theorem uw_276 : Cond.instanceMethod yX11_order ∈ UW := uwT 276 (by decide +kernel) (by decide +kernel)
theorem uw_277 : Cond.selects RX11 yX11_order yX11_order ∈ UW := uwT 277 (by decide +kernel) (by decide +kernel)
theorem uw_278 : Cond.code yX11_order cX11_order 3 (Option.some Jvm.ClassFile.FieldType.int) ∈ UW := uwT 278 (by decide +kernel) (by decide +kernel)
theorem uw_279 : Cond.methodLink RL 34 yX11_ask ∈ UW := uwT 279 (by decide +kernel) (by decide +kernel)
theorem uw_280 : Cond.instanceMethod yX11_ask ∈ UW := uwT 280 (by decide +kernel) (by decide +kernel)
theorem uw_281 : Cond.selects RX11 yX11_ask yX11_ask ∈ UW := uwT 281 (by decide +kernel) (by decide +kernel)
theorem uw_282 : Cond.code yX11_ask cX11_ask 3 (Option.some Jvm.ClassFile.FieldType.int) ∈ UW := uwT 282 (by decide +kernel) (by decide +kernel)
theorem uw_283 : Cond.methodLink RX11 93 yX11_isAsker ∈ UW := uwT 283 (by decide +kernel) (by decide +kernel)
theorem uw_284 : Cond.static yX11_isAsker ∈ UW := uwT 284 (by decide +kernel) (by decide +kernel)
theorem uw_285 : Cond.code yX11_isAsker cX11_isAsker 1 (Option.some Jvm.ClassFile.FieldType.boolean) ∈ UW := uwT 285 (by decide +kernel) (by decide +kernel)
theorem uw_286 : Cond.methodLink RX11 97 yX11_isAddress ∈ UW := uwT 286 (by decide +kernel) (by decide +kernel)
theorem uw_287 : Cond.static yX11_isAddress ∈ UW := uwT 287 (by decide +kernel) (by decide +kernel)
theorem uw_288 : Cond.code yX11_isAddress cX11_isAddress 1 (Option.some Jvm.ClassFile.FieldType.boolean) ∈ UW := uwT 288 (by decide +kernel) (by decide +kernel)
theorem uw_289 : Cond.classLink RX11 100 RX6 ∈ UW := uwT 289 (by decide +kernel) (by decide +kernel)
theorem uw_290 : Cond.instantiable RX6 11 ∈ UW := uwT 290 (by decide +kernel) (by decide +kernel)
theorem uw_291 : Cond.methodLink RX11 105 yX6_init ∈ UW := uwT 291 (by decide +kernel) (by decide +kernel)
theorem uw_292 : Cond.instanceMethod yX6_init ∈ UW := uwT 292 (by decide +kernel) (by decide +kernel)
theorem uw_293 : Cond.code yX6_init cX6_init 5 (Option.none : Option Jvm.ClassFile.FieldType) ∈ UW := uwT 293 (by decide +kernel) (by decide +kernel)
theorem uw_294 : Cond.methodLink RX6 3 yX0_init ∈ UW := uwT 294 (by decide +kernel) (by decide +kernel)
theorem uw_295 : Cond.instanceMethod yX0_init ∈ UW := uwT 295 (by decide +kernel) (by decide +kernel)
theorem uw_296 : Cond.code yX0_init cX0_init 5 (Option.none : Option Jvm.ClassFile.FieldType) ∈ UW := uwT 296 (by decide +kernel) (by decide +kernel)
theorem uw_297 : Cond.methodLink RX0 3 (⟨"java/lang/Object", "<init>", "()V"⟩ : MethodName) ∈ UW := uwT 297 (by decide +kernel) (by decide +kernel)
theorem uw_298 : Cond.methodLink RX0 37 yX4_bankOf ∈ UW := uwT 298 (by decide +kernel) (by decide +kernel)
theorem uw_299 : Cond.static yX4_bankOf ∈ UW := uwT 299 (by decide +kernel) (by decide +kernel)
theorem uw_300 : Cond.code yX4_bankOf cX4_bankOf 1 (Option.some Jvm.ClassFile.FieldType.int) ∈ UW := uwT 300 (by decide +kernel) (by decide +kernel)
theorem uw_301 : Cond.methodLink RX4 18 yX4_rowOf ∈ UW := uwT 301 (by decide +kernel) (by decide +kernel)
theorem uw_302 : Cond.static yX4_rowOf ∈ UW := uwT 302 (by decide +kernel) (by decide +kernel)
theorem uw_303 : Cond.code yX4_rowOf cX4_rowOf 1 (Option.some Jvm.ClassFile.FieldType.int) ∈ UW := uwT 303 (by decide +kernel) (by decide +kernel)
theorem uw_304 : Cond.methodLink RX0 46 yX4_rowOf ∈ UW := uwT 304 (by decide +kernel) (by decide +kernel)
theorem uw_305 : Cond.fieldLink RX0 28 "RowBank$Ask" "number" "I" ∈ UW := uwT 305 (by decide +kernel) (by decide +kernel)
theorem uw_306 : Cond.fieldLink RX7 57 "RowBank$Ask" "number" "I" ∈ UW := uwT 306 (by decide +kernel) (by decide +kernel)
theorem uw_307 : Cond.fieldLink RX1 48 "RowBank$Ask" "number" "I" ∈ UW := uwT 307 (by decide +kernel) (by decide +kernel)
theorem uw_308 : Cond.fieldLink RX11 238 "RowBank$Ask" "number" "I" ∈ UW := uwT 308 (by decide +kernel) (by decide +kernel)
theorem uw_309 : Cond.fieldLink RX0 31 "RowBank$Ask" "asker" "I" ∈ UW := uwT 309 (by decide +kernel) (by decide +kernel)
theorem uw_310 : Cond.fieldLink RX7 60 "RowBank$Ask" "asker" "I" ∈ UW := uwT 310 (by decide +kernel) (by decide +kernel)
theorem uw_311 : Cond.fieldLink RX11 225 "RowBank$Ask" "asker" "I" ∈ UW := uwT 311 (by decide +kernel) (by decide +kernel)
theorem uw_312 : Cond.fieldLink RX0 34 "RowBank$Ask" "address" "I" ∈ UW := uwT 312 (by decide +kernel) (by decide +kernel)
theorem uw_313 : Cond.fieldLink RX1 56 "RowBank$Ask" "address" "I" ∈ UW := uwT 313 (by decide +kernel) (by decide +kernel)
theorem uw_314 : Cond.fieldLink RX4 39 "RowBank$Ask" "address" "I" ∈ UW := uwT 314 (by decide +kernel) (by decide +kernel)
theorem uw_315 : Cond.fieldLink RX7 112 "RowBank$Ask" "address" "I" ∈ UW := uwT 315 (by decide +kernel) (by decide +kernel)
theorem uw_316 : Cond.fieldLink RX11 228 "RowBank$Ask" "address" "I" ∈ UW := uwT 316 (by decide +kernel) (by decide +kernel)
theorem uw_317 : Cond.fieldLink RX0 43 "RowBank$Ask" "bank" "I" ∈ UW := uwT 317 (by decide +kernel) (by decide +kernel)
theorem uw_318 : Cond.fieldLink RX4 26 "RowBank$Ask" "bank" "I" ∈ UW := uwT 318 (by decide +kernel) (by decide +kernel)
theorem uw_319 : Cond.fieldLink RX7 97 "RowBank$Ask" "bank" "I" ∈ UW := uwT 319 (by decide +kernel) (by decide +kernel)
theorem uw_320 : Cond.fieldLink RX11 176 "RowBank$Ask" "bank" "I" ∈ UW := uwT 320 (by decide +kernel) (by decide +kernel)
theorem uw_321 : Cond.fieldLink RX0 49 "RowBank$Ask" "inRow" "I" ∈ UW := uwT 321 (by decide +kernel) (by decide +kernel)
theorem uw_322 : Cond.fieldLink RX1 53 "RowBank$Ask" "inRow" "I" ∈ UW := uwT 322 (by decide +kernel) (by decide +kernel)
theorem uw_323 : Cond.fieldLink RX4 32 "RowBank$Ask" "inRow" "I" ∈ UW := uwT 323 (by decide +kernel) (by decide +kernel)
theorem uw_324 : Cond.fieldLink RX7 100 "RowBank$Ask" "inRow" "I" ∈ UW := uwT 324 (by decide +kernel) (by decide +kernel)
theorem uw_325 : Cond.fieldLink RX11 203 "RowBank$Ask" "inRow" "I" ∈ UW := uwT 325 (by decide +kernel) (by decide +kernel)
theorem uw_326 : Cond.fieldLink RX0 52 "RowBank$Ask" "came" "I" ∈ UW := uwT 326 (by decide +kernel) (by decide +kernel)
theorem uw_327 : Cond.fieldLink RX7 70 "RowBank$Ask" "came" "I" ∈ UW := uwT 327 (by decide +kernel) (by decide +kernel)
theorem uw_328 : Cond.fieldLink RX11 231 "RowBank$Ask" "came" "I" ∈ UW := uwT 328 (by decide +kernel) (by decide +kernel)
theorem uw_329 : Cond.fieldLink RX0 9 "RowBank$Ask" "done" "I" ∈ UW := uwT 329 (by decide +kernel) (by decide +kernel)
theorem uw_330 : Cond.fieldLink RX7 63 "RowBank$Ask" "done" "I" ∈ UW := uwT 330 (by decide +kernel) (by decide +kernel)
theorem uw_331 : Cond.fieldLink RX11 232 "RowBank$Ask" "done" "I" ∈ UW := uwT 331 (by decide +kernel) (by decide +kernel)
theorem uw_332 : Cond.fieldLink RX0 15 "RowBank$Ask" "answer" "I" ∈ UW := uwT 332 (by decide +kernel) (by decide +kernel)
theorem uw_333 : Cond.fieldLink RX4 45 "RowBank$Ask" "answer" "I" ∈ UW := uwT 333 (by decide +kernel) (by decide +kernel)
theorem uw_334 : Cond.fieldLink RX7 119 "RowBank$Ask" "answer" "I" ∈ UW := uwT 334 (by decide +kernel) (by decide +kernel)
theorem uw_335 : Cond.fieldLink RX11 235 "RowBank$Ask" "answer" "I" ∈ UW := uwT 335 (by decide +kernel) (by decide +kernel)
theorem uw_336 : Cond.fieldLink RX0 18 "RowBank$Ask" "later" "LRowBank$Ask;" ∈ UW := uwT 336 (by decide +kernel) (by decide +kernel)
theorem uw_337 : Cond.fieldLink RX7 54 "RowBank$Ask" "later" "LRowBank$Ask;" ∈ UW := uwT 337 (by decide +kernel) (by decide +kernel)
theorem uw_338 : Cond.fieldLink RX0 22 "RowBank$Ask" "behind" "LRowBank$Ask;" ∈ UW := uwT 338 (by decide +kernel) (by decide +kernel)
theorem uw_339 : Cond.fieldLink RX7 103 "RowBank$Ask" "behind" "LRowBank$Ask;" ∈ UW := uwT 339 (by decide +kernel) (by decide +kernel)
theorem uw_340 : Cond.fieldLink RX11 184 "RowBank$Ask" "behind" "LRowBank$Ask;" ∈ UW := uwT 340 (by decide +kernel) (by decide +kernel)
theorem uw_341 : Cond.fieldLink RX0 25 "RowBank$Ask" "rank" "I" ∈ UW := uwT 341 (by decide +kernel) (by decide +kernel)
theorem uw_342 : Cond.fieldLink RX7 85 "RowBank$Ask" "rank" "I" ∈ UW := uwT 342 (by decide +kernel) (by decide +kernel)
theorem uw_365 : Cond.superclass RX6 RX0 ∈ UW := uwT 365 (by decide +kernel) (by decide +kernel)
theorem uw_366 : Cond.methodLink RX11 108 yX7_add ∈ UW := uwT 366 (by decide +kernel) (by decide +kernel)
theorem uw_367 : Cond.instanceMethod yX7_add ∈ UW := uwT 367 (by decide +kernel) (by decide +kernel)
theorem uw_368 : Cond.selects RX7 yX7_add yX7_add ∈ UW := uwT 368 (by decide +kernel) (by decide +kernel)
theorem uw_369 : Cond.code yX7_add cX7_add 3 (Option.some Jvm.ClassFile.FieldType.int) ∈ UW := uwT 369 (by decide +kernel) (by decide +kernel)
theorem uw_370 : Cond.methodLink RX7 50 yX0_isFence ∈ UW := uwT 370 (by decide +kernel) (by decide +kernel)
theorem uw_371 : Cond.instanceMethod yX0_isFence ∈ UW := uwT 371 (by decide +kernel) (by decide +kernel)
theorem uw_372 : Cond.sameMethod "RowBank$Ask" "RowBank$Ask" "isFence" "()Z" ∈ UW := uwT 372 (by decide +kernel) (by decide +kernel)
theorem uw_373 : Cond.selects RX2 yX0_isFence yX0_isFence ∈ UW := uwT 373 (by decide +kernel) (by decide +kernel)
theorem uw_374 : Cond.selects RX3 yX0_isFence yX0_isFence ∈ UW := uwT 374 (by decide +kernel) (by decide +kernel)
theorem uw_375 : Cond.selects RX6 yX0_isFence yX0_isFence ∈ UW := uwT 375 (by decide +kernel) (by decide +kernel)
theorem uw_376 : Cond.selects RX9 yX0_isFence yX0_isFence ∈ UW := uwT 376 (by decide +kernel) (by decide +kernel)
theorem uw_377 : Cond.selects RX10 yX0_isFence yX0_isFence ∈ UW := uwT 377 (by decide +kernel) (by decide +kernel)
theorem uw_378 : Cond.code yX0_isFence cX0_isFence 1 (Option.some Jvm.ClassFile.FieldType.boolean) ∈ UW := uwT 378 (by decide +kernel) (by decide +kernel)
theorem uw_379 : Cond.methodLink RX0 62 (⟨RX0, "kind", "()I"⟩ : MethodName) ∈ UW := uwT 379 (by decide +kernel) (by decide +kernel)
theorem uw_381 : Cond.sameMethod "RowBank$Ask" "RowBank$Ask" "kind" "()I" ∈ UW := uwT 381 (by decide +kernel) (by decide +kernel)
theorem uw_382 : Cond.selects RX2 (⟨RX0, "kind", "()I"⟩ : MethodName) yX2_kind ∈ UW := uwT 382 (by decide +kernel) (by decide +kernel)
theorem uw_383 : Cond.instanceMethod yX2_kind ∈ UW := uwT 383 (by decide +kernel) (by decide +kernel)
theorem uw_384 : Cond.code yX2_kind cX2_kind 1 (Option.some Jvm.ClassFile.FieldType.int) ∈ UW := uwT 384 (by decide +kernel) (by decide +kernel)
theorem uw_385 : Cond.selects RX3 (⟨RX0, "kind", "()I"⟩ : MethodName) yX3_kind ∈ UW := uwT 385 (by decide +kernel) (by decide +kernel)
theorem uw_386 : Cond.instanceMethod yX3_kind ∈ UW := uwT 386 (by decide +kernel) (by decide +kernel)
theorem uw_387 : Cond.code yX3_kind cX3_kind 1 (Option.some Jvm.ClassFile.FieldType.int) ∈ UW := uwT 387 (by decide +kernel) (by decide +kernel)
theorem uw_388 : Cond.selects RX6 (⟨RX0, "kind", "()I"⟩ : MethodName) yX6_kind ∈ UW := uwT 388 (by decide +kernel) (by decide +kernel)
theorem uw_389 : Cond.instanceMethod yX6_kind ∈ UW := uwT 389 (by decide +kernel) (by decide +kernel)
theorem uw_390 : Cond.code yX6_kind cX6_kind 1 (Option.some Jvm.ClassFile.FieldType.int) ∈ UW := uwT 390 (by decide +kernel) (by decide +kernel)
theorem uw_391 : Cond.selects RX9 (⟨RX0, "kind", "()I"⟩ : MethodName) yX9_kind ∈ UW := uwT 391 (by decide +kernel) (by decide +kernel)
theorem uw_392 : Cond.instanceMethod yX9_kind ∈ UW := uwT 392 (by decide +kernel) (by decide +kernel)
theorem uw_393 : Cond.code yX9_kind cX9_kind 1 (Option.some Jvm.ClassFile.FieldType.int) ∈ UW := uwT 393 (by decide +kernel) (by decide +kernel)
theorem uw_394 : Cond.selects RX10 (⟨RX0, "kind", "()I"⟩ : MethodName) yX10_kind ∈ UW := uwT 394 (by decide +kernel) (by decide +kernel)
theorem uw_395 : Cond.instanceMethod yX10_kind ∈ UW := uwT 395 (by decide +kernel) (by decide +kernel)
theorem uw_396 : Cond.code yX10_kind cX10_kind 1 (Option.some Jvm.ClassFile.FieldType.int) ∈ UW := uwT 396 (by decide +kernel) (by decide +kernel)
theorem uw_397 : Cond.methodLink RL 38 yX11_write ∈ UW := uwT 397 (by decide +kernel) (by decide +kernel)
theorem uw_398 : Cond.instanceMethod yX11_write ∈ UW := uwT 398 (by decide +kernel) (by decide +kernel)
theorem uw_399 : Cond.selects RX11 yX11_write yX11_write ∈ UW := uwT 399 (by decide +kernel) (by decide +kernel)
theorem uw_400 : Cond.code yX11_write cX11_write 4 (Option.some Jvm.ClassFile.FieldType.int) ∈ UW := uwT 400 (by decide +kernel) (by decide +kernel)
theorem uw_401 : Cond.methodLink RX11 112 yX11_isOctet ∈ UW := uwT 401 (by decide +kernel) (by decide +kernel)
theorem uw_402 : Cond.static yX11_isOctet ∈ UW := uwT 402 (by decide +kernel) (by decide +kernel)
theorem uw_403 : Cond.code yX11_isOctet cX11_isOctet 1 (Option.some Jvm.ClassFile.FieldType.boolean) ∈ UW := uwT 403 (by decide +kernel) (by decide +kernel)
theorem uw_404 : Cond.classLink RX11 115 RX10 ∈ UW := uwT 404 (by decide +kernel) (by decide +kernel)
theorem uw_405 : Cond.instantiable RX10 12 ∈ UW := uwT 405 (by decide +kernel) (by decide +kernel)
theorem uw_406 : Cond.methodLink RX11 117 yX10_init ∈ UW := uwT 406 (by decide +kernel) (by decide +kernel)
theorem uw_407 : Cond.instanceMethod yX10_init ∈ UW := uwT 407 (by decide +kernel) (by decide +kernel)
theorem uw_408 : Cond.code yX10_init cX10_init 6 (Option.none : Option Jvm.ClassFile.FieldType) ∈ UW := uwT 408 (by decide +kernel) (by decide +kernel)
theorem uw_409 : Cond.methodLink RX10 3 yX0_init ∈ UW := uwT 409 (by decide +kernel) (by decide +kernel)
theorem uw_410 : Cond.fieldLink RX10 9 "RowBank$WriteAsk" "v" "I" ∈ UW := uwT 410 (by decide +kernel) (by decide +kernel)
theorem uw_411 : Cond.fieldLink RX3 19 "RowBank$MaskedAsk" "v" "I" ∈ UW := uwT 411 (by decide +kernel) (by decide +kernel)
theorem uw_412 : Cond.sameField "RowBank$MaskedAsk" "RowBank$WriteAsk" "v" "I" ∈ UW := uwT 412 (by decide +kernel) (by decide +kernel)
theorem uw_426 : Cond.superclass RX10 RX0 ∈ UW := uwT 426 (by decide +kernel) (by decide +kernel)
theorem uw_427 : Cond.methodLink RL 43 yX11_mask ∈ UW := uwT 427 (by decide +kernel) (by decide +kernel)
theorem uw_428 : Cond.instanceMethod yX11_mask ∈ UW := uwT 428 (by decide +kernel) (by decide +kernel)
theorem uw_429 : Cond.selects RX11 yX11_mask yX11_mask ∈ UW := uwT 429 (by decide +kernel) (by decide +kernel)
theorem uw_430 : Cond.code yX11_mask cX11_mask 5 (Option.some Jvm.ClassFile.FieldType.int) ∈ UW := uwT 430 (by decide +kernel) (by decide +kernel)
theorem uw_431 : Cond.classLink RX11 120 RX3 ∈ UW := uwT 431 (by decide +kernel) (by decide +kernel)
theorem uw_432 : Cond.instantiable RX3 13 ∈ UW := uwT 432 (by decide +kernel) (by decide +kernel)
theorem uw_433 : Cond.methodLink RX11 122 yX3_init ∈ UW := uwT 433 (by decide +kernel) (by decide +kernel)
theorem uw_434 : Cond.instanceMethod yX3_init ∈ UW := uwT 434 (by decide +kernel) (by decide +kernel)
theorem uw_435 : Cond.code yX3_init cX3_init 7 (Option.none : Option Jvm.ClassFile.FieldType) ∈ UW := uwT 435 (by decide +kernel) (by decide +kernel)
theorem uw_436 : Cond.methodLink RX3 3 yX10_init ∈ UW := uwT 436 (by decide +kernel) (by decide +kernel)
theorem uw_437 : Cond.fieldLink RX3 9 "RowBank$MaskedAsk" "bits" "I" ∈ UW := uwT 437 (by decide +kernel) (by decide +kernel)
theorem uw_452 : Cond.superclass RX3 RX10 ∈ UW := uwT 452 (by decide +kernel) (by decide +kernel)
theorem uw_453 : Cond.methodLink RL 48 yX11_swap ∈ UW := uwT 453 (by decide +kernel) (by decide +kernel)
theorem uw_454 : Cond.instanceMethod yX11_swap ∈ UW := uwT 454 (by decide +kernel) (by decide +kernel)
theorem uw_455 : Cond.selects RX11 yX11_swap yX11_swap ∈ UW := uwT 455 (by decide +kernel) (by decide +kernel)
theorem uw_456 : Cond.code yX11_swap cX11_swap 4 (Option.some Jvm.ClassFile.FieldType.int) ∈ UW := uwT 456 (by decide +kernel) (by decide +kernel)
theorem uw_457 : Cond.classLink RX11 125 RX9 ∈ UW := uwT 457 (by decide +kernel) (by decide +kernel)
theorem uw_458 : Cond.instantiable RX9 12 ∈ UW := uwT 458 (by decide +kernel) (by decide +kernel)
theorem uw_459 : Cond.methodLink RX11 127 yX9_init ∈ UW := uwT 459 (by decide +kernel) (by decide +kernel)
theorem uw_460 : Cond.instanceMethod yX9_init ∈ UW := uwT 460 (by decide +kernel) (by decide +kernel)
theorem uw_461 : Cond.code yX9_init cX9_init 6 (Option.none : Option Jvm.ClassFile.FieldType) ∈ UW := uwT 461 (by decide +kernel) (by decide +kernel)
theorem uw_462 : Cond.methodLink RX9 3 yX10_init ∈ UW := uwT 462 (by decide +kernel) (by decide +kernel)
theorem uw_475 : Cond.superclass RX9 RX10 ∈ UW := uwT 475 (by decide +kernel) (by decide +kernel)
theorem uw_476 : Cond.methodLink RL 52 yX11_fence ∈ UW := uwT 476 (by decide +kernel) (by decide +kernel)
theorem uw_477 : Cond.instanceMethod yX11_fence ∈ UW := uwT 477 (by decide +kernel) (by decide +kernel)
theorem uw_478 : Cond.selects RX11 yX11_fence yX11_fence ∈ UW := uwT 478 (by decide +kernel) (by decide +kernel)
theorem uw_479 : Cond.code yX11_fence cX11_fence 2 (Option.some Jvm.ClassFile.FieldType.int) ∈ UW := uwT 479 (by decide +kernel) (by decide +kernel)
theorem uw_480 : Cond.classLink RX11 128 RX2 ∈ UW := uwT 480 (by decide +kernel) (by decide +kernel)
theorem uw_481 : Cond.instantiable RX2 11 ∈ UW := uwT 481 (by decide +kernel) (by decide +kernel)
theorem uw_482 : Cond.methodLink RX11 130 yX2_init ∈ UW := uwT 482 (by decide +kernel) (by decide +kernel)
theorem uw_483 : Cond.instanceMethod yX2_init ∈ UW := uwT 483 (by decide +kernel) (by decide +kernel)
theorem uw_484 : Cond.code yX2_init cX2_init 4 (Option.none : Option Jvm.ClassFile.FieldType) ∈ UW := uwT 484 (by decide +kernel) (by decide +kernel)
theorem uw_485 : Cond.methodLink RX2 3 yX0_init ∈ UW := uwT 485 (by decide +kernel) (by decide +kernel)
theorem uw_497 : Cond.superclass RX2 RX0 ∈ UW := uwT 497 (by decide +kernel) (by decide +kernel)
theorem uw_498 : Cond.methodLink RL 57 yX11_run ∈ UW := uwT 498 (by decide +kernel) (by decide +kernel)
theorem uw_499 : Cond.instanceMethod yX11_run ∈ UW := uwT 499 (by decide +kernel) (by decide +kernel)
theorem uw_500 : Cond.selects RX11 yX11_run yX11_run ∈ UW := uwT 500 (by decide +kernel) (by decide +kernel)
theorem uw_501 : Cond.code yX11_run cX11_run 4 (Option.some Jvm.ClassFile.FieldType.int) ∈ UW := uwT 501 (by decide +kernel) (by decide +kernel)
theorem uw_502 : Cond.methodLink RX11 133 yX11_passTick ∈ UW := uwT 502 (by decide +kernel) (by decide +kernel)
theorem uw_504 : Cond.instanceMethod yX11_passTick ∈ UW := uwT 504 (by decide +kernel) (by decide +kernel)
theorem uw_505 : Cond.code yX11_passTick cX11_passTick 3 (Option.some Jvm.ClassFile.FieldType.int) ∈ UW := uwT 505 (by decide +kernel) (by decide +kernel)
theorem uw_506 : Cond.methodLink RX11 140 yX11_owedThisTick ∈ UW := uwT 506 (by decide +kernel) (by decide +kernel)
theorem uw_508 : Cond.instanceMethod yX11_owedThisTick ∈ UW := uwT 508 (by decide +kernel) (by decide +kernel)
theorem uw_509 : Cond.code yX11_owedThisTick cX11_owedThisTick 1 (Option.some Jvm.ClassFile.FieldType.int) ∈ UW := uwT 509 (by decide +kernel) (by decide +kernel)
theorem uw_510 : Cond.methodLink RX11 147 yX7_finishFences ∈ UW := uwT 510 (by decide +kernel) (by decide +kernel)
theorem uw_511 : Cond.instanceMethod yX7_finishFences ∈ UW := uwT 511 (by decide +kernel) (by decide +kernel)
theorem uw_512 : Cond.selects RX7 yX7_finishFences yX7_finishFences ∈ UW := uwT 512 (by decide +kernel) (by decide +kernel)
theorem uw_513 : Cond.code yX7_finishFences cX7_finishFences 5 (Option.none : Option Jvm.ClassFile.FieldType) ∈ UW := uwT 513 (by decide +kernel) (by decide +kernel)
theorem uw_514 : Cond.methodLink RX7 66 yX7_unlink ∈ UW := uwT 514 (by decide +kernel) (by decide +kernel)
theorem uw_516 : Cond.instanceMethod yX7_unlink ∈ UW := uwT 516 (by decide +kernel) (by decide +kernel)
theorem uw_517 : Cond.code yX7_unlink cX7_unlink 3 (Option.none : Option Jvm.ClassFile.FieldType) ∈ UW := uwT 517 (by decide +kernel) (by decide +kernel)
theorem uw_518 : Cond.methodLink RX11 143 yX11_choose ∈ UW := uwT 518 (by decide +kernel) (by decide +kernel)
theorem uw_520 : Cond.instanceMethod yX11_choose ∈ UW := uwT 520 (by decide +kernel) (by decide +kernel)
theorem uw_521 : Cond.code yX11_choose cX11_choose 3 (Option.some Jvm.ClassFile.FieldType.int) ∈ UW := uwT 521 (by decide +kernel) (by decide +kernel)
theorem uw_522 : Cond.methodLink RX11 158 yX11_chooseForRefresh ∈ UW := uwT 522 (by decide +kernel) (by decide +kernel)
theorem uw_524 : Cond.instanceMethod yX11_chooseForRefresh ∈ UW := uwT 524 (by decide +kernel) (by decide +kernel)
theorem uw_525 : Cond.code yX11_chooseForRefresh cX11_chooseForRefresh 2 (Option.some Jvm.ClassFile.FieldType.int) ∈ UW := uwT 525 (by decide +kernel) (by decide +kernel)
theorem uw_526 : Cond.methodLink RX11 164 yX11_canGo ∈ UW := uwT 526 (by decide +kernel) (by decide +kernel)
theorem uw_528 : Cond.instanceMethod yX11_canGo ∈ UW := uwT 528 (by decide +kernel) (by decide +kernel)
theorem uw_529 : Cond.code yX11_canGo cX11_canGo 3 (Option.some Jvm.ClassFile.FieldType.boolean) ∈ UW := uwT 529 (by decide +kernel) (by decide +kernel)
theorem uw_530 : Cond.methodLink RX11 187 yX4_allows ∈ UW := uwT 530 (by decide +kernel) (by decide +kernel)
theorem uw_531 : Cond.instanceMethod yX4_allows ∈ UW := uwT 531 (by decide +kernel) (by decide +kernel)
theorem uw_532 : Cond.selects RX4 yX4_allows yX4_allows ∈ UW := uwT 532 (by decide +kernel) (by decide +kernel)
theorem uw_533 : Cond.code yX4_allows cX4_allows 4 (Option.some Jvm.ClassFile.FieldType.boolean) ∈ UW := uwT 533 (by decide +kernel) (by decide +kernel)
theorem uw_534 : Cond.methodLink RX4 22 yX4_areAllShut ∈ UW := uwT 534 (by decide +kernel) (by decide +kernel)
theorem uw_536 : Cond.instanceMethod yX4_areAllShut ∈ UW := uwT 536 (by decide +kernel) (by decide +kernel)
theorem uw_537 : Cond.code yX4_areAllShut cX4_areAllShut 2 (Option.some Jvm.ClassFile.FieldType.boolean) ∈ UW := uwT 537 (by decide +kernel) (by decide +kernel)
theorem uw_538 : Cond.methodLink RX11 190 yX5_leastTick ∈ UW := uwT 538 (by decide +kernel) (by decide +kernel)
theorem uw_539 : Cond.instanceMethod yX5_leastTick ∈ UW := uwT 539 (by decide +kernel) (by decide +kernel)
theorem uw_540 : Cond.selects RX5 yX5_leastTick yX5_leastTick ∈ UW := uwT 540 (by decide +kernel) (by decide +kernel)
theorem uw_541 : Cond.code yX5_leastTick cX5_leastTick 6 (Option.some Jvm.ClassFile.FieldType.int) ∈ UW := uwT 541 (by decide +kernel) (by decide +kernel)
theorem uw_542 : Cond.methodLink RX5 62 yX5_countedFrom ∈ UW := uwT 542 (by decide +kernel) (by decide +kernel)
theorem uw_544 : Cond.instanceMethod yX5_countedFrom ∈ UW := uwT 544 (by decide +kernel) (by decide +kernel)
theorem uw_545 : Cond.code yX5_countedFrom cX5_countedFrom 5 (Option.some Jvm.ClassFile.FieldType.int) ∈ UW := uwT 545 (by decide +kernel) (by decide +kernel)
theorem uw_546 : Cond.methodLink RX5 66 yJ9_max_7cf53 ∈ UW := uwT 546 (by decide +kernel) (by decide +kernel)
theorem uw_547 : Cond.static yJ9_max_7cf53 ∈ UW := uwT 547 (by decide +kernel) (by decide +kernel)
theorem uw_548 : Cond.code yJ9_max_7cf53 cJ9_max_7cf53 2 (Option.some Jvm.ClassFile.FieldType.int) ∈ UW := uwT 548 (by decide +kernel) (by decide +kernel)
theorem uw_549 : Cond.methodLink RX11 161 yX11_chooseForAsks ∈ UW := uwT 549 (by decide +kernel) (by decide +kernel)
theorem uw_551 : Cond.instanceMethod yX11_chooseForAsks ∈ UW := uwT 551 (by decide +kernel) (by decide +kernel)
theorem uw_552 : Cond.code yX11_chooseForAsks cX11_chooseForAsks 7 (Option.some Jvm.ClassFile.FieldType.int) ∈ UW := uwT 552 (by decide +kernel) (by decide +kernel)
theorem uw_553 : Cond.methodLink RX11 168 yX7_arrange ∈ UW := uwT 553 (by decide +kernel) (by decide +kernel)
theorem uw_554 : Cond.instanceMethod yX7_arrange ∈ UW := uwT 554 (by decide +kernel) (by decide +kernel)
theorem uw_555 : Cond.selects RX7 yX7_arrange yX7_arrange ∈ UW := uwT 555 (by decide +kernel) (by decide +kernel)
theorem uw_556 : Cond.code yX7_arrange cX7_arrange 7 (Option.some (Jvm.ClassFile.FieldType.object "RowBank$Ask")) ∈ UW := uwT 556 (by decide +kernel) (by decide +kernel)
theorem uw_557 : Cond.methodLink RX7 81 yX7_rankOf ∈ UW := uwT 557 (by decide +kernel) (by decide +kernel)
theorem uw_559 : Cond.instanceMethod yX7_rankOf ∈ UW := uwT 559 (by decide +kernel) (by decide +kernel)
theorem uw_560 : Cond.code yX7_rankOf cX7_rankOf 4 (Option.some Jvm.ClassFile.FieldType.int) ∈ UW := uwT 560 (by decide +kernel) (by decide +kernel)
theorem uw_561 : Cond.methodLink RX7 88 yX7_insert ∈ UW := uwT 561 (by decide +kernel) (by decide +kernel)
theorem uw_562 : Cond.static yX7_insert ∈ UW := uwT 562 (by decide +kernel) (by decide +kernel)
theorem uw_563 : Cond.code yX7_insert cX7_insert 4 (Option.some (Jvm.ClassFile.FieldType.object "RowBank$Ask")) ∈ UW := uwT 563 (by decide +kernel) (by decide +kernel)
theorem uw_564 : Cond.methodLink RX11 172 yX7_isHeld ∈ UW := uwT 564 (by decide +kernel) (by decide +kernel)
theorem uw_565 : Cond.instanceMethod yX7_isHeld ∈ UW := uwT 565 (by decide +kernel) (by decide +kernel)
theorem uw_566 : Cond.selects RX7 yX7_isHeld yX7_isHeld ∈ UW := uwT 566 (by decide +kernel) (by decide +kernel)
theorem uw_567 : Cond.code yX7_isHeld cX7_isHeld 5 (Option.some Jvm.ClassFile.FieldType.boolean) ∈ UW := uwT 567 (by decide +kernel) (by decide +kernel)
theorem uw_568 : Cond.methodLink RX7 77 yX0_clashesWith ∈ UW := uwT 568 (by decide +kernel) (by decide +kernel)
theorem uw_569 : Cond.instanceMethod yX0_clashesWith ∈ UW := uwT 569 (by decide +kernel) (by decide +kernel)
theorem uw_570 : Cond.sameMethod "RowBank$Ask" "RowBank$Ask" "clashesWith" "(LRowBank$Ask;)Z" ∈ UW := uwT 570 (by decide +kernel) (by decide +kernel)
theorem uw_571 : Cond.selects RX2 yX0_clashesWith yX0_clashesWith ∈ UW := uwT 571 (by decide +kernel) (by decide +kernel)
theorem uw_572 : Cond.selects RX3 yX0_clashesWith yX0_clashesWith ∈ UW := uwT 572 (by decide +kernel) (by decide +kernel)
theorem uw_573 : Cond.selects RX6 yX0_clashesWith yX0_clashesWith ∈ UW := uwT 573 (by decide +kernel) (by decide +kernel)
theorem uw_574 : Cond.selects RX9 yX0_clashesWith yX0_clashesWith ∈ UW := uwT 574 (by decide +kernel) (by decide +kernel)
theorem uw_575 : Cond.selects RX10 yX0_clashesWith yX0_clashesWith ∈ UW := uwT 575 (by decide +kernel) (by decide +kernel)
theorem uw_576 : Cond.code yX0_clashesWith cX0_clashesWith 2 (Option.some Jvm.ClassFile.FieldType.boolean) ∈ UW := uwT 576 (by decide +kernel) (by decide +kernel)
theorem uw_577 : Cond.methodLink RX0 66 yX0_isFence ∈ UW := uwT 577 (by decide +kernel) (by decide +kernel)
theorem uw_578 : Cond.methodLink RX11 181 yX4_stepToward ∈ UW := uwT 578 (by decide +kernel) (by decide +kernel)
theorem uw_579 : Cond.instanceMethod yX4_stepToward ∈ UW := uwT 579 (by decide +kernel) (by decide +kernel)
theorem uw_580 : Cond.selects RX4 yX4_stepToward yX4_stepToward ∈ UW := uwT 580 (by decide +kernel) (by decide +kernel)
theorem uw_581 : Cond.code yX4_stepToward cX4_stepToward 3 (Option.some Jvm.ClassFile.FieldType.int) ∈ UW := uwT 581 (by decide +kernel) (by decide +kernel)
theorem uw_582 : Cond.methodLink RX4 35 yX0_doneBy ∈ UW := uwT 582 (by decide +kernel) (by decide +kernel)
theorem uw_583 : Cond.instanceMethod yX0_doneBy ∈ UW := uwT 583 (by decide +kernel) (by decide +kernel)
theorem uw_584 : Cond.sameMethod "RowBank$Ask" "RowBank$Ask" "doneBy" "()I" ∈ UW := uwT 584 (by decide +kernel) (by decide +kernel)
theorem uw_585 : Cond.selects RX2 yX0_doneBy yX0_doneBy ∈ UW := uwT 585 (by decide +kernel) (by decide +kernel)
theorem uw_586 : Cond.selects RX3 yX0_doneBy yX0_doneBy ∈ UW := uwT 586 (by decide +kernel) (by decide +kernel)
theorem uw_587 : Cond.selects RX6 yX0_doneBy yX6_doneBy ∈ UW := uwT 587 (by decide +kernel) (by decide +kernel)
theorem uw_588 : Cond.instanceMethod yX6_doneBy ∈ UW := uwT 588 (by decide +kernel) (by decide +kernel)
theorem uw_589 : Cond.code yX6_doneBy cX6_doneBy 1 (Option.some Jvm.ClassFile.FieldType.int) ∈ UW := uwT 589 (by decide +kernel) (by decide +kernel)
theorem uw_590 : Cond.selects RX9 yX0_doneBy yX0_doneBy ∈ UW := uwT 590 (by decide +kernel) (by decide +kernel)
theorem uw_591 : Cond.selects RX10 yX0_doneBy yX0_doneBy ∈ UW := uwT 591 (by decide +kernel) (by decide +kernel)
theorem uw_592 : Cond.code yX0_doneBy cX0_doneBy 1 (Option.some Jvm.ClassFile.FieldType.int) ∈ UW := uwT 592 (by decide +kernel) (by decide +kernel)
theorem uw_593 : Cond.methodLink RX11 151 yX11_carryOut ∈ UW := uwT 593 (by decide +kernel) (by decide +kernel)
theorem uw_595 : Cond.instanceMethod yX11_carryOut ∈ UW := uwT 595 (by decide +kernel) (by decide +kernel)
theorem uw_596 : Cond.code yX11_carryOut cX11_carryOut 4 (Option.none : Option Jvm.ClassFile.FieldType) ∈ UW := uwT 596 (by decide +kernel) (by decide +kernel)
theorem uw_597 : Cond.methodLink RX11 194 yX5_remember ∈ UW := uwT 597 (by decide +kernel) (by decide +kernel)
theorem uw_598 : Cond.instanceMethod yX5_remember ∈ UW := uwT 598 (by decide +kernel) (by decide +kernel)
theorem uw_599 : Cond.selects RX5 yX5_remember yX5_remember ∈ UW := uwT 599 (by decide +kernel) (by decide +kernel)
theorem uw_600 : Cond.code yX5_remember cX5_remember 4 (Option.none : Option Jvm.ClassFile.FieldType) ∈ UW := uwT 600 (by decide +kernel) (by decide +kernel)
theorem uw_601 : Cond.methodLink RX5 58 yX5_rememberOpen ∈ UW := uwT 601 (by decide +kernel) (by decide +kernel)
theorem uw_603 : Cond.instanceMethod yX5_rememberOpen ∈ UW := uwT 603 (by decide +kernel) (by decide +kernel)
theorem uw_604 : Cond.code yX5_rememberOpen cX5_rememberOpen 4 (Option.none : Option Jvm.ClassFile.FieldType) ∈ UW := uwT 604 (by decide +kernel) (by decide +kernel)
theorem uw_605 : Cond.methodLink RX11 197 yX1_add ∈ UW := uwT 605 (by decide +kernel) (by decide +kernel)
theorem uw_606 : Cond.instanceMethod yX1_add ∈ UW := uwT 606 (by decide +kernel) (by decide +kernel)
theorem uw_607 : Cond.selects RX1 yX1_add yX1_add ∈ UW := uwT 607 (by decide +kernel) (by decide +kernel)
theorem uw_608 : Cond.code yX1_add cX1_add 5 (Option.none : Option Jvm.ClassFile.FieldType) ∈ UW := uwT 608 (by decide +kernel) (by decide +kernel)
theorem uw_609 : Cond.methodLink RX1 44 yX1_whereOf ∈ UW := uwT 609 (by decide +kernel) (by decide +kernel)
theorem uw_610 : Cond.static yX1_whereOf ∈ UW := uwT 610 (by decide +kernel) (by decide +kernel)
theorem uw_611 : Cond.code yX1_whereOf cX1_whereOf 2 (Option.some Jvm.ClassFile.FieldType.int) ∈ UW := uwT 611 (by decide +kernel) (by decide +kernel)
theorem uw_612 : Cond.methodLink RX11 200 yX4_shutRow ∈ UW := uwT 612 (by decide +kernel) (by decide +kernel)
theorem uw_613 : Cond.instanceMethod yX4_shutRow ∈ UW := uwT 613 (by decide +kernel) (by decide +kernel)
theorem uw_614 : Cond.selects RX4 yX4_shutRow yX4_shutRow ∈ UW := uwT 614 (by decide +kernel) (by decide +kernel)
theorem uw_615 : Cond.code yX4_shutRow cX4_shutRow 2 (Option.none : Option Jvm.ClassFile.FieldType) ∈ UW := uwT 615 (by decide +kernel) (by decide +kernel)
theorem uw_616 : Cond.methodLink RX11 206 yX4_openRow ∈ UW := uwT 616 (by decide +kernel) (by decide +kernel)
theorem uw_617 : Cond.instanceMethod yX4_openRow ∈ UW := uwT 617 (by decide +kernel) (by decide +kernel)
theorem uw_618 : Cond.selects RX4 yX4_openRow yX4_openRow ∈ UW := uwT 618 (by decide +kernel) (by decide +kernel)
theorem uw_619 : Cond.code yX4_openRow cX4_openRow 3 (Option.none : Option Jvm.ClassFile.FieldType) ∈ UW := uwT 619 (by decide +kernel) (by decide +kernel)
theorem uw_620 : Cond.methodLink RX11 210 yX4_serve ∈ UW := uwT 620 (by decide +kernel) (by decide +kernel)
theorem uw_621 : Cond.instanceMethod yX4_serve ∈ UW := uwT 621 (by decide +kernel) (by decide +kernel)
theorem uw_622 : Cond.selects RX4 yX4_serve yX4_serve ∈ UW := uwT 622 (by decide +kernel) (by decide +kernel)
theorem uw_623 : Cond.code yX4_serve cX4_serve 3 (Option.none : Option Jvm.ClassFile.FieldType) ∈ UW := uwT 623 (by decide +kernel) (by decide +kernel)
theorem uw_624 : Cond.methodLink RX4 42 yX0_answerFrom ∈ UW := uwT 624 (by decide +kernel) (by decide +kernel)
theorem uw_625 : Cond.instanceMethod yX0_answerFrom ∈ UW := uwT 625 (by decide +kernel) (by decide +kernel)
theorem uw_626 : Cond.sameMethod "RowBank$Ask" "RowBank$Ask" "answerFrom" "(I)I" ∈ UW := uwT 626 (by decide +kernel) (by decide +kernel)
theorem uw_627 : Cond.selects RX2 yX0_answerFrom yX0_answerFrom ∈ UW := uwT 627 (by decide +kernel) (by decide +kernel)
theorem uw_628 : Cond.selects RX3 yX0_answerFrom yX0_answerFrom ∈ UW := uwT 628 (by decide +kernel) (by decide +kernel)
theorem uw_629 : Cond.selects RX6 yX0_answerFrom yX6_answerFrom ∈ UW := uwT 629 (by decide +kernel) (by decide +kernel)
theorem uw_630 : Cond.instanceMethod yX6_answerFrom ∈ UW := uwT 630 (by decide +kernel) (by decide +kernel)
theorem uw_631 : Cond.code yX6_answerFrom cX6_answerFrom 2 (Option.some Jvm.ClassFile.FieldType.int) ∈ UW := uwT 631 (by decide +kernel) (by decide +kernel)
theorem uw_632 : Cond.selects RX9 yX0_answerFrom yX9_answerFrom ∈ UW := uwT 632 (by decide +kernel) (by decide +kernel)
theorem uw_633 : Cond.instanceMethod yX9_answerFrom ∈ UW := uwT 633 (by decide +kernel) (by decide +kernel)
theorem uw_634 : Cond.code yX9_answerFrom cX9_answerFrom 2 (Option.some Jvm.ClassFile.FieldType.int) ∈ UW := uwT 634 (by decide +kernel) (by decide +kernel)
theorem uw_635 : Cond.selects RX10 yX0_answerFrom yX0_answerFrom ∈ UW := uwT 635 (by decide +kernel) (by decide +kernel)
theorem uw_636 : Cond.code yX0_answerFrom cX0_answerFrom 2 (Option.some Jvm.ClassFile.FieldType.int) ∈ UW := uwT 636 (by decide +kernel) (by decide +kernel)
theorem uw_637 : Cond.methodLink RX4 48 yX0_octetAfter ∈ UW := uwT 637 (by decide +kernel) (by decide +kernel)
theorem uw_638 : Cond.instanceMethod yX0_octetAfter ∈ UW := uwT 638 (by decide +kernel) (by decide +kernel)
theorem uw_639 : Cond.sameMethod "RowBank$Ask" "RowBank$Ask" "octetAfter" "(I)I" ∈ UW := uwT 639 (by decide +kernel) (by decide +kernel)
theorem uw_640 : Cond.selects RX2 yX0_octetAfter yX0_octetAfter ∈ UW := uwT 640 (by decide +kernel) (by decide +kernel)
theorem uw_641 : Cond.selects RX3 yX0_octetAfter yX3_octetAfter ∈ UW := uwT 641 (by decide +kernel) (by decide +kernel)
theorem uw_642 : Cond.instanceMethod yX3_octetAfter ∈ UW := uwT 642 (by decide +kernel) (by decide +kernel)
theorem uw_643 : Cond.code yX3_octetAfter cX3_octetAfter 2 (Option.some Jvm.ClassFile.FieldType.int) ∈ UW := uwT 643 (by decide +kernel) (by decide +kernel)
theorem uw_644 : Cond.selects RX6 yX0_octetAfter yX0_octetAfter ∈ UW := uwT 644 (by decide +kernel) (by decide +kernel)
theorem uw_645 : Cond.selects RX9 yX0_octetAfter yX10_octetAfter ∈ UW := uwT 645 (by decide +kernel) (by decide +kernel)
theorem uw_646 : Cond.instanceMethod yX10_octetAfter ∈ UW := uwT 646 (by decide +kernel) (by decide +kernel)
theorem uw_647 : Cond.code yX10_octetAfter cX10_octetAfter 2 (Option.some Jvm.ClassFile.FieldType.int) ∈ UW := uwT 647 (by decide +kernel) (by decide +kernel)
theorem uw_648 : Cond.selects RX10 yX0_octetAfter yX10_octetAfter ∈ UW := uwT 648 (by decide +kernel) (by decide +kernel)
theorem uw_649 : Cond.code yX0_octetAfter cX0_octetAfter 2 (Option.some Jvm.ClassFile.FieldType.int) ∈ UW := uwT 649 (by decide +kernel) (by decide +kernel)
theorem uw_650 : Cond.methodLink RX11 214 yX7_finish ∈ UW := uwT 650 (by decide +kernel) (by decide +kernel)
theorem uw_651 : Cond.instanceMethod yX7_finish ∈ UW := uwT 651 (by decide +kernel) (by decide +kernel)
theorem uw_652 : Cond.selects RX7 yX7_finish yX7_finish ∈ UW := uwT 652 (by decide +kernel) (by decide +kernel)
theorem uw_653 : Cond.code yX7_finish cX7_finish 6 (Option.none : Option Jvm.ClassFile.FieldType) ∈ UW := uwT 653 (by decide +kernel) (by decide +kernel)
theorem uw_654 : Cond.methodLink RX7 71 yJ9_max_7cf53 ∈ UW := uwT 654 (by decide +kernel) (by decide +kernel)
theorem uw_655 : Cond.methodLink RL 61 yX11_drain ∈ UW := uwT 655 (by decide +kernel) (by decide +kernel)
theorem uw_656 : Cond.instanceMethod yX11_drain ∈ UW := uwT 656 (by decide +kernel) (by decide +kernel)
theorem uw_657 : Cond.selects RX11 yX11_drain yX11_drain ∈ UW := uwT 657 (by decide +kernel) (by decide +kernel)
theorem uw_658 : Cond.code yX11_drain cX11_drain 3 (Option.some Jvm.ClassFile.FieldType.int) ∈ UW := uwT 658 (by decide +kernel) (by decide +kernel)
theorem uw_659 : Cond.methodLink RL 65 yX11_next ∈ UW := uwT 659 (by decide +kernel) (by decide +kernel)
theorem uw_660 : Cond.instanceMethod yX11_next ∈ UW := uwT 660 (by decide +kernel) (by decide +kernel)
theorem uw_661 : Cond.selects RX11 yX11_next yX11_next ∈ UW := uwT 661 (by decide +kernel) (by decide +kernel)
theorem uw_662 : Cond.code yX11_next cX11_next 1 (Option.some Jvm.ClassFile.FieldType.int) ∈ UW := uwT 662 (by decide +kernel) (by decide +kernel)
theorem uw_663 : Cond.methodLink RL 70 yX11_look ∈ UW := uwT 663 (by decide +kernel) (by decide +kernel)
theorem uw_664 : Cond.instanceMethod yX11_look ∈ UW := uwT 664 (by decide +kernel) (by decide +kernel)
theorem uw_665 : Cond.selects RX11 yX11_look yX11_look ∈ UW := uwT 665 (by decide +kernel) (by decide +kernel)
theorem uw_666 : Cond.code yX11_look cX11_look 4 (Option.some Jvm.ClassFile.FieldType.int) ∈ UW := uwT 666 (by decide +kernel) (by decide +kernel)
theorem uw_667 : Cond.methodLink RX11 218 yX7_find ∈ UW := uwT 667 (by decide +kernel) (by decide +kernel)
theorem uw_668 : Cond.instanceMethod yX7_find ∈ UW := uwT 668 (by decide +kernel) (by decide +kernel)
theorem uw_669 : Cond.selects RX7 yX7_find yX7_find ∈ UW := uwT 669 (by decide +kernel) (by decide +kernel)
theorem uw_670 : Cond.code yX7_find cX7_find 2 (Option.some (Jvm.ClassFile.FieldType.object "RowBank$Ask")) ∈ UW := uwT 670 (by decide +kernel) (by decide +kernel)
theorem uw_671 : Cond.methodLink RX11 222 (⟨RX0, "kind", "()I"⟩ : MethodName) ∈ UW := uwT 671 (by decide +kernel) (by decide +kernel)
theorem uw_672 : Cond.methodLink RL 74 yX11_at ∈ UW := uwT 672 (by decide +kernel) (by decide +kernel)
theorem uw_673 : Cond.instanceMethod yX11_at ∈ UW := uwT 673 (by decide +kernel) (by decide +kernel)
theorem uw_674 : Cond.selects RX11 yX11_at yX11_at ∈ UW := uwT 674 (by decide +kernel) (by decide +kernel)
theorem uw_675 : Cond.code yX11_at cX11_at 4 (Option.some Jvm.ClassFile.FieldType.int) ∈ UW := uwT 675 (by decide +kernel) (by decide +kernel)
theorem uw_676 : Cond.methodLink RL 78 yX11_soonest ∈ UW := uwT 676 (by decide +kernel) (by decide +kernel)
theorem uw_677 : Cond.instanceMethod yX11_soonest ∈ UW := uwT 677 (by decide +kernel) (by decide +kernel)
theorem uw_678 : Cond.selects RX11 yX11_soonest yX11_soonest ∈ UW := uwT 678 (by decide +kernel) (by decide +kernel)
theorem uw_679 : Cond.code yX11_soonest cX11_soonest 3 (Option.some Jvm.ClassFile.FieldType.int) ∈ UW := uwT 679 (by decide +kernel) (by decide +kernel)
theorem uw_680 : Cond.methodLink RX11 241 yX11_isBank ∈ UW := uwT 680 (by decide +kernel) (by decide +kernel)
theorem uw_681 : Cond.static yX11_isBank ∈ UW := uwT 681 (by decide +kernel) (by decide +kernel)
theorem uw_682 : Cond.code yX11_isBank cX11_isBank 1 (Option.some Jvm.ClassFile.FieldType.boolean) ∈ UW := uwT 682 (by decide +kernel) (by decide +kernel)
theorem uw_683 : Cond.methodLink RX11 244 yJ9_max_7cf53 ∈ UW := uwT 683 (by decide +kernel) (by decide +kernel)
theorem uw_684 : Cond.methodLink RL 82 yX11_row ∈ UW := uwT 684 (by decide +kernel) (by decide +kernel)
theorem uw_685 : Cond.instanceMethod yX11_row ∈ UW := uwT 685 (by decide +kernel) (by decide +kernel)
theorem uw_686 : Cond.selects RX11 yX11_row yX11_row ∈ UW := uwT 686 (by decide +kernel) (by decide +kernel)
theorem uw_687 : Cond.code yX11_row cX11_row 2 (Option.some Jvm.ClassFile.FieldType.int) ∈ UW := uwT 687 (by decide +kernel) (by decide +kernel)
theorem uw_688 : Cond.methodLink RL 86 yX11_octet ∈ UW := uwT 688 (by decide +kernel) (by decide +kernel)
theorem uw_689 : Cond.instanceMethod yX11_octet ∈ UW := uwT 689 (by decide +kernel) (by decide +kernel)
theorem uw_690 : Cond.selects RX11 yX11_octet yX11_octet ∈ UW := uwT 690 (by decide +kernel) (by decide +kernel)
theorem uw_691 : Cond.code yX11_octet cX11_octet 2 (Option.some Jvm.ClassFile.FieldType.int) ∈ UW := uwT 691 (by decide +kernel) (by decide +kernel)
theorem uw_692 : Cond.methodLink RL 90 yX11_log ∈ UW := uwT 692 (by decide +kernel) (by decide +kernel)
theorem uw_693 : Cond.instanceMethod yX11_log ∈ UW := uwT 693 (by decide +kernel) (by decide +kernel)
theorem uw_694 : Cond.selects RX11 yX11_log yX11_log ∈ UW := uwT 694 (by decide +kernel) (by decide +kernel)
theorem uw_695 : Cond.code yX11_log cX11_log 3 (Option.some Jvm.ClassFile.FieldType.int) ∈ UW := uwT 695 (by decide +kernel) (by decide +kernel)
theorem uw_696 : Cond.methodLink RX11 256 yX1_has ∈ UW := uwT 696 (by decide +kernel) (by decide +kernel)
theorem uw_697 : Cond.instanceMethod yX1_has ∈ UW := uwT 697 (by decide +kernel) (by decide +kernel)
theorem uw_698 : Cond.selects RX1 yX1_has yX1_has ∈ UW := uwT 698 (by decide +kernel) (by decide +kernel)
theorem uw_699 : Cond.code yX1_has cX1_has 2 (Option.some Jvm.ClassFile.FieldType.boolean) ∈ UW := uwT 699 (by decide +kernel) (by decide +kernel)
theorem uw_700 : Cond.methodLink RL 94 yX11_forge ∈ UW := uwT 700 (by decide +kernel) (by decide +kernel)
theorem uw_701 : Cond.instanceMethod yX11_forge ∈ UW := uwT 701 (by decide +kernel) (by decide +kernel)
theorem uw_702 : Cond.selects RX11 yX11_forge yX11_forge ∈ UW := uwT 702 (by decide +kernel) (by decide +kernel)
theorem uw_703 : Cond.code yX11_forge cX11_forge 4 (Option.some Jvm.ClassFile.FieldType.int) ∈ UW := uwT 703 (by decide +kernel) (by decide +kernel)
theorem uw_704 : Cond.constant RX11 274 (Int32.ofInt 1000000) ∈ UW := uwT 704 (by decide +kernel) (by decide +kernel)
theorem uw_705 : Cond.methodLink RL 98 yX11_check ∈ UW := uwT 705 (by decide +kernel) (by decide +kernel)
theorem uw_706 : Cond.instanceMethod yX11_check ∈ UW := uwT 706 (by decide +kernel) (by decide +kernel)
theorem uw_707 : Cond.selects RX11 yX11_check yX11_check ∈ UW := uwT 707 (by decide +kernel) (by decide +kernel)
theorem uw_708 : Cond.code yX11_check cX11_check 1 (Option.some Jvm.ClassFile.FieldType.int) ∈ UW := uwT 708 (by decide +kernel) (by decide +kernel)
theorem uw_709 : Cond.methodLink RX11 278 yX1_findFault ∈ UW := uwT 709 (by decide +kernel) (by decide +kernel)
theorem uw_710 : Cond.instanceMethod yX1_findFault ∈ UW := uwT 710 (by decide +kernel) (by decide +kernel)
theorem uw_711 : Cond.selects RX1 yX1_findFault yX1_findFault ∈ UW := uwT 711 (by decide +kernel) (by decide +kernel)
theorem uw_712 : Cond.code yX1_findFault cX1_findFault 4 (Option.some Jvm.ClassFile.FieldType.int) ∈ UW := uwT 712 (by decide +kernel) (by decide +kernel)
theorem uw_714 : Cond.methodLink RX1 62 yX5_leastBroken ∈ UW := uwT 714 (by decide +kernel) (by decide +kernel)
theorem uw_715 : Cond.instanceMethod yX5_leastBroken ∈ UW := uwT 715 (by decide +kernel) (by decide +kernel)
theorem uw_716 : Cond.selects RX5 yX5_leastBroken yX5_leastBroken ∈ UW := uwT 716 (by decide +kernel) (by decide +kernel)
theorem uw_717 : Cond.code yX5_leastBroken cX5_leastBroken 6 (Option.some Jvm.ClassFile.FieldType.int) ∈ UW := uwT 717 (by decide +kernel) (by decide +kernel)
theorem uw_718 : Cond.methodLink RX1 66 yX5_remember ∈ UW := uwT 718 (by decide +kernel) (by decide +kernel)
theorem uw_719 : Cond.methodLink RL 102 yX11_broken ∈ UW := uwT 719 (by decide +kernel) (by decide +kernel)
theorem uw_720 : Cond.instanceMethod yX11_broken ∈ UW := uwT 720 (by decide +kernel) (by decide +kernel)
theorem uw_721 : Cond.selects RX11 yX11_broken yX11_broken ∈ UW := uwT 721 (by decide +kernel) (by decide +kernel)
theorem uw_722 : Cond.code yX11_broken cX11_broken 1 (Option.some Jvm.ClassFile.FieldType.int) ∈ UW := uwT 722 (by decide +kernel) (by decide +kernel)
theorem uw_723 : Cond.methodLink RL 106 yX11_worst ∈ UW := uwT 723 (by decide +kernel) (by decide +kernel)
theorem uw_724 : Cond.instanceMethod yX11_worst ∈ UW := uwT 724 (by decide +kernel) (by decide +kernel)
theorem uw_725 : Cond.selects RX11 yX11_worst yX11_worst ∈ UW := uwT 725 (by decide +kernel) (by decide +kernel)
theorem uw_726 : Cond.code yX11_worst cX11_worst 2 (Option.some Jvm.ClassFile.FieldType.int) ∈ UW := uwT 726 (by decide +kernel) (by decide +kernel)
theorem uw_727 : Cond.methodLink RL 110 yX11_beside ∈ UW := uwT 727 (by decide +kernel) (by decide +kernel)
theorem uw_728 : Cond.instanceMethod yX11_beside ∈ UW := uwT 728 (by decide +kernel) (by decide +kernel)
theorem uw_729 : Cond.selects RX11 yX11_beside yX11_beside ∈ UW := uwT 729 (by decide +kernel) (by decide +kernel)
theorem uw_730 : Cond.code yX11_beside cX11_beside 1 (Option.some Jvm.ClassFile.FieldType.int) ∈ UW := uwT 730 (by decide +kernel) (by decide +kernel)
theorem uw_731 : Cond.methodLink RX11 288 yX7_isAsIfInTurn ∈ UW := uwT 731 (by decide +kernel) (by decide +kernel)
theorem uw_732 : Cond.instanceMethod yX7_isAsIfInTurn ∈ UW := uwT 732 (by decide +kernel) (by decide +kernel)
theorem uw_733 : Cond.selects RX7 yX7_isAsIfInTurn yX7_isAsIfInTurn ∈ UW := uwT 733 (by decide +kernel) (by decide +kernel)
theorem uw_734 : Cond.code yX7_isAsIfInTurn cX7_isAsIfInTurn 5 (Option.some Jvm.ClassFile.FieldType.boolean) ∈ UW := uwT 734 (by decide +kernel) (by decide +kernel)
theorem uw_735 : Cond.methodLink RX7 106 yJ7_fill_53178 ∈ UW := uwT 735 (by decide +kernel) (by decide +kernel)
theorem uw_736 : Cond.methodLink RX7 115 yX0_answerFrom ∈ UW := uwT 736 (by decide +kernel) (by decide +kernel)
theorem uw_737 : Cond.methodLink RX7 122 yX0_octetAfter ∈ UW := uwT 737 (by decide +kernel) (by decide +kernel)
theorem uw_738 : Cond.methodLink RL 114 yX11_count ∈ UW := uwT 738 (by decide +kernel) (by decide +kernel)
theorem uw_739 : Cond.instanceMethod yX11_count ∈ UW := uwT 739 (by decide +kernel) (by decide +kernel)
theorem uw_740 : Cond.selects RX11 yX11_count yX11_count ∈ UW := uwT 740 (by decide +kernel) (by decide +kernel)
theorem uw_741 : Cond.code yX11_count cX11_count 2 (Option.some Jvm.ClassFile.FieldType.int) ∈ UW := uwT 741 (by decide +kernel) (by decide +kernel)
theorem uw_742 : Cond.methodLink RL 118 yX11_keep ∈ UW := uwT 742 (by decide +kernel) (by decide +kernel)
theorem uw_743 : Cond.instanceMethod yX11_keep ∈ UW := uwT 743 (by decide +kernel) (by decide +kernel)
theorem uw_744 : Cond.selects RX11 yX11_keep yX11_keep ∈ UW := uwT 744 (by decide +kernel) (by decide +kernel)
theorem uw_745 : Cond.code yX11_keep cX11_keep 5 (Option.some Jvm.ClassFile.FieldType.int) ∈ UW := uwT 745 (by decide +kernel) (by decide +kernel)
theorem uw_746 : Cond.methodLink RX11 301 yX11_findShelf ∈ UW := uwT 746 (by decide +kernel) (by decide +kernel)
theorem uw_748 : Cond.instanceMethod yX11_findShelf ∈ UW := uwT 748 (by decide +kernel) (by decide +kernel)
theorem uw_749 : Cond.code yX11_findShelf cX11_findShelf 2 (Option.some (Jvm.ClassFile.FieldType.object "RowBank$Shelf")) ∈ UW := uwT 749 (by decide +kernel) (by decide +kernel)
theorem uw_750 : Cond.methodLink RX11 305 yX8_hold ∈ UW := uwT 750 (by decide +kernel) (by decide +kernel)
theorem uw_751 : Cond.instanceMethod yX8_hold ∈ UW := uwT 751 (by decide +kernel) (by decide +kernel)
theorem uw_752 : Cond.selects RX8 yX8_hold yX8_hold ∈ UW := uwT 752 (by decide +kernel) (by decide +kernel)
theorem uw_753 : Cond.code yX8_hold cX8_hold 4 (Option.none : Option Jvm.ClassFile.FieldType) ∈ UW := uwT 753 (by decide +kernel) (by decide +kernel)
theorem uw_754 : Cond.methodLink RX11 309 yX11_keepAsk ∈ UW := uwT 754 (by decide +kernel) (by decide +kernel)
theorem uw_755 : Cond.static yX11_keepAsk ∈ UW := uwT 755 (by decide +kernel) (by decide +kernel)
theorem uw_756 : Cond.code yX11_keepAsk cX11_keepAsk 2 (Option.some Jvm.ClassFile.FieldType.int) ∈ UW := uwT 756 (by decide +kernel) (by decide +kernel)
theorem uw_757 : Cond.methodLink RX11 313 yX11_keepBytes ∈ UW := uwT 757 (by decide +kernel) (by decide +kernel)
theorem uw_759 : Cond.instanceMethod yX11_keepBytes ∈ UW := uwT 759 (by decide +kernel) (by decide +kernel)
theorem uw_760 : Cond.code yX11_keepBytes cX11_keepBytes 3 (Option.some Jvm.ClassFile.FieldType.int) ∈ UW := uwT 760 (by decide +kernel) (by decide +kernel)
theorem uw_761 : Cond.methodLink RX11 323 yX4_signedRow ∈ UW := uwT 761 (by decide +kernel) (by decide +kernel)
theorem uw_762 : Cond.instanceMethod yX4_signedRow ∈ UW := uwT 762 (by decide +kernel) (by decide +kernel)
theorem uw_763 : Cond.selects RX4 yX4_signedRow yX4_signedRow ∈ UW := uwT 763 (by decide +kernel) (by decide +kernel)
theorem uw_764 : Cond.code yX4_signedRow cX4_signedRow 6 (Option.some (Jvm.ClassFile.FieldType.array Jvm.ClassFile.FieldType.int)) ∈ UW := uwT 764 (by decide +kernel) (by decide +kernel)
theorem uw_765 : Cond.methodLink RX11 317 yJ7_copyOf_59c91 ∈ UW := uwT 765 (by decide +kernel) (by decide +kernel)
theorem uw_766 : Cond.static yJ7_copyOf_59c91 ∈ UW := uwT 766 (by decide +kernel) (by decide +kernel)
theorem uw_767 : Cond.code yJ7_copyOf_59c91 cJ7_copyOf_59c91 3 (Option.some (Jvm.ClassFile.FieldType.array Jvm.ClassFile.FieldType.int)) ∈ UW := uwT 767 (by decide +kernel) (by decide +kernel)
theorem uw_768 : Cond.methodLink RJ7 316 (⟨"[I", "clone", "()Ljava/lang/Object;"⟩ : MethodName) ∈ UW := uwT 768 (by decide +kernel) (by decide +kernel)
theorem uw_769 : Cond.sameMethod "[I" "java/lang/Object" "clone" "()Ljava/lang/Object;" ∈ UW := uwT 769 (by decide +kernel) (by decide +kernel)
theorem uw_770 : Cond.native (⟨"java/lang/Object", "clone", "()Ljava/lang/Object;"⟩ : MethodName) ∈ UW := uwT 770 (by decide +kernel) (by decide +kernel)
theorem uw_771 : Cond.instanceMethod (⟨"java/lang/Object", "clone", "()Ljava/lang/Object;"⟩ : MethodName) ∈ UW := uwT 771 (by decide +kernel) (by decide +kernel)
theorem uw_772 : Cond.selects "[I" (⟨"[I", "clone", "()Ljava/lang/Object;"⟩ : MethodName) (⟨"java/lang/Object", "clone", "()Ljava/lang/Object;"⟩ : MethodName) ∈ UW := uwT 772 (by decide +kernel) (by decide +kernel)
theorem uw_774 : Cond.classLink RJ7 317 "[I" ∈ UW := uwT 774 (by decide +kernel) (by decide +kernel)
theorem uw_775 : Cond.methodLink RJ7 304 yJ9_min_7cf53 ∈ UW := uwT 775 (by decide +kernel) (by decide +kernel)
theorem uw_776 : Cond.static yJ9_min_7cf53 ∈ UW := uwT 776 (by decide +kernel) (by decide +kernel)
theorem uw_777 : Cond.code yJ9_min_7cf53 cJ9_min_7cf53 2 (Option.some Jvm.ClassFile.FieldType.int) ∈ UW := uwT 777 (by decide +kernel) (by decide +kernel)
theorem uw_778 : Cond.methodLink RJ7 150 (⟨RJ10, "arraycopy", "(Ljava/lang/Object;ILjava/lang/Object;II)V"⟩ : MethodName) ∈ UW := uwT 778 (by decide +kernel) (by decide +kernel)
theorem uw_779 : Cond.methodLink RL 122 yX11_make ∈ UW := uwT 779 (by decide +kernel) (by decide +kernel)
theorem uw_780 : Cond.instanceMethod yX11_make ∈ UW := uwT 780 (by decide +kernel) (by decide +kernel)
theorem uw_781 : Cond.selects RX11 yX11_make yX11_make ∈ UW := uwT 781 (by decide +kernel) (by decide +kernel)
theorem uw_782 : Cond.code yX11_make cX11_make 5 (Option.some Jvm.ClassFile.FieldType.int) ∈ UW := uwT 782 (by decide +kernel) (by decide +kernel)
theorem uw_783 : Cond.methodLink RL 135 yX11_copy ∈ UW := uwT 783 (by decide +kernel) (by decide +kernel)
theorem uw_784 : Cond.instanceMethod yX11_copy ∈ UW := uwT 784 (by decide +kernel) (by decide +kernel)
theorem uw_785 : Cond.selects RX11 yX11_copy yX11_copy ∈ UW := uwT 785 (by decide +kernel) (by decide +kernel)
theorem uw_786 : Cond.code yX11_copy cX11_copy 10 (Option.some Jvm.ClassFile.FieldType.int) ∈ UW := uwT 786 (by decide +kernel) (by decide +kernel)
theorem uw_787 : Cond.methodLink RX11 344 yX8_isEmpty ∈ UW := uwT 787 (by decide +kernel) (by decide +kernel)
theorem uw_788 : Cond.instanceMethod yX8_isEmpty ∈ UW := uwT 788 (by decide +kernel) (by decide +kernel)
theorem uw_789 : Cond.selects RX8 yX8_isEmpty yX8_isEmpty ∈ UW := uwT 789 (by decide +kernel) (by decide +kernel)
theorem uw_790 : Cond.code yX8_isEmpty cX8_isEmpty 1 (Option.some Jvm.ClassFile.FieldType.boolean) ∈ UW := uwT 790 (by decide +kernel) (by decide +kernel)
theorem uw_791 : Cond.methodLink RX11 352 yX11_hasSpan ∈ UW := uwT 791 (by decide +kernel) (by decide +kernel)
theorem uw_792 : Cond.static yX11_hasSpan ∈ UW := uwT 792 (by decide +kernel) (by decide +kernel)
theorem uw_793 : Cond.code yX11_hasSpan cX11_hasSpan 3 (Option.some Jvm.ClassFile.FieldType.boolean) ∈ UW := uwT 793 (by decide +kernel) (by decide +kernel)
theorem uw_794 : Cond.methodLink RL 140 yX11_weight ∈ UW := uwT 794 (by decide +kernel) (by decide +kernel)
theorem uw_795 : Cond.instanceMethod yX11_weight ∈ UW := uwT 795 (by decide +kernel) (by decide +kernel)
theorem uw_796 : Cond.selects RX11 yX11_weight yX11_weight ∈ UW := uwT 796 (by decide +kernel) (by decide +kernel)
theorem uw_797 : Cond.code yX11_weight cX11_weight 4 (Option.some Jvm.ClassFile.FieldType.int) ∈ UW := uwT 797 (by decide +kernel) (by decide +kernel)
theorem uw_798 : Cond.methodLink RX11 359 yX8_refusalWithoutAsk ∈ UW := uwT 798 (by decide +kernel) (by decide +kernel)
theorem uw_799 : Cond.instanceMethod yX8_refusalWithoutAsk ∈ UW := uwT 799 (by decide +kernel) (by decide +kernel)
theorem uw_800 : Cond.selects RX8 yX8_refusalWithoutAsk yX8_refusalWithoutAsk ∈ UW := uwT 800 (by decide +kernel) (by decide +kernel)
theorem uw_801 : Cond.code yX8_refusalWithoutAsk cX8_refusalWithoutAsk 1 (Option.some Jvm.ClassFile.FieldType.int) ∈ UW := uwT 801 (by decide +kernel) (by decide +kernel)
theorem uw_802 : Cond.methodLink RX8 23 yX8_isEmpty ∈ UW := uwT 802 (by decide +kernel) (by decide +kernel)
theorem uw_803 : Cond.methodLink RX11 362 yX0_heft ∈ UW := uwT 803 (by decide +kernel) (by decide +kernel)
theorem uw_804 : Cond.instanceMethod yX0_heft ∈ UW := uwT 804 (by decide +kernel) (by decide +kernel)
theorem uw_805 : Cond.sameMethod "RowBank$Ask" "RowBank$Ask" "heft" "()I" ∈ UW := uwT 805 (by decide +kernel) (by decide +kernel)
theorem uw_806 : Cond.selects RX2 yX0_heft yX2_heft ∈ UW := uwT 806 (by decide +kernel) (by decide +kernel)
theorem uw_807 : Cond.instanceMethod yX2_heft ∈ UW := uwT 807 (by decide +kernel) (by decide +kernel)
theorem uw_808 : Cond.code yX2_heft cX2_heft 1 (Option.some Jvm.ClassFile.FieldType.int) ∈ UW := uwT 808 (by decide +kernel) (by decide +kernel)
theorem uw_809 : Cond.methodLink RX2 9 yX0_heft ∈ UW := uwT 809 (by decide +kernel) (by decide +kernel)
theorem uw_810 : Cond.selects RX3 yX0_heft yX3_heft ∈ UW := uwT 810 (by decide +kernel) (by decide +kernel)
theorem uw_811 : Cond.instanceMethod yX3_heft ∈ UW := uwT 811 (by decide +kernel) (by decide +kernel)
theorem uw_812 : Cond.code yX3_heft cX3_heft 1 (Option.some Jvm.ClassFile.FieldType.int) ∈ UW := uwT 812 (by decide +kernel) (by decide +kernel)
theorem uw_813 : Cond.methodLink RX3 15 yX10_heft ∈ UW := uwT 813 (by decide +kernel) (by decide +kernel)
theorem uw_814 : Cond.instanceMethod yX10_heft ∈ UW := uwT 814 (by decide +kernel) (by decide +kernel)
theorem uw_815 : Cond.code yX10_heft cX10_heft 1 (Option.some Jvm.ClassFile.FieldType.int) ∈ UW := uwT 815 (by decide +kernel) (by decide +kernel)
theorem uw_816 : Cond.methodLink RX10 15 yX0_heft ∈ UW := uwT 816 (by decide +kernel) (by decide +kernel)
theorem uw_817 : Cond.selects RX6 yX0_heft yX0_heft ∈ UW := uwT 817 (by decide +kernel) (by decide +kernel)
theorem uw_818 : Cond.selects RX9 yX0_heft yX9_heft ∈ UW := uwT 818 (by decide +kernel) (by decide +kernel)
theorem uw_819 : Cond.instanceMethod yX9_heft ∈ UW := uwT 819 (by decide +kernel) (by decide +kernel)
theorem uw_820 : Cond.code yX9_heft cX9_heft 1 (Option.some Jvm.ClassFile.FieldType.int) ∈ UW := uwT 820 (by decide +kernel) (by decide +kernel)
theorem uw_821 : Cond.methodLink RX9 9 yX10_heft ∈ UW := uwT 821 (by decide +kernel) (by decide +kernel)
theorem uw_822 : Cond.selects RX10 yX0_heft yX10_heft ∈ UW := uwT 822 (by decide +kernel) (by decide +kernel)
theorem uw_823 : Cond.code yX0_heft cX0_heft 1 (Option.some Jvm.ClassFile.FieldType.int) ∈ UW := uwT 823 (by decide +kernel) (by decide +kernel)
theorem uw_824 : Cond.methodLink RL 144 yX11_toss ∈ UW := uwT 824 (by decide +kernel) (by decide +kernel)
theorem uw_825 : Cond.instanceMethod yX11_toss ∈ UW := uwT 825 (by decide +kernel) (by decide +kernel)
theorem uw_826 : Cond.selects RX11 yX11_toss yX11_toss ∈ UW := uwT 826 (by decide +kernel) (by decide +kernel)
theorem uw_828 : Cond.classLink RX11 368 "java/lang/UnsupportedOperationException" ∈ UW := uwT 828 (by decide +kernel) (by decide +kernel)
theorem uw_829 : Cond.methodLink RX11 365 yX0_fail ∈ UW := uwT 829 (by decide +kernel) (by decide +kernel)
theorem uw_830 : Cond.instanceMethod yX0_fail ∈ UW := uwT 830 (by decide +kernel) (by decide +kernel)
theorem uw_831 : Cond.sameMethod "RowBank$Ask" "RowBank$Ask" "fail" "()V" ∈ UW := uwT 831 (by decide +kernel) (by decide +kernel)
theorem uw_832 : Cond.selects RX2 yX0_fail yX0_fail ∈ UW := uwT 832 (by decide +kernel) (by decide +kernel)
theorem uw_833 : Cond.selects RX3 yX0_fail yX0_fail ∈ UW := uwT 833 (by decide +kernel) (by decide +kernel)
theorem uw_834 : Cond.selects RX6 yX0_fail yX6_fail ∈ UW := uwT 834 (by decide +kernel) (by decide +kernel)
theorem uw_835 : Cond.instanceMethod yX6_fail ∈ UW := uwT 835 (by decide +kernel) (by decide +kernel)
theorem uw_836 : Cond.code yX6_fail cX6_fail 1 (Option.none : Option Jvm.ClassFile.FieldType) ∈ UW := uwT 836 (by decide +kernel) (by decide +kernel)
theorem uw_837 : Cond.selects RX9 yX0_fail yX0_fail ∈ UW := uwT 837 (by decide +kernel) (by decide +kernel)
theorem uw_838 : Cond.selects RX10 yX0_fail yX0_fail ∈ UW := uwT 838 (by decide +kernel) (by decide +kernel)
theorem uw_839 : Cond.code yX0_fail cX0_fail 1 (Option.none : Option Jvm.ClassFile.FieldType) ∈ UW := uwT 839 (by decide +kernel) (by decide +kernel)
theorem uw_840 : Cond.classLink RX0 55 "java/lang/UnsupportedOperationException" ∈ UW := uwT 840 (by decide +kernel) (by decide +kernel)
theorem uw_841 : Cond.instantiable "java/lang/UnsupportedOperationException" 6 ∈ UW := uwT 841 (by decide +kernel) (by decide +kernel)
theorem uw_849 : Cond.selects "java/lang/UnsupportedOperationException" (⟨"java/lang/Throwable", "fillInStackTrace", "(I)Ljava/lang/Throwable;"⟩ : MethodName) (⟨"java/lang/Throwable", "fillInStackTrace", "(I)Ljava/lang/Throwable;"⟩ : MethodName) ∈ UW := uwT 849 (by decide +kernel) (by decide +kernel)
theorem uw_850 : Cond.selects "java/lang/UnsupportedOperationException" (⟨"java/lang/Throwable", "fillInStackTrace", "()Ljava/lang/Throwable;"⟩ : MethodName) (⟨"java/lang/Throwable", "fillInStackTrace", "()Ljava/lang/Throwable;"⟩ : MethodName) ∈ UW := uwT 850 (by decide +kernel) (by decide +kernel)
theorem uw_861 : Cond.fieldLink "java/lang/Throwable" 198 "java/lang/Throwable" "backtrace" "Ljava/lang/Object;" ∈ UW := uwT 861 (by decide +kernel) (by decide +kernel)
theorem uw_862 : Cond.superclass "java/lang/Throwable" "java/lang/Object" ∈ UW := uwT 862 (by decide +kernel) (by decide +kernel)
theorem uw_863 : Cond.instanceMethod (⟨"java/lang/Throwable", "<init>", "()V"⟩ : MethodName) ∈ UW := uwT 863 (by decide +kernel) (by decide +kernel)
theorem uw_864 : Cond.code (⟨"java/lang/Throwable", "<init>", "()V"⟩ : MethodName) prog_23_method_1_code 1 (Option.none : Option Jvm.ClassFile.FieldType) ∈ UW := uwT 864 (by decide +kernel) (by decide +kernel)
theorem uw_865 : Cond.methodLink "java/lang/Throwable" 1 (⟨"java/lang/Object", "<init>", "()V"⟩ : MethodName) ∈ UW := uwT 865 (by decide +kernel) (by decide +kernel)
theorem uw_866 : Cond.fieldLink "java/lang/Throwable" 13 "java/lang/Throwable" "UNASSIGNED_STACK" "[Ljava/lang/StackTraceElement;" ∈ UW := uwT 866 (by decide +kernel) (by decide +kernel)
theorem uw_868 : Cond.fieldLink "java/lang/Throwable" 20 "java/lang/Throwable" "SUPPRESSED_SENTINEL" "Ljava/util/List;" ∈ UW := uwT 868 (by decide +kernel) (by decide +kernel)
theorem uw_870 : Cond.methodLink "java/lang/Throwable" 27 (⟨"java/lang/Throwable", "fillInStackTrace", "()Ljava/lang/Throwable;"⟩ : MethodName) ∈ UW := uwT 870 (by decide +kernel) (by decide +kernel)
theorem uw_871 : Cond.instanceMethod (⟨"java/lang/Throwable", "fillInStackTrace", "()Ljava/lang/Throwable;"⟩ : MethodName) ∈ UW := uwT 871 (by decide +kernel) (by decide +kernel)
theorem uw_872 : Cond.sameMethod "java/lang/Throwable" "java/lang/Throwable" "fillInStackTrace" "()Ljava/lang/Throwable;" ∈ UW := uwT 872 (by decide +kernel) (by decide +kernel)
theorem uw_873 : Cond.selects "java/lang/IllegalArgumentException" (⟨"java/lang/Throwable", "fillInStackTrace", "()Ljava/lang/Throwable;"⟩ : MethodName) (⟨"java/lang/Throwable", "fillInStackTrace", "()Ljava/lang/Throwable;"⟩ : MethodName) ∈ UW := uwT 873 (by decide +kernel) (by decide +kernel)
theorem uw_874 : Cond.selects "java/lang/IllegalStateException" (⟨"java/lang/Throwable", "fillInStackTrace", "()Ljava/lang/Throwable;"⟩ : MethodName) (⟨"java/lang/Throwable", "fillInStackTrace", "()Ljava/lang/Throwable;"⟩ : MethodName) ∈ UW := uwT 874 (by decide +kernel) (by decide +kernel)
theorem uw_876 : Cond.methodLink "java/lang/Throwable" 202 (⟨"java/lang/Throwable", "fillInStackTrace", "(I)Ljava/lang/Throwable;"⟩ : MethodName) ∈ UW := uwT 876 (by decide +kernel) (by decide +kernel)
theorem uw_878 : Cond.instanceMethod (⟨"java/lang/Throwable", "fillInStackTrace", "(I)Ljava/lang/Throwable;"⟩ : MethodName) ∈ UW := uwT 878 (by decide +kernel) (by decide +kernel)
theorem uw_879 : Cond.instantiable "java/lang/Throwable" 6 ∈ UW := uwT 879 (by decide +kernel) (by decide +kernel)
theorem uw_880 : Cond.native (⟨"java/lang/Throwable", "fillInStackTrace", "(I)Ljava/lang/Throwable;"⟩ : MethodName) ∈ UW := uwT 880 (by decide +kernel) (by decide +kernel)
theorem uw_882 : Cond.methodLink RX0 59 (⟨"java/lang/UnsupportedOperationException", "<init>", "(Ljava/lang/String;)V"⟩ : MethodName) ∈ UW := uwT 882 (by decide +kernel) (by decide +kernel)
theorem uw_883 : Cond.instanceMethod (⟨"java/lang/UnsupportedOperationException", "<init>", "(Ljava/lang/String;)V"⟩ : MethodName) ∈ UW := uwT 883 (by decide +kernel) (by decide +kernel)
theorem uw_884 : Cond.code (⟨"java/lang/UnsupportedOperationException", "<init>", "(Ljava/lang/String;)V"⟩ : MethodName) prog_24_method_2_code 2 (Option.none : Option Jvm.ClassFile.FieldType) ∈ UW := uwT 884 (by decide +kernel) (by decide +kernel)
theorem uw_885 : Cond.methodLink "java/lang/UnsupportedOperationException" 7 (⟨"java/lang/RuntimeException", "<init>", "(Ljava/lang/String;)V"⟩ : MethodName) ∈ UW := uwT 885 (by decide +kernel) (by decide +kernel)
theorem uw_886 : Cond.instanceMethod (⟨"java/lang/RuntimeException", "<init>", "(Ljava/lang/String;)V"⟩ : MethodName) ∈ UW := uwT 886 (by decide +kernel) (by decide +kernel)
theorem uw_887 : Cond.code (⟨"java/lang/RuntimeException", "<init>", "(Ljava/lang/String;)V"⟩ : MethodName) prog_20_method_2_code 2 (Option.none : Option Jvm.ClassFile.FieldType) ∈ UW := uwT 887 (by decide +kernel) (by decide +kernel)
theorem uw_888 : Cond.methodLink "java/lang/RuntimeException" 7 (⟨"java/lang/Exception", "<init>", "(Ljava/lang/String;)V"⟩ : MethodName) ∈ UW := uwT 888 (by decide +kernel) (by decide +kernel)
theorem uw_889 : Cond.instanceMethod (⟨"java/lang/Exception", "<init>", "(Ljava/lang/String;)V"⟩ : MethodName) ∈ UW := uwT 889 (by decide +kernel) (by decide +kernel)
theorem uw_890 : Cond.code (⟨"java/lang/Exception", "<init>", "(Ljava/lang/String;)V"⟩ : MethodName) prog_16_method_2_code 2 (Option.none : Option Jvm.ClassFile.FieldType) ∈ UW := uwT 890 (by decide +kernel) (by decide +kernel)
theorem uw_891 : Cond.methodLink "java/lang/Exception" 7 (⟨"java/lang/Throwable", "<init>", "(Ljava/lang/String;)V"⟩ : MethodName) ∈ UW := uwT 891 (by decide +kernel) (by decide +kernel)
theorem uw_892 : Cond.instanceMethod (⟨"java/lang/Throwable", "<init>", "(Ljava/lang/String;)V"⟩ : MethodName) ∈ UW := uwT 892 (by decide +kernel) (by decide +kernel)
theorem uw_893 : Cond.code (⟨"java/lang/Throwable", "<init>", "(Ljava/lang/String;)V"⟩ : MethodName) prog_23_method_2_code 2 (Option.none : Option Jvm.ClassFile.FieldType) ∈ UW := uwT 893 (by decide +kernel) (by decide +kernel)
theorem uw_894 : Cond.fieldLink "java/lang/Throwable" 198 "java/lang/Throwable" "backtrace" "Ljava/lang/Object;" ∈ UW := uwT 894 (by decide +kernel) (by decide +kernel)
theorem uw_895 : Cond.fieldLink "java/lang/Throwable" 31 "java/lang/Throwable" "detailMessage" "Ljava/lang/String;" ∈ UW := uwT 895 (by decide +kernel) (by decide +kernel)
theorem uw_896 : Cond.fieldLink "java/lang/Throwable" 7 "java/lang/Throwable" "cause" "Ljava/lang/Throwable;" ∈ UW := uwT 896 (by decide +kernel) (by decide +kernel)
theorem uw_897 : Cond.fieldLink "java/lang/Throwable" 17 "java/lang/Throwable" "stackTrace" "[Ljava/lang/StackTraceElement;" ∈ UW := uwT 897 (by decide +kernel) (by decide +kernel)
theorem uw_898 : Cond.fieldLink "java/lang/Throwable" 24 "java/lang/Throwable" "suppressedExceptions" "Ljava/util/List;" ∈ UW := uwT 898 (by decide +kernel) (by decide +kernel)
theorem uw_906 : Cond.superclass "java/lang/UnsupportedOperationException" "java/lang/RuntimeException" ∈ UW := uwT 906 (by decide +kernel) (by decide +kernel)
theorem uw_908 : Cond.methodLink RL 126 yL_element ∈ UW := uwT 908 (by decide +kernel) (by decide +kernel)
theorem uw_909 : Cond.static yL_element ∈ UW := uwT 909 (by decide +kernel) (by decide +kernel)
theorem uw_911 : Cond.classLink RL 13 "java/lang/IllegalArgumentException" ∈ UW := uwT 911 (by decide +kernel) (by decide +kernel)
theorem uw_912 : Cond.classLink RL 15 "java/lang/IllegalStateException" ∈ UW := uwT 912 (by decide +kernel) (by decide +kernel)
theorem uw_913 : Cond.methodLink RL 7 yX11_element ∈ UW := uwT 913 (by decide +kernel) (by decide +kernel)
theorem uw_914 : Cond.instanceMethod yX11_element ∈ UW := uwT 914 (by decide +kernel) (by decide +kernel)
theorem uw_915 : Cond.selects RX11 yX11_element yX11_element ∈ UW := uwT 915 (by decide +kernel) (by decide +kernel)
theorem uw_916 : Cond.code yX11_element cX11_element 5 (Option.some Jvm.ClassFile.FieldType.long) ∈ UW := uwT 916 (by decide +kernel) (by decide +kernel)
theorem uw_917 : Cond.classLink RX11 327 "java/lang/IllegalArgumentException" ∈ UW := uwT 917 (by decide +kernel) (by decide +kernel)
theorem uw_918 : Cond.instantiable "java/lang/IllegalArgumentException" 6 ∈ UW := uwT 918 (by decide +kernel) (by decide +kernel)
theorem uw_920 : Cond.selects "java/lang/IllegalArgumentException" (⟨"java/lang/Throwable", "fillInStackTrace", "(I)Ljava/lang/Throwable;"⟩ : MethodName) (⟨"java/lang/Throwable", "fillInStackTrace", "(I)Ljava/lang/Throwable;"⟩ : MethodName) ∈ UW := uwT 920 (by decide +kernel) (by decide +kernel)
theorem uw_927 : Cond.methodLink RX11 331 (⟨"java/lang/IllegalArgumentException", "<init>", "(Ljava/lang/String;)V"⟩ : MethodName) ∈ UW := uwT 927 (by decide +kernel) (by decide +kernel)
theorem uw_928 : Cond.instanceMethod (⟨"java/lang/IllegalArgumentException", "<init>", "(Ljava/lang/String;)V"⟩ : MethodName) ∈ UW := uwT 928 (by decide +kernel) (by decide +kernel)
theorem uw_929 : Cond.code (⟨"java/lang/IllegalArgumentException", "<init>", "(Ljava/lang/String;)V"⟩ : MethodName) prog_17_method_2_code 2 (Option.none : Option Jvm.ClassFile.FieldType) ∈ UW := uwT 929 (by decide +kernel) (by decide +kernel)
theorem uw_930 : Cond.methodLink "java/lang/IllegalArgumentException" 7 (⟨"java/lang/RuntimeException", "<init>", "(Ljava/lang/String;)V"⟩ : MethodName) ∈ UW := uwT 930 (by decide +kernel) (by decide +kernel)
theorem uw_932 : Cond.superclass "java/lang/IllegalArgumentException" "java/lang/RuntimeException" ∈ UW := uwT 932 (by decide +kernel) (by decide +kernel)
theorem uw_933 : Cond.classLink RX11 337 "java/lang/IllegalStateException" ∈ UW := uwT 933 (by decide +kernel) (by decide +kernel)
theorem uw_934 : Cond.instantiable "java/lang/IllegalStateException" 6 ∈ UW := uwT 934 (by decide +kernel) (by decide +kernel)
theorem uw_936 : Cond.selects "java/lang/IllegalStateException" (⟨"java/lang/Throwable", "fillInStackTrace", "(I)Ljava/lang/Throwable;"⟩ : MethodName) (⟨"java/lang/Throwable", "fillInStackTrace", "(I)Ljava/lang/Throwable;"⟩ : MethodName) ∈ UW := uwT 936 (by decide +kernel) (by decide +kernel)
theorem uw_943 : Cond.methodLink RX11 341 (⟨"java/lang/IllegalStateException", "<init>", "(Ljava/lang/String;)V"⟩ : MethodName) ∈ UW := uwT 943 (by decide +kernel) (by decide +kernel)
theorem uw_944 : Cond.instanceMethod (⟨"java/lang/IllegalStateException", "<init>", "(Ljava/lang/String;)V"⟩ : MethodName) ∈ UW := uwT 944 (by decide +kernel) (by decide +kernel)
theorem uw_945 : Cond.code (⟨"java/lang/IllegalStateException", "<init>", "(Ljava/lang/String;)V"⟩ : MethodName) prog_18_method_2_code 2 (Option.none : Option Jvm.ClassFile.FieldType) ∈ UW := uwT 945 (by decide +kernel) (by decide +kernel)
theorem uw_946 : Cond.methodLink "java/lang/IllegalStateException" 7 (⟨"java/lang/RuntimeException", "<init>", "(Ljava/lang/String;)V"⟩ : MethodName) ∈ UW := uwT 946 (by decide +kernel) (by decide +kernel)
theorem uw_948 : Cond.superclass "java/lang/IllegalStateException" "java/lang/RuntimeException" ∈ UW := uwT 948 (by decide +kernel) (by decide +kernel)
theorem uw_950 : Cond.classLink RL 18 RX12 ∈ UW := uwT 950 (by decide +kernel) (by decide +kernel)
theorem uw_951 : Cond.instantiable RX12 50 ∈ UW := uwT 951 (by decide +kernel) (by decide +kernel)
theorem uw_952 : Cond.methodLink RL 20 yX12_init ∈ UW := uwT 952 (by decide +kernel) (by decide +kernel)
theorem uw_953 : Cond.instanceMethod yX12_init ∈ UW := uwT 953 (by decide +kernel) (by decide +kernel)
theorem uw_954 : Cond.code yX12_init cX12_init 1 (Option.none : Option Jvm.ClassFile.FieldType) ∈ UW := uwT 954 (by decide +kernel) (by decide +kernel)
theorem uw_955 : Cond.methodLink RX12 1 (⟨"java/lang/Object", "<init>", "()V"⟩ : MethodName) ∈ UW := uwT 955 (by decide +kernel) (by decide +kernel)
theorem uw_956 : Cond.fieldLink RX12 113 "RowBankModel" "thrown" "I" ∈ UW := uwT 956 (by decide +kernel) (by decide +kernel)
theorem uw_957 : Cond.fieldLink RX12 7 "RowBankModel" "time" "[I" ∈ UW := uwT 957 (by decide +kernel) (by decide +kernel)
theorem uw_958 : Cond.fieldLink RX12 130 "RowBankModel" "every" "I" ∈ UW := uwT 958 (by decide +kernel) (by decide +kernel)
theorem uw_959 : Cond.fieldLink RX12 13 "RowBankModel" "due" "I" ∈ UW := uwT 959 (by decide +kernel) (by decide +kernel)
theorem uw_960 : Cond.fieldLink RX12 135 "RowBankModel" "order" "I" ∈ UW := uwT 960 (by decide +kernel) (by decide +kernel)
theorem uw_961 : Cond.fieldLink RX12 17 "RowBankModel" "limit" "I" ∈ UW := uwT 961 (by decide +kernel) (by decide +kernel)
theorem uw_962 : Cond.fieldLink RX12 20 "RowBankModel" "open" "I" ∈ UW := uwT 962 (by decide +kernel) (by decide +kernel)
theorem uw_963 : Cond.fieldLink RX12 218 "RowBankModel" "owed" "I" ∈ UW := uwT 963 (by decide +kernel) (by decide +kernel)
theorem uw_964 : Cond.fieldLink RX12 250 "RowBankModel" "refreshes" "I" ∈ UW := uwT 964 (by decide +kernel) (by decide +kernel)
theorem uw_965 : Cond.fieldLink RX12 244 "RowBankModel" "commands" "I" ∈ UW := uwT 965 (by decide +kernel) (by decide +kernel)
theorem uw_966 : Cond.fieldLink RX12 253 "RowBankModel" "opens" "I" ∈ UW := uwT 966 (by decide +kernel) (by decide +kernel)
theorem uw_967 : Cond.fieldLink RX12 23 "RowBankModel" "row" "[I" ∈ UW := uwT 967 (by decide +kernel) (by decide +kernel)
theorem uw_968 : Cond.fieldLink RX12 26 "RowBankModel" "memory" "[I" ∈ UW := uwT 968 (by decide +kernel) (by decide +kernel)
theorem uw_969 : Cond.fieldLink RX12 141 "RowBankModel" "asks" "I" ∈ UW := uwT 969 (by decide +kernel) (by decide +kernel)
theorem uw_970 : Cond.fieldLink RX12 138 "RowBankModel" "waiting" "I" ∈ UW := uwT 970 (by decide +kernel) (by decide +kernel)
theorem uw_971 : Cond.fieldLink RX12 29 "RowBankModel" "kind" "[I" ∈ UW := uwT 971 (by decide +kernel) (by decide +kernel)
theorem uw_972 : Cond.fieldLink RX12 32 "RowBankModel" "asker" "[I" ∈ UW := uwT 972 (by decide +kernel) (by decide +kernel)
theorem uw_973 : Cond.fieldLink RX12 35 "RowBankModel" "address" "[I" ∈ UW := uwT 973 (by decide +kernel) (by decide +kernel)
theorem uw_974 : Cond.fieldLink RX12 38 "RowBankModel" "value" "[I" ∈ UW := uwT 974 (by decide +kernel) (by decide +kernel)
theorem uw_975 : Cond.fieldLink RX12 41 "RowBankModel" "bits" "[I" ∈ UW := uwT 975 (by decide +kernel) (by decide +kernel)
theorem uw_976 : Cond.fieldLink RX12 44 "RowBankModel" "came" "[I" ∈ UW := uwT 976 (by decide +kernel) (by decide +kernel)
theorem uw_977 : Cond.fieldLink RX12 47 "RowBankModel" "done" "[I" ∈ UW := uwT 977 (by decide +kernel) (by decide +kernel)
theorem uw_978 : Cond.fieldLink RX12 50 "RowBankModel" "answer" "[I" ∈ UW := uwT 978 (by decide +kernel) (by decide +kernel)
theorem uw_979 : Cond.fieldLink RX12 53 "RowBankModel" "doneOf" "[I" ∈ UW := uwT 979 (by decide +kernel) (by decide +kernel)
theorem uw_980 : Cond.fieldLink RX12 56 "RowBankModel" "oldest" "I" ∈ UW := uwT 980 (by decide +kernel) (by decide +kernel)
theorem uw_981 : Cond.fieldLink RX12 147 "RowBankModel" "since" "I" ∈ UW := uwT 981 (by decide +kernel) (by decide +kernel)
theorem uw_982 : Cond.fieldLink RX12 184 "RowBankModel" "recent" "I" ∈ UW := uwT 982 (by decide +kernel) (by decide +kernel)
theorem uw_983 : Cond.fieldLink RX12 59 "RowBankModel" "recentTick" "[I" ∈ UW := uwT 983 (by decide +kernel) (by decide +kernel)
theorem uw_984 : Cond.fieldLink RX12 62 "RowBankModel" "recentWhat" "[I" ∈ UW := uwT 984 (by decide +kernel) (by decide +kernel)
theorem uw_985 : Cond.fieldLink RX12 65 "RowBankModel" "recentBank" "[I" ∈ UW := uwT 985 (by decide +kernel) (by decide +kernel)
theorem uw_986 : Cond.fieldLink RX12 241 "RowBankModel" "logged" "I" ∈ UW := uwT 986 (by decide +kernel) (by decide +kernel)
theorem uw_987 : Cond.fieldLink RX12 68 "RowBankModel" "logTick" "[I" ∈ UW := uwT 987 (by decide +kernel) (by decide +kernel)
theorem uw_988 : Cond.fieldLink RX12 71 "RowBankModel" "logForged" "[I" ∈ UW := uwT 988 (by decide +kernel) (by decide +kernel)
theorem uw_989 : Cond.fieldLink RX12 74 "RowBankModel" "logWhat" "[I" ∈ UW := uwT 989 (by decide +kernel) (by decide +kernel)
theorem uw_990 : Cond.fieldLink RX12 77 "RowBankModel" "logBank" "[I" ∈ UW := uwT 990 (by decide +kernel) (by decide +kernel)
theorem uw_991 : Cond.fieldLink RX12 80 "RowBankModel" "logPlace" "[I" ∈ UW := uwT 991 (by decide +kernel) (by decide +kernel)
theorem uw_992 : Cond.fieldLink RX12 83 "RowBankModel" "logAsk" "[I" ∈ UW := uwT 992 (by decide +kernel) (by decide +kernel)
theorem uw_993 : Cond.fieldLink RX12 86 "RowBankModel" "broken" "I" ∈ UW := uwT 993 (by decide +kernel) (by decide +kernel)
theorem uw_994 : Cond.fieldLink RX12 89 "RowBankModel" "row0" "[I" ∈ UW := uwT 994 (by decide +kernel) (by decide +kernel)
theorem uw_995 : Cond.fieldLink RX12 178 "RowBankModel" "ordered" "I" ∈ UW := uwT 995 (by decide +kernel) (by decide +kernel)
theorem uw_996 : Cond.fieldLink RX12 202 "RowBankModel" "what" "I" ∈ UW := uwT 996 (by decide +kernel) (by decide +kernel)
theorem uw_997 : Cond.fieldLink RX12 205 "RowBankModel" "whatBank" "I" ∈ UW := uwT 997 (by decide +kernel) (by decide +kernel)
theorem uw_998 : Cond.fieldLink RX12 208 "RowBankModel" "whatAsk" "I" ∈ UW := uwT 998 (by decide +kernel) (by decide +kernel)
theorem uw_999 : Cond.fieldLink RX12 92 "RowBankModel" "kept" "[I" ∈ UW := uwT 999 (by decide +kernel) (by decide +kernel)
theorem uw_1000 : Cond.fieldLink RX12 95 "RowBankModel" "plain" "[I" ∈ UW := uwT 1000 (by decide +kernel) (by decide +kernel)
theorem uw_1001 : Cond.fieldLink RX12 98 "RowBankModel" "shelf" "[I" ∈ UW := uwT 1001 (by decide +kernel) (by decide +kernel)
theorem uw_1002 : Cond.fieldLink RX12 101 "RowBankModel" "shelfSize" "[I" ∈ UW := uwT 1002 (by decide +kernel) (by decide +kernel)
theorem uw_1003 : Cond.fieldLink RX12 104 "RowBankModel" "shelfAsk" "[I" ∈ UW := uwT 1003 (by decide +kernel) (by decide +kernel)
theorem uw_1004 : Cond.fieldLink RX12 107 "RowBankModel" "shelfRow" "[I" ∈ UW := uwT 1004 (by decide +kernel) (by decide +kernel)
theorem uw_1005 : Cond.fieldLink RX12 110 "RowBankModel" "between" "[I" ∈ UW := uwT 1005 (by decide +kernel) (by decide +kernel)
theorem uw_1106 : Cond.superclass RX12 "java/lang/Object" ∈ UW := uwT 1106 (by decide +kernel) (by decide +kernel)
theorem uw_1107 : Cond.methodLink RL 132 yX12_thrown ∈ UW := uwT 1107 (by decide +kernel) (by decide +kernel)
theorem uw_1108 : Cond.instanceMethod yX12_thrown ∈ UW := uwT 1108 (by decide +kernel) (by decide +kernel)
theorem uw_1109 : Cond.selects RX12 yX12_thrown yX12_thrown ∈ UW := uwT 1109 (by decide +kernel) (by decide +kernel)
theorem uw_1110 : Cond.code yX12_thrown cX12_thrown 1 (Option.some Jvm.ClassFile.FieldType.int) ∈ UW := uwT 1110 (by decide +kernel) (by decide +kernel)
theorem uw_1111 : Cond.methodLink RL 25 yX12_time ∈ UW := uwT 1111 (by decide +kernel) (by decide +kernel)
theorem uw_1112 : Cond.instanceMethod yX12_time ∈ UW := uwT 1112 (by decide +kernel) (by decide +kernel)
theorem uw_1113 : Cond.selects RX12 yX12_time yX12_time ∈ UW := uwT 1113 (by decide +kernel) (by decide +kernel)
theorem uw_1114 : Cond.code yX12_time cX12_time 4 (Option.some Jvm.ClassFile.FieldType.int) ∈ UW := uwT 1114 (by decide +kernel) (by decide +kernel)
theorem uw_1115 : Cond.constantLong RX12 116 (Int64.ofInt 12) ∈ UW := uwT 1115 (by decide +kernel) (by decide +kernel)
theorem uw_1116 : Cond.methodLink RX12 118 yX12_isIn ∈ UW := uwT 1116 (by decide +kernel) (by decide +kernel)
theorem uw_1117 : Cond.static yX12_isIn ∈ UW := uwT 1117 (by decide +kernel) (by decide +kernel)
theorem uw_1118 : Cond.code yX12_isIn cX12_isIn 6 (Option.some Jvm.ClassFile.FieldType.boolean) ∈ UW := uwT 1118 (by decide +kernel) (by decide +kernel)
theorem uw_1119 : Cond.constantLong RX12 122 (Int64.ofInt 30) ∈ UW := uwT 1119 (by decide +kernel) (by decide +kernel)
theorem uw_1120 : Cond.methodLink RL 29 yX12_refresh ∈ UW := uwT 1120 (by decide +kernel) (by decide +kernel)
theorem uw_1121 : Cond.instanceMethod yX12_refresh ∈ UW := uwT 1121 (by decide +kernel) (by decide +kernel)
theorem uw_1122 : Cond.selects RX12 yX12_refresh yX12_refresh ∈ UW := uwT 1122 (by decide +kernel) (by decide +kernel)
theorem uw_1123 : Cond.code yX12_refresh cX12_refresh 3 (Option.some Jvm.ClassFile.FieldType.int) ∈ UW := uwT 1123 (by decide +kernel) (by decide +kernel)
theorem uw_1124 : Cond.constantLong RX12 124 (Int64.ofInt 20) ∈ UW := uwT 1124 (by decide +kernel) (by decide +kernel)
theorem uw_1125 : Cond.constantLong RX12 126 (Int64.ofInt 400) ∈ UW := uwT 1125 (by decide +kernel) (by decide +kernel)
theorem uw_1126 : Cond.constantLong RX12 128 (Int64.ofInt 8) ∈ UW := uwT 1126 (by decide +kernel) (by decide +kernel)
theorem uw_1127 : Cond.methodLink RL 33 yX12_order ∈ UW := uwT 1127 (by decide +kernel) (by decide +kernel)
theorem uw_1128 : Cond.instanceMethod yX12_order ∈ UW := uwT 1128 (by decide +kernel) (by decide +kernel)
theorem uw_1129 : Cond.selects RX12 yX12_order yX12_order ∈ UW := uwT 1129 (by decide +kernel) (by decide +kernel)
theorem uw_1130 : Cond.code yX12_order cX12_order 3 (Option.some Jvm.ClassFile.FieldType.int) ∈ UW := uwT 1130 (by decide +kernel) (by decide +kernel)
theorem uw_1131 : Cond.constantLong RX12 133 (Int64.ofInt 2) ∈ UW := uwT 1131 (by decide +kernel) (by decide +kernel)
theorem uw_1132 : Cond.methodLink RL 37 yX12_ask ∈ UW := uwT 1132 (by decide +kernel) (by decide +kernel)
theorem uw_1133 : Cond.instanceMethod yX12_ask ∈ UW := uwT 1133 (by decide +kernel) (by decide +kernel)
theorem uw_1134 : Cond.selects RX12 yX12_ask yX12_ask ∈ UW := uwT 1134 (by decide +kernel) (by decide +kernel)
theorem uw_1135 : Cond.code yX12_ask cX12_ask 3 (Option.some Jvm.ClassFile.FieldType.int) ∈ UW := uwT 1135 (by decide +kernel) (by decide +kernel)
theorem uw_1136 : Cond.methodLink RX12 156 yX12_isRight ∈ UW := uwT 1136 (by decide +kernel) (by decide +kernel)
theorem uw_1137 : Cond.static yX12_isRight ∈ UW := uwT 1137 (by decide +kernel) (by decide +kernel)
theorem uw_1138 : Cond.code yX12_isRight cX12_isRight 4 (Option.some Jvm.ClassFile.FieldType.boolean) ∈ UW := uwT 1138 (by decide +kernel) (by decide +kernel)
theorem uw_1139 : Cond.constantLong RX12 150 (Int64.ofInt 3) ∈ UW := uwT 1139 (by decide +kernel) (by decide +kernel)
theorem uw_1140 : Cond.constantLong RX12 152 (Int64.ofInt 1023) ∈ UW := uwT 1140 (by decide +kernel) (by decide +kernel)
theorem uw_1141 : Cond.constantLong RX12 154 (Int64.ofInt 255) ∈ UW := uwT 1141 (by decide +kernel) (by decide +kernel)
theorem uw_1142 : Cond.methodLink RX12 160 yX12_added ∈ UW := uwT 1142 (by decide +kernel) (by decide +kernel)
theorem uw_1144 : Cond.instanceMethod yX12_added ∈ UW := uwT 1144 (by decide +kernel) (by decide +kernel)
theorem uw_1145 : Cond.code yX12_added cX12_added 6 (Option.some Jvm.ClassFile.FieldType.int) ∈ UW := uwT 1145 (by decide +kernel) (by decide +kernel)
theorem uw_1146 : Cond.methodLink RX12 144 yX12_findOldest ∈ UW := uwT 1146 (by decide +kernel) (by decide +kernel)
theorem uw_1148 : Cond.instanceMethod yX12_findOldest ∈ UW := uwT 1148 (by decide +kernel) (by decide +kernel)
theorem uw_1149 : Cond.code yX12_findOldest cX12_findOldest 3 (Option.none : Option Jvm.ClassFile.FieldType) ∈ UW := uwT 1149 (by decide +kernel) (by decide +kernel)
theorem uw_1150 : Cond.methodLink RL 42 yX12_write ∈ UW := uwT 1150 (by decide +kernel) (by decide +kernel)
theorem uw_1151 : Cond.instanceMethod yX12_write ∈ UW := uwT 1151 (by decide +kernel) (by decide +kernel)
theorem uw_1152 : Cond.selects RX12 yX12_write yX12_write ∈ UW := uwT 1152 (by decide +kernel) (by decide +kernel)
theorem uw_1153 : Cond.code yX12_write cX12_write 4 (Option.some Jvm.ClassFile.FieldType.int) ∈ UW := uwT 1153 (by decide +kernel) (by decide +kernel)
theorem uw_1154 : Cond.methodLink RL 47 yX12_mask ∈ UW := uwT 1154 (by decide +kernel) (by decide +kernel)
theorem uw_1155 : Cond.instanceMethod yX12_mask ∈ UW := uwT 1155 (by decide +kernel) (by decide +kernel)
theorem uw_1156 : Cond.selects RX12 yX12_mask yX12_mask ∈ UW := uwT 1156 (by decide +kernel) (by decide +kernel)
theorem uw_1157 : Cond.code yX12_mask cX12_mask 5 (Option.some Jvm.ClassFile.FieldType.int) ∈ UW := uwT 1157 (by decide +kernel) (by decide +kernel)
theorem uw_1158 : Cond.methodLink RL 51 yX12_swap ∈ UW := uwT 1158 (by decide +kernel) (by decide +kernel)
theorem uw_1159 : Cond.instanceMethod yX12_swap ∈ UW := uwT 1159 (by decide +kernel) (by decide +kernel)
theorem uw_1160 : Cond.selects RX12 yX12_swap yX12_swap ∈ UW := uwT 1160 (by decide +kernel) (by decide +kernel)
theorem uw_1161 : Cond.code yX12_swap cX12_swap 4 (Option.some Jvm.ClassFile.FieldType.int) ∈ UW := uwT 1161 (by decide +kernel) (by decide +kernel)
theorem uw_1162 : Cond.methodLink RL 56 yX12_fence ∈ UW := uwT 1162 (by decide +kernel) (by decide +kernel)
theorem uw_1163 : Cond.instanceMethod yX12_fence ∈ UW := uwT 1163 (by decide +kernel) (by decide +kernel)
theorem uw_1164 : Cond.selects RX12 yX12_fence yX12_fence ∈ UW := uwT 1164 (by decide +kernel) (by decide +kernel)
theorem uw_1165 : Cond.code yX12_fence cX12_fence 2 (Option.some Jvm.ClassFile.FieldType.int) ∈ UW := uwT 1165 (by decide +kernel) (by decide +kernel)
theorem uw_1166 : Cond.methodLink RL 60 yX12_run ∈ UW := uwT 1166 (by decide +kernel) (by decide +kernel)
theorem uw_1167 : Cond.instanceMethod yX12_run ∈ UW := uwT 1167 (by decide +kernel) (by decide +kernel)
theorem uw_1168 : Cond.selects RX12 yX12_run yX12_run ∈ UW := uwT 1168 (by decide +kernel) (by decide +kernel)
theorem uw_1169 : Cond.code yX12_run cX12_run 4 (Option.some Jvm.ClassFile.FieldType.int) ∈ UW := uwT 1169 (by decide +kernel) (by decide +kernel)
theorem uw_1170 : Cond.constantLong RX12 271 (Int64.ofInt 500) ∈ UW := uwT 1170 (by decide +kernel) (by decide +kernel)
theorem uw_1171 : Cond.methodLink RX12 273 yX12_tick ∈ UW := uwT 1171 (by decide +kernel) (by decide +kernel)
theorem uw_1173 : Cond.instanceMethod yX12_tick ∈ UW := uwT 1173 (by decide +kernel) (by decide +kernel)
theorem uw_1174 : Cond.code yX12_tick cX12_tick 1 (Option.none : Option Jvm.ClassFile.FieldType) ∈ UW := uwT 1174 (by decide +kernel) (by decide +kernel)
theorem uw_1175 : Cond.methodLink RX12 262 yX12_begin ∈ UW := uwT 1175 (by decide +kernel) (by decide +kernel)
theorem uw_1177 : Cond.instanceMethod yX12_begin ∈ UW := uwT 1177 (by decide +kernel) (by decide +kernel)
theorem uw_1178 : Cond.code yX12_begin cX12_begin 2 (Option.none : Option Jvm.ClassFile.FieldType) ∈ UW := uwT 1178 (by decide +kernel) (by decide +kernel)
theorem uw_1179 : Cond.methodLink RX12 164 yX12_waits ∈ UW := uwT 1179 (by decide +kernel) (by decide +kernel)
theorem uw_1181 : Cond.instanceMethod yX12_waits ∈ UW := uwT 1181 (by decide +kernel) (by decide +kernel)
theorem uw_1182 : Cond.code yX12_waits cX12_waits 2 (Option.some Jvm.ClassFile.FieldType.boolean) ∈ UW := uwT 1182 (by decide +kernel) (by decide +kernel)
theorem uw_1183 : Cond.methodLink RX12 259 yX12_isBehind ∈ UW := uwT 1183 (by decide +kernel) (by decide +kernel)
theorem uw_1185 : Cond.instanceMethod yX12_isBehind ∈ UW := uwT 1185 (by decide +kernel) (by decide +kernel)
theorem uw_1186 : Cond.code yX12_isBehind cX12_isBehind 4 (Option.some Jvm.ClassFile.FieldType.boolean) ∈ UW := uwT 1186 (by decide +kernel) (by decide +kernel)
theorem uw_1187 : Cond.methodLink RX12 237 yX12_finish ∈ UW := uwT 1187 (by decide +kernel) (by decide +kernel)
theorem uw_1189 : Cond.instanceMethod yX12_finish ∈ UW := uwT 1189 (by decide +kernel) (by decide +kernel)
theorem uw_1190 : Cond.code yX12_finish cX12_finish 2 (Option.none : Option Jvm.ClassFile.FieldType) ∈ UW := uwT 1190 (by decide +kernel) (by decide +kernel)
theorem uw_1191 : Cond.methodLink RX12 265 yX12_find ∈ UW := uwT 1191 (by decide +kernel) (by decide +kernel)
theorem uw_1193 : Cond.instanceMethod yX12_find ∈ UW := uwT 1193 (by decide +kernel) (by decide +kernel)
theorem uw_1194 : Cond.code yX12_find cX12_find 5 (Option.none : Option Jvm.ClassFile.FieldType) ∈ UW := uwT 1194 (by decide +kernel) (by decide +kernel)
theorem uw_1195 : Cond.methodLink RX12 214 yX12_choose ∈ UW := uwT 1195 (by decide +kernel) (by decide +kernel)
theorem uw_1197 : Cond.instanceMethod yX12_choose ∈ UW := uwT 1197 (by decide +kernel) (by decide +kernel)
theorem uw_1198 : Cond.code yX12_choose cX12_choose 4 (Option.none : Option Jvm.ClassFile.FieldType) ∈ UW := uwT 1198 (by decide +kernel) (by decide +kernel)
theorem uw_1199 : Cond.methodLink RX12 221 yX12_plainWaiting ∈ UW := uwT 1199 (by decide +kernel) (by decide +kernel)
theorem uw_1201 : Cond.instanceMethod yX12_plainWaiting ∈ UW := uwT 1201 (by decide +kernel) (by decide +kernel)
theorem uw_1202 : Cond.code yX12_plainWaiting cX12_plainWaiting 3 (Option.some Jvm.ClassFile.FieldType.int) ∈ UW := uwT 1202 (by decide +kernel) (by decide +kernel)
theorem uw_1203 : Cond.methodLink RX12 225 yX12_canGo ∈ UW := uwT 1203 (by decide +kernel) (by decide +kernel)
theorem uw_1205 : Cond.instanceMethod yX12_canGo ∈ UW := uwT 1205 (by decide +kernel) (by decide +kernel)
theorem uw_1206 : Cond.code yX12_canGo cX12_canGo 3 (Option.some Jvm.ClassFile.FieldType.boolean) ∈ UW := uwT 1206 (by decide +kernel) (by decide +kernel)
theorem uw_1207 : Cond.methodLink RX12 194 yX12_stands ∈ UW := uwT 1207 (by decide +kernel) (by decide +kernel)
theorem uw_1209 : Cond.instanceMethod yX12_stands ∈ UW := uwT 1209 (by decide +kernel) (by decide +kernel)
theorem uw_1210 : Cond.code yX12_stands cX12_stands 3 (Option.some Jvm.ClassFile.FieldType.boolean) ∈ UW := uwT 1210 (by decide +kernel) (by decide +kernel)
theorem uw_1211 : Cond.methodLink RX12 190 yX12_allShut ∈ UW := uwT 1211 (by decide +kernel) (by decide +kernel)
theorem uw_1213 : Cond.instanceMethod yX12_allShut ∈ UW := uwT 1213 (by decide +kernel) (by decide +kernel)
theorem uw_1214 : Cond.code yX12_allShut cX12_allShut 1 (Option.some Jvm.ClassFile.FieldType.boolean) ∈ UW := uwT 1214 (by decide +kernel) (by decide +kernel)
theorem uw_1215 : Cond.methodLink RX12 198 yX12_fits ∈ UW := uwT 1215 (by decide +kernel) (by decide +kernel)
theorem uw_1217 : Cond.instanceMethod yX12_fits ∈ UW := uwT 1217 (by decide +kernel) (by decide +kernel)
theorem uw_1218 : Cond.code yX12_fits cX12_fits 9 (Option.some Jvm.ClassFile.FieldType.boolean) ∈ UW := uwT 1218 (by decide +kernel) (by decide +kernel)
theorem uw_1219 : Cond.methodLink RX12 187 yX12_asked ∈ UW := uwT 1219 (by decide +kernel) (by decide +kernel)
theorem uw_1221 : Cond.instanceMethod yX12_asked ∈ UW := uwT 1221 (by decide +kernel) (by decide +kernel)
theorem uw_1222 : Cond.code yX12_asked cX12_asked 11 (Option.some Jvm.ClassFile.FieldType.int) ∈ UW := uwT 1222 (by decide +kernel) (by decide +kernel)
theorem uw_1223 : Cond.methodLink RX12 228 yX12_findOrder ∈ UW := uwT 1223 (by decide +kernel) (by decide +kernel)
theorem uw_1225 : Cond.instanceMethod yX12_findOrder ∈ UW := uwT 1225 (by decide +kernel) (by decide +kernel)
theorem uw_1226 : Cond.code yX12_findOrder cX12_findOrder 3 (Option.none : Option Jvm.ClassFile.FieldType) ∈ UW := uwT 1226 (by decide +kernel) (by decide +kernel)
theorem uw_1227 : Cond.methodLink RX12 181 yX12_rank ∈ UW := uwT 1227 (by decide +kernel) (by decide +kernel)
theorem uw_1229 : Cond.instanceMethod yX12_rank ∈ UW := uwT 1229 (by decide +kernel) (by decide +kernel)
theorem uw_1230 : Cond.code yX12_rank cX12_rank 2 (Option.some Jvm.ClassFile.FieldType.int) ∈ UW := uwT 1230 (by decide +kernel) (by decide +kernel)
theorem uw_1231 : Cond.methodLink RX12 175 yX12_isOpen ∈ UW := uwT 1231 (by decide +kernel) (by decide +kernel)
theorem uw_1233 : Cond.instanceMethod yX12_isOpen ∈ UW := uwT 1233 (by decide +kernel) (by decide +kernel)
theorem uw_1234 : Cond.code yX12_isOpen cX12_isOpen 2 (Option.some Jvm.ClassFile.FieldType.boolean) ∈ UW := uwT 1234 (by decide +kernel) (by decide +kernel)
theorem uw_1235 : Cond.methodLink RX12 168 yX12_bankOf ∈ UW := uwT 1235 (by decide +kernel) (by decide +kernel)
theorem uw_1236 : Cond.static yX12_bankOf ∈ UW := uwT 1236 (by decide +kernel) (by decide +kernel)
theorem uw_1237 : Cond.code yX12_bankOf cX12_bankOf 1 (Option.some Jvm.ClassFile.FieldType.int) ∈ UW := uwT 1237 (by decide +kernel) (by decide +kernel)
theorem uw_1238 : Cond.methodLink RX12 172 yX12_rowOf ∈ UW := uwT 1238 (by decide +kernel) (by decide +kernel)
theorem uw_1239 : Cond.static yX12_rowOf ∈ UW := uwT 1239 (by decide +kernel) (by decide +kernel)
theorem uw_1240 : Cond.code yX12_rowOf cX12_rowOf 1 (Option.some Jvm.ClassFile.FieldType.int) ∈ UW := uwT 1240 (by decide +kernel) (by decide +kernel)
theorem uw_1241 : Cond.methodLink RX12 231 yX12_commandOf ∈ UW := uwT 1241 (by decide +kernel) (by decide +kernel)
theorem uw_1243 : Cond.instanceMethod yX12_commandOf ∈ UW := uwT 1243 (by decide +kernel) (by decide +kernel)
theorem uw_1244 : Cond.code yX12_commandOf cX12_commandOf 3 (Option.some Jvm.ClassFile.FieldType.int) ∈ UW := uwT 1244 (by decide +kernel) (by decide +kernel)
theorem uw_1245 : Cond.methodLink RX12 211 yX12_isHeld ∈ UW := uwT 1245 (by decide +kernel) (by decide +kernel)
theorem uw_1247 : Cond.instanceMethod yX12_isHeld ∈ UW := uwT 1247 (by decide +kernel) (by decide +kernel)
theorem uw_1248 : Cond.code yX12_isHeld cX12_isHeld 6 (Option.some Jvm.ClassFile.FieldType.boolean) ∈ UW := uwT 1248 (by decide +kernel) (by decide +kernel)
theorem uw_1249 : Cond.methodLink RX12 234 yX12_isFirst ∈ UW := uwT 1249 (by decide +kernel) (by decide +kernel)
theorem uw_1251 : Cond.instanceMethod yX12_isFirst ∈ UW := uwT 1251 (by decide +kernel) (by decide +kernel)
theorem uw_1252 : Cond.code yX12_isFirst cX12_isFirst 4 (Option.some Jvm.ClassFile.FieldType.boolean) ∈ UW := uwT 1252 (by decide +kernel) (by decide +kernel)
theorem uw_1253 : Cond.methodLink RX12 268 yX12_go ∈ UW := uwT 1253 (by decide +kernel) (by decide +kernel)
theorem uw_1255 : Cond.instanceMethod yX12_go ∈ UW := uwT 1255 (by decide +kernel) (by decide +kernel)
theorem uw_1256 : Cond.code yX12_go cX12_go 1 (Option.none : Option Jvm.ClassFile.FieldType) ∈ UW := uwT 1256 (by decide +kernel) (by decide +kernel)
theorem uw_1257 : Cond.methodLink RX12 247 yX12_write_ ∈ UW := uwT 1257 (by decide +kernel) (by decide +kernel)
theorem uw_1259 : Cond.instanceMethod yX12_write_ ∈ UW := uwT 1259 (by decide +kernel) (by decide +kernel)
theorem uw_1260 : Cond.code yX12_write_ cX12_write_ 2 (Option.none : Option Jvm.ClassFile.FieldType) ∈ UW := uwT 1260 (by decide +kernel) (by decide +kernel)
theorem uw_1261 : Cond.methodLink RX12 256 yX12_access ∈ UW := uwT 1261 (by decide +kernel) (by decide +kernel)
theorem uw_1263 : Cond.instanceMethod yX12_access ∈ UW := uwT 1263 (by decide +kernel) (by decide +kernel)
theorem uw_1264 : Cond.code yX12_access cX12_access 4 (Option.none : Option Jvm.ClassFile.FieldType) ∈ UW := uwT 1264 (by decide +kernel) (by decide +kernel)
theorem uw_1265 : Cond.methodLink RL 64 yX12_drain ∈ UW := uwT 1265 (by decide +kernel) (by decide +kernel)
theorem uw_1266 : Cond.instanceMethod yX12_drain ∈ UW := uwT 1266 (by decide +kernel) (by decide +kernel)
theorem uw_1267 : Cond.selects RX12 yX12_drain yX12_drain ∈ UW := uwT 1267 (by decide +kernel) (by decide +kernel)
theorem uw_1268 : Cond.code yX12_drain cX12_drain 3 (Option.some Jvm.ClassFile.FieldType.int) ∈ UW := uwT 1268 (by decide +kernel) (by decide +kernel)
theorem uw_1269 : Cond.methodLink RL 69 yX12_next ∈ UW := uwT 1269 (by decide +kernel) (by decide +kernel)
theorem uw_1270 : Cond.instanceMethod yX12_next ∈ UW := uwT 1270 (by decide +kernel) (by decide +kernel)
theorem uw_1271 : Cond.selects RX12 yX12_next yX12_next ∈ UW := uwT 1271 (by decide +kernel) (by decide +kernel)
theorem uw_1272 : Cond.code yX12_next cX12_next 4 (Option.some Jvm.ClassFile.FieldType.int) ∈ UW := uwT 1272 (by decide +kernel) (by decide +kernel)
theorem uw_1273 : Cond.methodLink RL 73 yX12_look ∈ UW := uwT 1273 (by decide +kernel) (by decide +kernel)
theorem uw_1274 : Cond.instanceMethod yX12_look ∈ UW := uwT 1274 (by decide +kernel) (by decide +kernel)
theorem uw_1275 : Cond.selects RX12 yX12_look yX12_look ∈ UW := uwT 1275 (by decide +kernel) (by decide +kernel)
theorem uw_1276 : Cond.code yX12_look cX12_look 3 (Option.some Jvm.ClassFile.FieldType.int) ∈ UW := uwT 1276 (by decide +kernel) (by decide +kernel)
theorem uw_1277 : Cond.methodLink RX12 276 yX12_isAsk ∈ UW := uwT 1277 (by decide +kernel) (by decide +kernel)
theorem uw_1279 : Cond.instanceMethod yX12_isAsk ∈ UW := uwT 1279 (by decide +kernel) (by decide +kernel)
theorem uw_1280 : Cond.code yX12_isAsk cX12_isAsk 2 (Option.some Jvm.ClassFile.FieldType.boolean) ∈ UW := uwT 1280 (by decide +kernel) (by decide +kernel)
theorem uw_1281 : Cond.constantLong RX12 279 (Int64.ofInt 6) ∈ UW := uwT 1281 (by decide +kernel) (by decide +kernel)
theorem uw_1282 : Cond.methodLink RL 77 yX12_at ∈ UW := uwT 1282 (by decide +kernel) (by decide +kernel)
theorem uw_1283 : Cond.instanceMethod yX12_at ∈ UW := uwT 1283 (by decide +kernel) (by decide +kernel)
theorem uw_1284 : Cond.selects RX12 yX12_at yX12_at ∈ UW := uwT 1284 (by decide +kernel) (by decide +kernel)
theorem uw_1285 : Cond.code yX12_at cX12_at 2 (Option.some Jvm.ClassFile.FieldType.int) ∈ UW := uwT 1285 (by decide +kernel) (by decide +kernel)
theorem uw_1286 : Cond.methodLink RL 81 yX12_soonest ∈ UW := uwT 1286 (by decide +kernel) (by decide +kernel)
theorem uw_1287 : Cond.instanceMethod yX12_soonest ∈ UW := uwT 1287 (by decide +kernel) (by decide +kernel)
theorem uw_1288 : Cond.selects RX12 yX12_soonest yX12_soonest ∈ UW := uwT 1288 (by decide +kernel) (by decide +kernel)
theorem uw_1289 : Cond.code yX12_soonest cX12_soonest 4 (Option.some Jvm.ClassFile.FieldType.int) ∈ UW := uwT 1289 (by decide +kernel) (by decide +kernel)
theorem uw_1290 : Cond.constantLong RX12 281 (Int64.ofInt 4) ∈ UW := uwT 1290 (by decide +kernel) (by decide +kernel)
theorem uw_1291 : Cond.methodLink RL 85 yX12_row ∈ UW := uwT 1291 (by decide +kernel) (by decide +kernel)
theorem uw_1292 : Cond.instanceMethod yX12_row ∈ UW := uwT 1292 (by decide +kernel) (by decide +kernel)
theorem uw_1293 : Cond.selects RX12 yX12_row yX12_row ∈ UW := uwT 1293 (by decide +kernel) (by decide +kernel)
theorem uw_1294 : Cond.code yX12_row cX12_row 2 (Option.some Jvm.ClassFile.FieldType.int) ∈ UW := uwT 1294 (by decide +kernel) (by decide +kernel)
theorem uw_1295 : Cond.methodLink RL 89 yX12_octet ∈ UW := uwT 1295 (by decide +kernel) (by decide +kernel)
theorem uw_1296 : Cond.instanceMethod yX12_octet ∈ UW := uwT 1296 (by decide +kernel) (by decide +kernel)
theorem uw_1297 : Cond.selects RX12 yX12_octet yX12_octet ∈ UW := uwT 1297 (by decide +kernel) (by decide +kernel)
theorem uw_1298 : Cond.code yX12_octet cX12_octet 2 (Option.some Jvm.ClassFile.FieldType.int) ∈ UW := uwT 1298 (by decide +kernel) (by decide +kernel)
theorem uw_1299 : Cond.methodLink RL 93 yX12_log ∈ UW := uwT 1299 (by decide +kernel) (by decide +kernel)
theorem uw_1300 : Cond.instanceMethod yX12_log ∈ UW := uwT 1300 (by decide +kernel) (by decide +kernel)
theorem uw_1301 : Cond.selects RX12 yX12_log yX12_log ∈ UW := uwT 1301 (by decide +kernel) (by decide +kernel)
theorem uw_1302 : Cond.code yX12_log cX12_log 3 (Option.some Jvm.ClassFile.FieldType.int) ∈ UW := uwT 1302 (by decide +kernel) (by decide +kernel)
theorem uw_1303 : Cond.methodLink RX12 283 yX12_isLogged ∈ UW := uwT 1303 (by decide +kernel) (by decide +kernel)
theorem uw_1305 : Cond.instanceMethod yX12_isLogged ∈ UW := uwT 1305 (by decide +kernel) (by decide +kernel)
theorem uw_1306 : Cond.code yX12_isLogged cX12_isLogged 2 (Option.some Jvm.ClassFile.FieldType.boolean) ∈ UW := uwT 1306 (by decide +kernel) (by decide +kernel)
theorem uw_1307 : Cond.methodLink RL 97 yX12_forge ∈ UW := uwT 1307 (by decide +kernel) (by decide +kernel)
theorem uw_1308 : Cond.instanceMethod yX12_forge ∈ UW := uwT 1308 (by decide +kernel) (by decide +kernel)
theorem uw_1309 : Cond.selects RX12 yX12_forge yX12_forge ∈ UW := uwT 1309 (by decide +kernel) (by decide +kernel)
theorem uw_1310 : Cond.code yX12_forge cX12_forge 4 (Option.some Jvm.ClassFile.FieldType.int) ∈ UW := uwT 1310 (by decide +kernel) (by decide +kernel)
theorem uw_1311 : Cond.constantLong RX12 286 (Int64.ofInt 1000000) ∈ UW := uwT 1311 (by decide +kernel) (by decide +kernel)
theorem uw_1312 : Cond.methodLink RL 101 yX12_check ∈ UW := uwT 1312 (by decide +kernel) (by decide +kernel)
theorem uw_1313 : Cond.instanceMethod yX12_check ∈ UW := uwT 1313 (by decide +kernel) (by decide +kernel)
theorem uw_1314 : Cond.selects RX12 yX12_check yX12_check ∈ UW := uwT 1314 (by decide +kernel) (by decide +kernel)
theorem uw_1315 : Cond.code yX12_check cX12_check 4 (Option.some Jvm.ClassFile.FieldType.int) ∈ UW := uwT 1315 (by decide +kernel) (by decide +kernel)
theorem uw_1316 : Cond.methodLink RX12 288 yX12_breaks ∈ UW := uwT 1316 (by decide +kernel) (by decide +kernel)
theorem uw_1318 : Cond.instanceMethod yX12_breaks ∈ UW := uwT 1318 (by decide +kernel) (by decide +kernel)
theorem uw_1319 : Cond.code yX12_breaks cX12_breaks 8 (Option.some Jvm.ClassFile.FieldType.int) ∈ UW := uwT 1319 (by decide +kernel) (by decide +kernel)
theorem uw_1320 : Cond.methodLink RL 105 yX12_broken ∈ UW := uwT 1320 (by decide +kernel) (by decide +kernel)
theorem uw_1321 : Cond.instanceMethod yX12_broken ∈ UW := uwT 1321 (by decide +kernel) (by decide +kernel)
theorem uw_1322 : Cond.selects RX12 yX12_broken yX12_broken ∈ UW := uwT 1322 (by decide +kernel) (by decide +kernel)
theorem uw_1323 : Cond.code yX12_broken cX12_broken 1 (Option.some Jvm.ClassFile.FieldType.int) ∈ UW := uwT 1323 (by decide +kernel) (by decide +kernel)
theorem uw_1324 : Cond.methodLink RL 109 yX12_worst ∈ UW := uwT 1324 (by decide +kernel) (by decide +kernel)
theorem uw_1325 : Cond.instanceMethod yX12_worst ∈ UW := uwT 1325 (by decide +kernel) (by decide +kernel)
theorem uw_1326 : Cond.selects RX12 yX12_worst yX12_worst ∈ UW := uwT 1326 (by decide +kernel) (by decide +kernel)
theorem uw_1327 : Cond.code yX12_worst cX12_worst 5 (Option.some Jvm.ClassFile.FieldType.int) ∈ UW := uwT 1327 (by decide +kernel) (by decide +kernel)
theorem uw_1328 : Cond.methodLink RL 113 yX12_beside ∈ UW := uwT 1328 (by decide +kernel) (by decide +kernel)
theorem uw_1329 : Cond.instanceMethod yX12_beside ∈ UW := uwT 1329 (by decide +kernel) (by decide +kernel)
theorem uw_1330 : Cond.selects RX12 yX12_beside yX12_beside ∈ UW := uwT 1330 (by decide +kernel) (by decide +kernel)
theorem uw_1331 : Cond.code yX12_beside cX12_beside 4 (Option.some Jvm.ClassFile.FieldType.int) ∈ UW := uwT 1331 (by decide +kernel) (by decide +kernel)
theorem uw_1332 : Cond.methodLink RL 117 yX12_count ∈ UW := uwT 1332 (by decide +kernel) (by decide +kernel)
theorem uw_1333 : Cond.instanceMethod yX12_count ∈ UW := uwT 1333 (by decide +kernel) (by decide +kernel)
theorem uw_1334 : Cond.selects RX12 yX12_count yX12_count ∈ UW := uwT 1334 (by decide +kernel) (by decide +kernel)
theorem uw_1335 : Cond.code yX12_count cX12_count 2 (Option.some Jvm.ClassFile.FieldType.int) ∈ UW := uwT 1335 (by decide +kernel) (by decide +kernel)
theorem uw_1336 : Cond.constantLong RX12 291 (Int64.ofInt 11) ∈ UW := uwT 1336 (by decide +kernel) (by decide +kernel)
theorem uw_1337 : Cond.methodLink RL 121 yX12_keep ∈ UW := uwT 1337 (by decide +kernel) (by decide +kernel)
theorem uw_1338 : Cond.instanceMethod yX12_keep ∈ UW := uwT 1338 (by decide +kernel) (by decide +kernel)
theorem uw_1339 : Cond.selects RX12 yX12_keep yX12_keep ∈ UW := uwT 1339 (by decide +kernel) (by decide +kernel)
theorem uw_1340 : Cond.code yX12_keep cX12_keep 6 (Option.some Jvm.ClassFile.FieldType.int) ∈ UW := uwT 1340 (by decide +kernel) (by decide +kernel)
theorem uw_1341 : Cond.methodLink RX12 293 yX12_isShelf ∈ UW := uwT 1341 (by decide +kernel) (by decide +kernel)
theorem uw_1342 : Cond.static yX12_isShelf ∈ UW := uwT 1342 (by decide +kernel) (by decide +kernel)
theorem uw_1343 : Cond.code yX12_isShelf cX12_isShelf 1 (Option.some Jvm.ClassFile.FieldType.boolean) ∈ UW := uwT 1343 (by decide +kernel) (by decide +kernel)
theorem uw_1344 : Cond.constantLong RX12 296 (Int64.ofInt 63) ∈ UW := uwT 1344 (by decide +kernel) (by decide +kernel)
theorem uw_1345 : Cond.methodLink RX12 298 yX12_addressOf ∈ UW := uwT 1345 (by decide +kernel) (by decide +kernel)
theorem uw_1347 : Cond.instanceMethod yX12_addressOf ∈ UW := uwT 1347 (by decide +kernel) (by decide +kernel)
theorem uw_1348 : Cond.code yX12_addressOf cX12_addressOf 4 (Option.some Jvm.ClassFile.FieldType.int) ∈ UW := uwT 1348 (by decide +kernel) (by decide +kernel)
theorem uw_1349 : Cond.methodLink RL 125 yX12_make ∈ UW := uwT 1349 (by decide +kernel) (by decide +kernel)
theorem uw_1350 : Cond.instanceMethod yX12_make ∈ UW := uwT 1350 (by decide +kernel) (by decide +kernel)
theorem uw_1351 : Cond.selects RX12 yX12_make yX12_make ∈ UW := uwT 1351 (by decide +kernel) (by decide +kernel)
theorem uw_1352 : Cond.code yX12_make cX12_make 5 (Option.some Jvm.ClassFile.FieldType.int) ∈ UW := uwT 1352 (by decide +kernel) (by decide +kernel)
theorem uw_1353 : Cond.methodLink RL 131 yX12_element ∈ UW := uwT 1353 (by decide +kernel) (by decide +kernel)
theorem uw_1354 : Cond.instanceMethod yX12_element ∈ UW := uwT 1354 (by decide +kernel) (by decide +kernel)
theorem uw_1355 : Cond.selects RX12 yX12_element yX12_element ∈ UW := uwT 1355 (by decide +kernel) (by decide +kernel)
theorem uw_1356 : Cond.code yX12_element cX12_element 4 (Option.some Jvm.ClassFile.FieldType.long) ∈ UW := uwT 1356 (by decide +kernel) (by decide +kernel)
theorem uw_1357 : Cond.methodLink RL 139 yX12_copy ∈ UW := uwT 1357 (by decide +kernel) (by decide +kernel)
theorem uw_1358 : Cond.instanceMethod yX12_copy ∈ UW := uwT 1358 (by decide +kernel) (by decide +kernel)
theorem uw_1359 : Cond.selects RX12 yX12_copy yX12_copy ∈ UW := uwT 1359 (by decide +kernel) (by decide +kernel)
theorem uw_1360 : Cond.code yX12_copy cX12_copy 7 (Option.some Jvm.ClassFile.FieldType.int) ∈ UW := uwT 1360 (by decide +kernel) (by decide +kernel)
theorem uw_1361 : Cond.methodLink RX12 302 yX12_hasPlaces ∈ UW := uwT 1361 (by decide +kernel) (by decide +kernel)
theorem uw_1363 : Cond.instanceMethod yX12_hasPlaces ∈ UW := uwT 1363 (by decide +kernel) (by decide +kernel)
theorem uw_1364 : Cond.code yX12_hasPlaces cX12_hasPlaces 4 (Option.some Jvm.ClassFile.FieldType.boolean) ∈ UW := uwT 1364 (by decide +kernel) (by decide +kernel)
theorem uw_1365 : Cond.methodLink RL 143 yX12_weight ∈ UW := uwT 1365 (by decide +kernel) (by decide +kernel)
theorem uw_1366 : Cond.instanceMethod yX12_weight ∈ UW := uwT 1366 (by decide +kernel) (by decide +kernel)
theorem uw_1367 : Cond.selects RX12 yX12_weight yX12_weight ∈ UW := uwT 1367 (by decide +kernel) (by decide +kernel)
theorem uw_1368 : Cond.code yX12_weight cX12_weight 4 (Option.some Jvm.ClassFile.FieldType.int) ∈ UW := uwT 1368 (by decide +kernel) (by decide +kernel)
theorem uw_1369 : Cond.methodLink RX12 305 yX12_denied ∈ UW := uwT 1369 (by decide +kernel) (by decide +kernel)
theorem uw_1371 : Cond.instanceMethod yX12_denied ∈ UW := uwT 1371 (by decide +kernel) (by decide +kernel)
theorem uw_1372 : Cond.code yX12_denied cX12_denied 2 (Option.some Jvm.ClassFile.FieldType.int) ∈ UW := uwT 1372 (by decide +kernel) (by decide +kernel)
theorem uw_1373 : Cond.methodLink RL 147 yX12_toss ∈ UW := uwT 1373 (by decide +kernel) (by decide +kernel)
theorem uw_1374 : Cond.instanceMethod yX12_toss ∈ UW := uwT 1374 (by decide +kernel) (by decide +kernel)
theorem uw_1375 : Cond.selects RX12 yX12_toss yX12_toss ∈ UW := uwT 1375 (by decide +kernel) (by decide +kernel)
theorem uw_1376 : Cond.code yX12_toss cX12_toss 3 (Option.some Jvm.ClassFile.FieldType.int) ∈ UW := uwT 1376 (by decide +kernel) (by decide +kernel)
theorem uw_1378 : Cond.sameMethod "RowBank$WriteAsk" "RowBank$WriteAsk" "heft" "()I" ∈ UW := uwT 1378 (by decide +kernel) (by decide +kernel)
theorem uw_1379 : Cond.sameMethod "java/lang/Throwable" "java/lang/Throwable" "fillInStackTrace" "(I)Ljava/lang/Throwable;" ∈ UW := uwT 1379 (by decide +kernel) (by decide +kernel)
theorem up_0 : Cond.selects RX5 yX5_forget yX5_forget ∈ UW := uwP 0 (by decide +kernel) (by decide +kernel)
theorem up_1 : Cond.selects RX11 yX11_passTick yX11_passTick ∈ UW := uwP 1 (by decide +kernel) (by decide +kernel)
theorem up_2 : Cond.selects RX11 yX11_owedThisTick yX11_owedThisTick ∈ UW := uwP 2 (by decide +kernel) (by decide +kernel)
theorem up_3 : Cond.selects RX7 yX7_unlink yX7_unlink ∈ UW := uwP 3 (by decide +kernel) (by decide +kernel)
theorem up_4 : Cond.selects RX11 yX11_choose yX11_choose ∈ UW := uwP 4 (by decide +kernel) (by decide +kernel)
theorem up_5 : Cond.selects RX11 yX11_chooseForRefresh yX11_chooseForRefresh ∈ UW := uwP 5 (by decide +kernel) (by decide +kernel)
theorem up_6 : Cond.selects RX11 yX11_canGo yX11_canGo ∈ UW := uwP 6 (by decide +kernel) (by decide +kernel)
theorem up_7 : Cond.selects RX4 yX4_areAllShut yX4_areAllShut ∈ UW := uwP 7 (by decide +kernel) (by decide +kernel)
theorem up_8 : Cond.selects RX5 yX5_countedFrom yX5_countedFrom ∈ UW := uwP 8 (by decide +kernel) (by decide +kernel)
theorem up_9 : Cond.selects RX11 yX11_chooseForAsks yX11_chooseForAsks ∈ UW := uwP 9 (by decide +kernel) (by decide +kernel)
theorem up_10 : Cond.selects RX7 yX7_rankOf yX7_rankOf ∈ UW := uwP 10 (by decide +kernel) (by decide +kernel)
theorem up_11 : Cond.selects RX11 yX11_carryOut yX11_carryOut ∈ UW := uwP 11 (by decide +kernel) (by decide +kernel)
theorem up_12 : Cond.selects RX5 yX5_rememberOpen yX5_rememberOpen ∈ UW := uwP 12 (by decide +kernel) (by decide +kernel)
theorem up_13 : Cond.selects RX11 yX11_findShelf yX11_findShelf ∈ UW := uwP 13 (by decide +kernel) (by decide +kernel)
theorem up_14 : Cond.selects RX11 yX11_keepBytes yX11_keepBytes ∈ UW := uwP 14 (by decide +kernel) (by decide +kernel)
theorem up_16 : Cond.selects RX12 yX12_added yX12_added ∈ UW := uwP 16 (by decide +kernel) (by decide +kernel)
theorem up_17 : Cond.selects RX12 yX12_findOldest yX12_findOldest ∈ UW := uwP 17 (by decide +kernel) (by decide +kernel)
theorem up_18 : Cond.selects RX12 yX12_tick yX12_tick ∈ UW := uwP 18 (by decide +kernel) (by decide +kernel)
theorem up_19 : Cond.selects RX12 yX12_begin yX12_begin ∈ UW := uwP 19 (by decide +kernel) (by decide +kernel)
theorem up_20 : Cond.selects RX12 yX12_waits yX12_waits ∈ UW := uwP 20 (by decide +kernel) (by decide +kernel)
theorem up_21 : Cond.selects RX12 yX12_isBehind yX12_isBehind ∈ UW := uwP 21 (by decide +kernel) (by decide +kernel)
theorem up_22 : Cond.selects RX12 yX12_finish yX12_finish ∈ UW := uwP 22 (by decide +kernel) (by decide +kernel)
theorem up_23 : Cond.selects RX12 yX12_find yX12_find ∈ UW := uwP 23 (by decide +kernel) (by decide +kernel)
theorem up_24 : Cond.selects RX12 yX12_choose yX12_choose ∈ UW := uwP 24 (by decide +kernel) (by decide +kernel)
theorem up_25 : Cond.selects RX12 yX12_plainWaiting yX12_plainWaiting ∈ UW := uwP 25 (by decide +kernel) (by decide +kernel)
theorem up_26 : Cond.selects RX12 yX12_canGo yX12_canGo ∈ UW := uwP 26 (by decide +kernel) (by decide +kernel)
theorem up_27 : Cond.selects RX12 yX12_stands yX12_stands ∈ UW := uwP 27 (by decide +kernel) (by decide +kernel)
theorem up_28 : Cond.selects RX12 yX12_allShut yX12_allShut ∈ UW := uwP 28 (by decide +kernel) (by decide +kernel)
theorem up_29 : Cond.selects RX12 yX12_fits yX12_fits ∈ UW := uwP 29 (by decide +kernel) (by decide +kernel)
theorem up_30 : Cond.selects RX12 yX12_asked yX12_asked ∈ UW := uwP 30 (by decide +kernel) (by decide +kernel)
theorem up_31 : Cond.selects RX12 yX12_findOrder yX12_findOrder ∈ UW := uwP 31 (by decide +kernel) (by decide +kernel)
theorem up_32 : Cond.selects RX12 yX12_rank yX12_rank ∈ UW := uwP 32 (by decide +kernel) (by decide +kernel)
theorem up_33 : Cond.selects RX12 yX12_isOpen yX12_isOpen ∈ UW := uwP 33 (by decide +kernel) (by decide +kernel)
theorem up_34 : Cond.selects RX12 yX12_commandOf yX12_commandOf ∈ UW := uwP 34 (by decide +kernel) (by decide +kernel)
theorem up_35 : Cond.selects RX12 yX12_isHeld yX12_isHeld ∈ UW := uwP 35 (by decide +kernel) (by decide +kernel)
theorem up_36 : Cond.selects RX12 yX12_isFirst yX12_isFirst ∈ UW := uwP 36 (by decide +kernel) (by decide +kernel)
theorem up_37 : Cond.selects RX12 yX12_go yX12_go ∈ UW := uwP 37 (by decide +kernel) (by decide +kernel)
theorem up_38 : Cond.selects RX12 yX12_write_ yX12_write_ ∈ UW := uwP 38 (by decide +kernel) (by decide +kernel)
theorem up_39 : Cond.selects RX12 yX12_access yX12_access ∈ UW := uwP 39 (by decide +kernel) (by decide +kernel)
theorem up_40 : Cond.selects RX12 yX12_isAsk yX12_isAsk ∈ UW := uwP 40 (by decide +kernel) (by decide +kernel)
theorem up_41 : Cond.selects RX12 yX12_isLogged yX12_isLogged ∈ UW := uwP 41 (by decide +kernel) (by decide +kernel)
theorem up_42 : Cond.selects RX12 yX12_breaks yX12_breaks ∈ UW := uwP 42 (by decide +kernel) (by decide +kernel)
theorem up_43 : Cond.selects RX12 yX12_addressOf yX12_addressOf ∈ UW := uwP 43 (by decide +kernel) (by decide +kernel)
theorem up_44 : Cond.selects RX12 yX12_hasPlaces yX12_hasPlaces ∈ UW := uwP 44 (by decide +kernel) (by decide +kernel)
theorem up_45 : Cond.selects RX12 yX12_denied yX12_denied ∈ UW := uwP 45 (by decide +kernel) (by decide +kernel)
end
section
theorem iu0 : ∀ w ∈ u_ws RX1 TX1 9, w ∈ UW := uw_all _ [108, 110, 112, 114, 116, 118, 120, 122, 124] (by decide +kernel) (by decide +kernel)
theorem fo0_0 {t : Nat} (h : t = 0) : ∃ k, FO t k 2 0 "RowBank$CommandLog" "ticks" "[I" true (.array .int) := ⟨0, by subst h; exact ⟨_, _, _, tyX1, rfl, iu0, tyX1_ok, nmX1, by decide, rfl, by decide +kernel, by decide, rfl⟩⟩
theorem fo0_1 {t : Nat} (h : t = 0) : ∃ k, FO t k 2 1 "RowBank$CommandLog" "forged" "[I" true (.array .int) := ⟨1, by subst h; exact ⟨_, _, _, tyX1, rfl, iu0, tyX1_ok, nmX1, by decide, rfl, by decide +kernel, by decide, rfl⟩⟩
theorem fo0_2 {t : Nat} (h : t = 0) : ∃ k, FO t k 2 2 "RowBank$CommandLog" "which" "[I" true (.array .int) := ⟨2, by subst h; exact ⟨_, _, _, tyX1, rfl, iu0, tyX1_ok, nmX1, by decide, rfl, by decide +kernel, by decide, rfl⟩⟩
theorem fo0_3 {t : Nat} (h : t = 0) : ∃ k, FO t k 2 3 "RowBank$CommandLog" "banks" "[I" true (.array .int) := ⟨3, by subst h; exact ⟨_, _, _, tyX1, rfl, iu0, tyX1_ok, nmX1, by decide, rfl, by decide +kernel, by decide, rfl⟩⟩
theorem fo0_4 {t : Nat} (h : t = 0) : ∃ k, FO t k 2 4 "RowBank$CommandLog" "wheres" "[I" true (.array .int) := ⟨4, by subst h; exact ⟨_, _, _, tyX1, rfl, iu0, tyX1_ok, nmX1, by decide, rfl, by decide +kernel, by decide, rfl⟩⟩
theorem fo0_5 {t : Nat} (h : t = 0) : ∃ k, FO t k 2 5 "RowBank$CommandLog" "asks" "[I" true (.array .int) := ⟨5, by subst h; exact ⟨_, _, _, tyX1, rfl, iu0, tyX1_ok, nmX1, by decide, rfl, by decide +kernel, by decide, rfl⟩⟩
theorem fo0_6 {t : Nat} (h : t = 0) : ∃ k, FO t k 2 6 "RowBank$CommandLog" "checked" "LRowBank$Past;" true (.object "RowBank$Past") := ⟨6, by subst h; exact ⟨_, _, _, tyX1, rfl, iu0, tyX1_ok, nmX1, by decide, rfl, by decide +kernel, by decide, rfl⟩⟩
theorem fo0_7 {t : Nat} (h : t = 0) : ∃ k, FO t k 0 7 "RowBank$CommandLog" "size" "I" false .int := ⟨7, by subst h; exact ⟨_, _, _, tyX1, rfl, iu0, tyX1_ok, nmX1, by decide, rfl, by decide +kernel, by decide, rfl⟩⟩
theorem fo0_8 {t : Nat} (h : t = 0) : ∃ k, FO t k 0 8 "RowBank$CommandLog" "faultyRule" "I" false .int := ⟨8, by subst h; exact ⟨_, _, _, tyX1, rfl, iu0, tyX1_ok, nmX1, by decide, rfl, by decide +kernel, by decide, rfl⟩⟩
theorem iu1 : ∀ w ∈ u_ws RX2 TX2 11, w ∈ UW := uw_all _ [486, 487, 488, 489, 490, 491, 492, 493, 494, 495, 496] (by decide +kernel) (by decide +kernel)
theorem fo1_0 {t : Nat} (h : t = 1) : ∃ k, FO t k 0 0 "RowBank$Ask" "number" "I" true .int := ⟨0, by subst h; exact ⟨_, _, _, tyX2, rfl, iu1, tyX2_ok, nmX2, by decide, rfl, by decide +kernel, by decide, rfl⟩⟩
theorem fo1_1 {t : Nat} (h : t = 1) : ∃ k, FO t k 0 1 "RowBank$Ask" "asker" "I" true .int := ⟨1, by subst h; exact ⟨_, _, _, tyX2, rfl, iu1, tyX2_ok, nmX2, by decide, rfl, by decide +kernel, by decide, rfl⟩⟩
theorem fo1_2 {t : Nat} (h : t = 1) : ∃ k, FO t k 0 2 "RowBank$Ask" "address" "I" true .int := ⟨2, by subst h; exact ⟨_, _, _, tyX2, rfl, iu1, tyX2_ok, nmX2, by decide, rfl, by decide +kernel, by decide, rfl⟩⟩
theorem fo1_3 {t : Nat} (h : t = 1) : ∃ k, FO t k 0 3 "RowBank$Ask" "bank" "I" true .int := ⟨3, by subst h; exact ⟨_, _, _, tyX2, rfl, iu1, tyX2_ok, nmX2, by decide, rfl, by decide +kernel, by decide, rfl⟩⟩
theorem fo1_4 {t : Nat} (h : t = 1) : ∃ k, FO t k 0 4 "RowBank$Ask" "inRow" "I" true .int := ⟨4, by subst h; exact ⟨_, _, _, tyX2, rfl, iu1, tyX2_ok, nmX2, by decide, rfl, by decide +kernel, by decide, rfl⟩⟩
theorem fo1_5 {t : Nat} (h : t = 1) : ∃ k, FO t k 0 5 "RowBank$Ask" "came" "I" true .int := ⟨5, by subst h; exact ⟨_, _, _, tyX2, rfl, iu1, tyX2_ok, nmX2, by decide, rfl, by decide +kernel, by decide, rfl⟩⟩
theorem fo1_6 {t : Nat} (h : t = 1) : ∃ k, FO t k 0 6 "RowBank$Ask" "done" "I" false .int := ⟨6, by subst h; exact ⟨_, _, _, tyX2, rfl, iu1, tyX2_ok, nmX2, by decide, rfl, by decide +kernel, by decide, rfl⟩⟩
theorem fo1_7 {t : Nat} (h : t = 1) : ∃ k, FO t k 0 7 "RowBank$Ask" "answer" "I" false .int := ⟨7, by subst h; exact ⟨_, _, _, tyX2, rfl, iu1, tyX2_ok, nmX2, by decide, rfl, by decide +kernel, by decide, rfl⟩⟩
theorem fo1_8 {t : Nat} (h : t = 1) : ∃ k, FO t k 1 8 "RowBank$Ask" "later" "LRowBank$Ask;" false (.object "RowBank$Ask") := ⟨8, by subst h; exact ⟨_, _, _, tyX2, rfl, iu1, tyX2_ok, nmX2, by decide, rfl, by decide +kernel, by decide, rfl⟩⟩
theorem fo1_9 {t : Nat} (h : t = 1) : ∃ k, FO t k 1 9 "RowBank$Ask" "behind" "LRowBank$Ask;" false (.object "RowBank$Ask") := ⟨9, by subst h; exact ⟨_, _, _, tyX2, rfl, iu1, tyX2_ok, nmX2, by decide, rfl, by decide +kernel, by decide, rfl⟩⟩
theorem fo1_10 {t : Nat} (h : t = 1) : ∃ k, FO t k 0 10 "RowBank$Ask" "rank" "I" false .int := ⟨10, by subst h; exact ⟨_, _, _, tyX2, rfl, iu1, tyX2_ok, nmX2, by decide, rfl, by decide +kernel, by decide, rfl⟩⟩
theorem iu2 : ∀ w ∈ u_ws RX3 TX3 13, w ∈ UW := uw_all _ [440, 441, 442, 443, 444, 445, 446, 447, 448, 449, 450, 451, 438] (by decide +kernel) (by decide +kernel)
theorem fo2_11 {t : Nat} (h : t = 2) : ∃ k, FO t k 0 11 "RowBank$WriteAsk" "v" "I" true .int := ⟨0, by subst h; exact ⟨_, _, _, tyX3, rfl, iu2, tyX3_ok, nmX3, by decide, rfl, by decide +kernel, by decide, rfl⟩⟩
theorem fo2_0 {t : Nat} (h : t = 2) : ∃ k, FO t k 0 0 "RowBank$Ask" "number" "I" true .int := ⟨1, by subst h; exact ⟨_, _, _, tyX3, rfl, iu2, tyX3_ok, nmX3, by decide, rfl, by decide +kernel, by decide, rfl⟩⟩
theorem fo2_1 {t : Nat} (h : t = 2) : ∃ k, FO t k 0 1 "RowBank$Ask" "asker" "I" true .int := ⟨2, by subst h; exact ⟨_, _, _, tyX3, rfl, iu2, tyX3_ok, nmX3, by decide, rfl, by decide +kernel, by decide, rfl⟩⟩
theorem fo2_2 {t : Nat} (h : t = 2) : ∃ k, FO t k 0 2 "RowBank$Ask" "address" "I" true .int := ⟨3, by subst h; exact ⟨_, _, _, tyX3, rfl, iu2, tyX3_ok, nmX3, by decide, rfl, by decide +kernel, by decide, rfl⟩⟩
theorem fo2_3 {t : Nat} (h : t = 2) : ∃ k, FO t k 0 3 "RowBank$Ask" "bank" "I" true .int := ⟨4, by subst h; exact ⟨_, _, _, tyX3, rfl, iu2, tyX3_ok, nmX3, by decide, rfl, by decide +kernel, by decide, rfl⟩⟩
theorem fo2_4 {t : Nat} (h : t = 2) : ∃ k, FO t k 0 4 "RowBank$Ask" "inRow" "I" true .int := ⟨5, by subst h; exact ⟨_, _, _, tyX3, rfl, iu2, tyX3_ok, nmX3, by decide, rfl, by decide +kernel, by decide, rfl⟩⟩
theorem fo2_5 {t : Nat} (h : t = 2) : ∃ k, FO t k 0 5 "RowBank$Ask" "came" "I" true .int := ⟨6, by subst h; exact ⟨_, _, _, tyX3, rfl, iu2, tyX3_ok, nmX3, by decide, rfl, by decide +kernel, by decide, rfl⟩⟩
theorem fo2_6 {t : Nat} (h : t = 2) : ∃ k, FO t k 0 6 "RowBank$Ask" "done" "I" false .int := ⟨7, by subst h; exact ⟨_, _, _, tyX3, rfl, iu2, tyX3_ok, nmX3, by decide, rfl, by decide +kernel, by decide, rfl⟩⟩
theorem fo2_7 {t : Nat} (h : t = 2) : ∃ k, FO t k 0 7 "RowBank$Ask" "answer" "I" false .int := ⟨8, by subst h; exact ⟨_, _, _, tyX3, rfl, iu2, tyX3_ok, nmX3, by decide, rfl, by decide +kernel, by decide, rfl⟩⟩
theorem fo2_8 {t : Nat} (h : t = 2) : ∃ k, FO t k 1 8 "RowBank$Ask" "later" "LRowBank$Ask;" false (.object "RowBank$Ask") := ⟨9, by subst h; exact ⟨_, _, _, tyX3, rfl, iu2, tyX3_ok, nmX3, by decide, rfl, by decide +kernel, by decide, rfl⟩⟩
theorem fo2_9 {t : Nat} (h : t = 2) : ∃ k, FO t k 1 9 "RowBank$Ask" "behind" "LRowBank$Ask;" false (.object "RowBank$Ask") := ⟨10, by subst h; exact ⟨_, _, _, tyX3, rfl, iu2, tyX3_ok, nmX3, by decide, rfl, by decide +kernel, by decide, rfl⟩⟩
theorem fo2_10 {t : Nat} (h : t = 2) : ∃ k, FO t k 0 10 "RowBank$Ask" "rank" "I" false .int := ⟨11, by subst h; exact ⟨_, _, _, tyX3, rfl, iu2, tyX3_ok, nmX3, by decide, rfl, by decide +kernel, by decide, rfl⟩⟩
theorem fo2_12 {t : Nat} (h : t = 2) : ∃ k, FO t k 0 12 "RowBank$MaskedAsk" "bits" "I" true .int := ⟨12, by subst h; exact ⟨_, _, _, tyX3, rfl, iu2, tyX3_ok, nmX3, by decide, rfl, by decide +kernel, by decide, rfl⟩⟩
theorem iu3 : ∀ w ∈ u_ws RX4 TX4 2, w ∈ UW := uw_all _ [138, 140] (by decide +kernel) (by decide +kernel)
theorem fo3_0 {t : Nat} (h : t = 3) : ∃ k, FO t k 2 0 "RowBank$Memory" "octets" "[I" true (.array .int) := ⟨0, by subst h; exact ⟨_, _, _, tyX4, rfl, iu3, tyX4_ok, nmX4, by decide, rfl, by decide +kernel, by decide, rfl⟩⟩
theorem fo3_1 {t : Nat} (h : t = 3) : ∃ k, FO t k 2 1 "RowBank$Memory" "openRows" "[I" true (.array .int) := ⟨1, by subst h; exact ⟨_, _, _, tyX4, rfl, iu3, tyX4_ok, nmX4, by decide, rfl, by decide +kernel, by decide, rfl⟩⟩
theorem iu4 : ∀ w ∈ u_ws RX5 TX5 12, w ∈ UW := uw_all _ [57, 59, 61, 63, 65, 67, 69, 71, 73, 75, 77, 79] (by decide +kernel) (by decide +kernel)
theorem fo4_0 {t : Nat} (h : t = 4) : ∃ k, FO t k 2 0 "RowBank$Past" "opens" "[I" true (.array .int) := ⟨0, by subst h; exact ⟨_, _, _, tyX5, rfl, iu4, tyX5_ok, nmX5, by decide, rfl, by decide +kernel, by decide, rfl⟩⟩
theorem fo4_1 {t : Nat} (h : t = 4) : ∃ k, FO t k 2 1 "RowBank$Past" "opensBeside" "[I" true (.array .int) := ⟨1, by subst h; exact ⟨_, _, _, tyX5, rfl, iu4, tyX5_ok, nmX5, by decide, rfl, by decide +kernel, by decide, rfl⟩⟩
theorem fo4_2 {t : Nat} (h : t = 4) : ∃ k, FO t k 2 2 "RowBank$Past" "shuts" "[I" true (.array .int) := ⟨2, by subst h; exact ⟨_, _, _, tyX5, rfl, iu4, tyX5_ok, nmX5, by decide, rfl, by decide +kernel, by decide, rfl⟩⟩
theorem fo4_3 {t : Nat} (h : t = 4) : ∃ k, FO t k 2 3 "RowBank$Past" "reads" "[I" true (.array .int) := ⟨3, by subst h; exact ⟨_, _, _, tyX5, rfl, iu4, tyX5_ok, nmX5, by decide, rfl, by decide +kernel, by decide, rfl⟩⟩
theorem fo4_4 {t : Nat} (h : t = 4) : ∃ k, FO t k 2 4 "RowBank$Past" "writes" "[I" true (.array .int) := ⟨4, by subst h; exact ⟨_, _, _, tyX5, rfl, iu4, tyX5_ok, nmX5, by decide, rfl, by decide +kernel, by decide, rfl⟩⟩
theorem fo4_5 {t : Nat} (h : t = 4) : ∃ k, FO t k 2 5 "RowBank$Past" "columnsOfGroups" "[I" true (.array .int) := ⟨5, by subst h; exact ⟨_, _, _, tyX5, rfl, iu4, tyX5_ok, nmX5, by decide, rfl, by decide +kernel, by decide, rfl⟩⟩
theorem fo4_6 {t : Nat} (h : t = 4) : ∃ k, FO t k 2 6 "RowBank$Past" "fourOpens" "[I" true (.array .int) := ⟨6, by subst h; exact ⟨_, _, _, tyX5, rfl, iu4, tyX5_ok, nmX5, by decide, rfl, by decide +kernel, by decide, rfl⟩⟩
theorem fo4_7 {t : Nat} (h : t = 4) : ∃ k, FO t k 0 7 "RowBank$Past" "opensInAll" "I" false .int := ⟨7, by subst h; exact ⟨_, _, _, tyX5, rfl, iu4, tyX5_ok, nmX5, by decide, rfl, by decide +kernel, by decide, rfl⟩⟩
theorem fo4_8 {t : Nat} (h : t = 4) : ∃ k, FO t k 0 8 "RowBank$Past" "anyShut" "I" false .int := ⟨8, by subst h; exact ⟨_, _, _, tyX5, rfl, iu4, tyX5_ok, nmX5, by decide, rfl, by decide +kernel, by decide, rfl⟩⟩
theorem fo4_9 {t : Nat} (h : t = 4) : ∃ k, FO t k 0 9 "RowBank$Past" "anyRead" "I" false .int := ⟨9, by subst h; exact ⟨_, _, _, tyX5, rfl, iu4, tyX5_ok, nmX5, by decide, rfl, by decide +kernel, by decide, rfl⟩⟩
theorem fo4_10 {t : Nat} (h : t = 4) : ∃ k, FO t k 0 10 "RowBank$Past" "anyWrite" "I" false .int := ⟨10, by subst h; exact ⟨_, _, _, tyX5, rfl, iu4, tyX5_ok, nmX5, by decide, rfl, by decide +kernel, by decide, rfl⟩⟩
theorem fo4_11 {t : Nat} (h : t = 4) : ∃ k, FO t k 0 11 "RowBank$Past" "refreshed" "I" false .int := ⟨11, by subst h; exact ⟨_, _, _, tyX5, rfl, iu4, tyX5_ok, nmX5, by decide, rfl, by decide +kernel, by decide, rfl⟩⟩
theorem iu5 : ∀ w ∈ u_ws RX6 TX6 11, w ∈ UW := uw_all _ [343, 345, 347, 349, 351, 353, 355, 357, 359, 361, 363] (by decide +kernel) (by decide +kernel)
theorem fo5_0 {t : Nat} (h : t = 5) : ∃ k, FO t k 0 0 "RowBank$Ask" "number" "I" true .int := ⟨0, by subst h; exact ⟨_, _, _, tyX6, rfl, iu5, tyX6_ok, nmX6, by decide, rfl, by decide +kernel, by decide, rfl⟩⟩
theorem fo5_1 {t : Nat} (h : t = 5) : ∃ k, FO t k 0 1 "RowBank$Ask" "asker" "I" true .int := ⟨1, by subst h; exact ⟨_, _, _, tyX6, rfl, iu5, tyX6_ok, nmX6, by decide, rfl, by decide +kernel, by decide, rfl⟩⟩
theorem fo5_2 {t : Nat} (h : t = 5) : ∃ k, FO t k 0 2 "RowBank$Ask" "address" "I" true .int := ⟨2, by subst h; exact ⟨_, _, _, tyX6, rfl, iu5, tyX6_ok, nmX6, by decide, rfl, by decide +kernel, by decide, rfl⟩⟩
theorem fo5_3 {t : Nat} (h : t = 5) : ∃ k, FO t k 0 3 "RowBank$Ask" "bank" "I" true .int := ⟨3, by subst h; exact ⟨_, _, _, tyX6, rfl, iu5, tyX6_ok, nmX6, by decide, rfl, by decide +kernel, by decide, rfl⟩⟩
theorem fo5_4 {t : Nat} (h : t = 5) : ∃ k, FO t k 0 4 "RowBank$Ask" "inRow" "I" true .int := ⟨4, by subst h; exact ⟨_, _, _, tyX6, rfl, iu5, tyX6_ok, nmX6, by decide, rfl, by decide +kernel, by decide, rfl⟩⟩
theorem fo5_5 {t : Nat} (h : t = 5) : ∃ k, FO t k 0 5 "RowBank$Ask" "came" "I" true .int := ⟨5, by subst h; exact ⟨_, _, _, tyX6, rfl, iu5, tyX6_ok, nmX6, by decide, rfl, by decide +kernel, by decide, rfl⟩⟩
theorem fo5_6 {t : Nat} (h : t = 5) : ∃ k, FO t k 0 6 "RowBank$Ask" "done" "I" false .int := ⟨6, by subst h; exact ⟨_, _, _, tyX6, rfl, iu5, tyX6_ok, nmX6, by decide, rfl, by decide +kernel, by decide, rfl⟩⟩
theorem fo5_7 {t : Nat} (h : t = 5) : ∃ k, FO t k 0 7 "RowBank$Ask" "answer" "I" false .int := ⟨7, by subst h; exact ⟨_, _, _, tyX6, rfl, iu5, tyX6_ok, nmX6, by decide, rfl, by decide +kernel, by decide, rfl⟩⟩
theorem fo5_8 {t : Nat} (h : t = 5) : ∃ k, FO t k 1 8 "RowBank$Ask" "later" "LRowBank$Ask;" false (.object "RowBank$Ask") := ⟨8, by subst h; exact ⟨_, _, _, tyX6, rfl, iu5, tyX6_ok, nmX6, by decide, rfl, by decide +kernel, by decide, rfl⟩⟩
theorem fo5_9 {t : Nat} (h : t = 5) : ∃ k, FO t k 1 9 "RowBank$Ask" "behind" "LRowBank$Ask;" false (.object "RowBank$Ask") := ⟨9, by subst h; exact ⟨_, _, _, tyX6, rfl, iu5, tyX6_ok, nmX6, by decide, rfl, by decide +kernel, by decide, rfl⟩⟩
theorem fo5_10 {t : Nat} (h : t = 5) : ∃ k, FO t k 0 10 "RowBank$Ask" "rank" "I" false .int := ⟨10, by subst h; exact ⟨_, _, _, tyX6, rfl, iu5, tyX6_ok, nmX6, by decide, rfl, by decide +kernel, by decide, rfl⟩⟩
theorem iu6 : ∀ w ∈ u_ws RX7 TX7 11, w ∈ UW := uw_all _ [167, 169, 171, 173, 175, 177, 179, 181, 183, 185, 187] (by decide +kernel) (by decide +kernel)
theorem fo6_0 {t : Nat} (h : t = 6) : ∃ k, FO t k 2 0 "RowBank$Queue" "all" "[LRowBank$Ask;" true (.array (.object "RowBank$Ask")) := ⟨0, by subst h; exact ⟨_, _, _, tyX7, rfl, iu6, tyX7_ok, nmX7, by decide, rfl, by decide +kernel, by decide, rfl⟩⟩
theorem fo6_1 {t : Nat} (h : t = 6) : ∃ k, FO t k 2 1 "RowBank$Queue" "plainOctets" "[I" true (.array .int) := ⟨1, by subst h; exact ⟨_, _, _, tyX7, rfl, iu6, tyX7_ok, nmX7, by decide, rfl, by decide +kernel, by decide, rfl⟩⟩
theorem fo6_2 {t : Nat} (h : t = 6) : ∃ k, FO t k 2 2 "RowBank$Queue" "doneOf" "[I" true (.array .int) := ⟨2, by subst h; exact ⟨_, _, _, tyX7, rfl, iu6, tyX7_ok, nmX7, by decide, rfl, by decide +kernel, by decide, rfl⟩⟩
theorem fo6_3 {t : Nat} (h : t = 6) : ∃ k, FO t k 2 3 "RowBank$Queue" "worstWaits" "[I" true (.array .int) := ⟨3, by subst h; exact ⟨_, _, _, tyX7, rfl, iu6, tyX7_ok, nmX7, by decide, rfl, by decide +kernel, by decide, rfl⟩⟩
theorem fo6_4 {t : Nat} (h : t = 6) : ∃ k, FO t k 1 4 "RowBank$Queue" "oldest" "LRowBank$Ask;" false (.object "RowBank$Ask") := ⟨4, by subst h; exact ⟨_, _, _, tyX7, rfl, iu6, tyX7_ok, nmX7, by decide, rfl, by decide +kernel, by decide, rfl⟩⟩
theorem fo6_5 {t : Nat} (h : t = 6) : ∃ k, FO t k 1 5 "RowBank$Queue" "newest" "LRowBank$Ask;" false (.object "RowBank$Ask") := ⟨5, by subst h; exact ⟨_, _, _, tyX7, rfl, iu6, tyX7_ok, nmX7, by decide, rfl, by decide +kernel, by decide, rfl⟩⟩
theorem fo6_6 {t : Nat} (h : t = 6) : ∃ k, FO t k 0 6 "RowBank$Queue" "came" "I" false .int := ⟨6, by subst h; exact ⟨_, _, _, tyX7, rfl, iu6, tyX7_ok, nmX7, by decide, rfl, by decide +kernel, by decide, rfl⟩⟩
theorem fo6_7 {t : Nat} (h : t = 6) : ∃ k, FO t k 0 7 "RowBank$Queue" "waiting" "I" false .int := ⟨7, by subst h; exact ⟨_, _, _, tyX7, rfl, iu6, tyX7_ok, nmX7, by decide, rfl, by decide +kernel, by decide, rfl⟩⟩
theorem fo6_8 {t : Nat} (h : t = 6) : ∃ k, FO t k 0 8 "RowBank$Queue" "fencesWaiting" "I" false .int := ⟨8, by subst h; exact ⟨_, _, _, tyX7, rfl, iu6, tyX7_ok, nmX7, by decide, rfl, by decide +kernel, by decide, rfl⟩⟩
theorem fo6_9 {t : Nat} (h : t = 6) : ∃ k, FO t k 0 9 "RowBank$Queue" "columns" "I" false .int := ⟨9, by subst h; exact ⟨_, _, _, tyX7, rfl, iu6, tyX7_ok, nmX7, by decide, rfl, by decide +kernel, by decide, rfl⟩⟩
theorem fo6_10 {t : Nat} (h : t = 6) : ∃ k, FO t k 0 10 "RowBank$Queue" "columnsBefore" "I" false .int := ⟨10, by subst h; exact ⟨_, _, _, tyX7, rfl, iu6, tyX7_ok, nmX7, by decide, rfl, by decide +kernel, by decide, rfl⟩⟩
theorem iu7 : ∀ w ∈ u_ws RX8 TX8 3, w ∈ UW := uw_all _ [208, 210, 212] (by decide +kernel) (by decide +kernel)
theorem fo7_0 {t : Nat} (h : t = 7) : ∃ k, FO t k 1 0 "RowBank$Shelf" "ask" "LRowBank$Ask;" false (.object "RowBank$Ask") := ⟨0, by subst h; exact ⟨_, _, _, tyX8, rfl, iu7, tyX8_ok, nmX8, by decide, rfl, by decide +kernel, by decide, rfl⟩⟩
theorem fo7_1 {t : Nat} (h : t = 7) : ∃ k, FO t k 1 1 "RowBank$Shelf" "elements" "[I" false (.array .int) := ⟨1, by subst h; exact ⟨_, _, _, tyX8, rfl, iu7, tyX8_ok, nmX8, by decide, rfl, by decide +kernel, by decide, rfl⟩⟩
theorem fo7_2 {t : Nat} (h : t = 7) : ∃ k, FO t k 3 2 "RowBank$Shelf" "ofBytes" "Z" false .boolean := ⟨2, by subst h; exact ⟨_, _, _, tyX8, rfl, iu7, tyX8_ok, nmX8, by decide, rfl, by decide +kernel, by decide, rfl⟩⟩
theorem iu8 : ∀ w ∈ u_ws RX9 TX9 12, w ∈ UW := uw_all _ [463, 464, 465, 466, 467, 468, 469, 470, 471, 472, 473, 474] (by decide +kernel) (by decide +kernel)
theorem fo8_11 {t : Nat} (h : t = 8) : ∃ k, FO t k 0 11 "RowBank$WriteAsk" "v" "I" true .int := ⟨0, by subst h; exact ⟨_, _, _, tyX9, rfl, iu8, tyX9_ok, nmX9, by decide, rfl, by decide +kernel, by decide, rfl⟩⟩
theorem fo8_0 {t : Nat} (h : t = 8) : ∃ k, FO t k 0 0 "RowBank$Ask" "number" "I" true .int := ⟨1, by subst h; exact ⟨_, _, _, tyX9, rfl, iu8, tyX9_ok, nmX9, by decide, rfl, by decide +kernel, by decide, rfl⟩⟩
theorem fo8_1 {t : Nat} (h : t = 8) : ∃ k, FO t k 0 1 "RowBank$Ask" "asker" "I" true .int := ⟨2, by subst h; exact ⟨_, _, _, tyX9, rfl, iu8, tyX9_ok, nmX9, by decide, rfl, by decide +kernel, by decide, rfl⟩⟩
theorem fo8_2 {t : Nat} (h : t = 8) : ∃ k, FO t k 0 2 "RowBank$Ask" "address" "I" true .int := ⟨3, by subst h; exact ⟨_, _, _, tyX9, rfl, iu8, tyX9_ok, nmX9, by decide, rfl, by decide +kernel, by decide, rfl⟩⟩
theorem fo8_3 {t : Nat} (h : t = 8) : ∃ k, FO t k 0 3 "RowBank$Ask" "bank" "I" true .int := ⟨4, by subst h; exact ⟨_, _, _, tyX9, rfl, iu8, tyX9_ok, nmX9, by decide, rfl, by decide +kernel, by decide, rfl⟩⟩
theorem fo8_4 {t : Nat} (h : t = 8) : ∃ k, FO t k 0 4 "RowBank$Ask" "inRow" "I" true .int := ⟨5, by subst h; exact ⟨_, _, _, tyX9, rfl, iu8, tyX9_ok, nmX9, by decide, rfl, by decide +kernel, by decide, rfl⟩⟩
theorem fo8_5 {t : Nat} (h : t = 8) : ∃ k, FO t k 0 5 "RowBank$Ask" "came" "I" true .int := ⟨6, by subst h; exact ⟨_, _, _, tyX9, rfl, iu8, tyX9_ok, nmX9, by decide, rfl, by decide +kernel, by decide, rfl⟩⟩
theorem fo8_6 {t : Nat} (h : t = 8) : ∃ k, FO t k 0 6 "RowBank$Ask" "done" "I" false .int := ⟨7, by subst h; exact ⟨_, _, _, tyX9, rfl, iu8, tyX9_ok, nmX9, by decide, rfl, by decide +kernel, by decide, rfl⟩⟩
theorem fo8_7 {t : Nat} (h : t = 8) : ∃ k, FO t k 0 7 "RowBank$Ask" "answer" "I" false .int := ⟨8, by subst h; exact ⟨_, _, _, tyX9, rfl, iu8, tyX9_ok, nmX9, by decide, rfl, by decide +kernel, by decide, rfl⟩⟩
theorem fo8_8 {t : Nat} (h : t = 8) : ∃ k, FO t k 1 8 "RowBank$Ask" "later" "LRowBank$Ask;" false (.object "RowBank$Ask") := ⟨9, by subst h; exact ⟨_, _, _, tyX9, rfl, iu8, tyX9_ok, nmX9, by decide, rfl, by decide +kernel, by decide, rfl⟩⟩
theorem fo8_9 {t : Nat} (h : t = 8) : ∃ k, FO t k 1 9 "RowBank$Ask" "behind" "LRowBank$Ask;" false (.object "RowBank$Ask") := ⟨10, by subst h; exact ⟨_, _, _, tyX9, rfl, iu8, tyX9_ok, nmX9, by decide, rfl, by decide +kernel, by decide, rfl⟩⟩
theorem fo8_10 {t : Nat} (h : t = 8) : ∃ k, FO t k 0 10 "RowBank$Ask" "rank" "I" false .int := ⟨11, by subst h; exact ⟨_, _, _, tyX9, rfl, iu8, tyX9_ok, nmX9, by decide, rfl, by decide +kernel, by decide, rfl⟩⟩
theorem iu9 : ∀ w ∈ u_ws RX10 TX10 12, w ∈ UW := uw_all _ [415, 416, 417, 418, 419, 420, 421, 422, 423, 424, 425, 413] (by decide +kernel) (by decide +kernel)
theorem fo9_0 {t : Nat} (h : t = 9) : ∃ k, FO t k 0 0 "RowBank$Ask" "number" "I" true .int := ⟨0, by subst h; exact ⟨_, _, _, tyX10, rfl, iu9, tyX10_ok, nmX10, by decide, rfl, by decide +kernel, by decide, rfl⟩⟩
theorem fo9_1 {t : Nat} (h : t = 9) : ∃ k, FO t k 0 1 "RowBank$Ask" "asker" "I" true .int := ⟨1, by subst h; exact ⟨_, _, _, tyX10, rfl, iu9, tyX10_ok, nmX10, by decide, rfl, by decide +kernel, by decide, rfl⟩⟩
theorem fo9_2 {t : Nat} (h : t = 9) : ∃ k, FO t k 0 2 "RowBank$Ask" "address" "I" true .int := ⟨2, by subst h; exact ⟨_, _, _, tyX10, rfl, iu9, tyX10_ok, nmX10, by decide, rfl, by decide +kernel, by decide, rfl⟩⟩
theorem fo9_3 {t : Nat} (h : t = 9) : ∃ k, FO t k 0 3 "RowBank$Ask" "bank" "I" true .int := ⟨3, by subst h; exact ⟨_, _, _, tyX10, rfl, iu9, tyX10_ok, nmX10, by decide, rfl, by decide +kernel, by decide, rfl⟩⟩
theorem fo9_4 {t : Nat} (h : t = 9) : ∃ k, FO t k 0 4 "RowBank$Ask" "inRow" "I" true .int := ⟨4, by subst h; exact ⟨_, _, _, tyX10, rfl, iu9, tyX10_ok, nmX10, by decide, rfl, by decide +kernel, by decide, rfl⟩⟩
theorem fo9_5 {t : Nat} (h : t = 9) : ∃ k, FO t k 0 5 "RowBank$Ask" "came" "I" true .int := ⟨5, by subst h; exact ⟨_, _, _, tyX10, rfl, iu9, tyX10_ok, nmX10, by decide, rfl, by decide +kernel, by decide, rfl⟩⟩
theorem fo9_6 {t : Nat} (h : t = 9) : ∃ k, FO t k 0 6 "RowBank$Ask" "done" "I" false .int := ⟨6, by subst h; exact ⟨_, _, _, tyX10, rfl, iu9, tyX10_ok, nmX10, by decide, rfl, by decide +kernel, by decide, rfl⟩⟩
theorem fo9_7 {t : Nat} (h : t = 9) : ∃ k, FO t k 0 7 "RowBank$Ask" "answer" "I" false .int := ⟨7, by subst h; exact ⟨_, _, _, tyX10, rfl, iu9, tyX10_ok, nmX10, by decide, rfl, by decide +kernel, by decide, rfl⟩⟩
theorem fo9_8 {t : Nat} (h : t = 9) : ∃ k, FO t k 1 8 "RowBank$Ask" "later" "LRowBank$Ask;" false (.object "RowBank$Ask") := ⟨8, by subst h; exact ⟨_, _, _, tyX10, rfl, iu9, tyX10_ok, nmX10, by decide, rfl, by decide +kernel, by decide, rfl⟩⟩
theorem fo9_9 {t : Nat} (h : t = 9) : ∃ k, FO t k 1 9 "RowBank$Ask" "behind" "LRowBank$Ask;" false (.object "RowBank$Ask") := ⟨9, by subst h; exact ⟨_, _, _, tyX10, rfl, iu9, tyX10_ok, nmX10, by decide, rfl, by decide +kernel, by decide, rfl⟩⟩
theorem fo9_10 {t : Nat} (h : t = 9) : ∃ k, FO t k 0 10 "RowBank$Ask" "rank" "I" false .int := ⟨10, by subst h; exact ⟨_, _, _, tyX10, rfl, iu9, tyX10_ok, nmX10, by decide, rfl, by decide +kernel, by decide, rfl⟩⟩
theorem fo9_11 {t : Nat} (h : t = 9) : ∃ k, FO t k 0 11 "RowBank$WriteAsk" "v" "I" true .int := ⟨11, by subst h; exact ⟨_, _, _, tyX10, rfl, iu9, tyX10_ok, nmX10, by decide, rfl, by decide +kernel, by decide, rfl⟩⟩
theorem iu10 : ∀ w ∈ u_ws RX11 TX11 16, w ∈ UW := uw_all _ [231, 233, 235, 237, 239, 241, 243, 245, 247, 249, 251, 253, 255, 257, 259, 261] (by decide +kernel) (by decide +kernel)
theorem fo10_0 {t : Nat} (h : t = 10) : ∃ k, FO t k 2 0 "RowBank" "times" "[I" true (.array .int) := ⟨0, by subst h; exact ⟨_, _, _, tyX11, rfl, iu10, tyX11_ok, nmX11, by decide, rfl, by decide +kernel, by decide, rfl⟩⟩
theorem fo10_1 {t : Nat} (h : t = 10) : ∃ k, FO t k 2 1 "RowBank" "past" "LRowBank$Past;" true (.object "RowBank$Past") := ⟨1, by subst h; exact ⟨_, _, _, tyX11, rfl, iu10, tyX11_ok, nmX11, by decide, rfl, by decide +kernel, by decide, rfl⟩⟩
theorem fo10_2 {t : Nat} (h : t = 10) : ∃ k, FO t k 2 2 "RowBank" "commandLog" "LRowBank$CommandLog;" true (.object "RowBank$CommandLog") := ⟨2, by subst h; exact ⟨_, _, _, tyX11, rfl, iu10, tyX11_ok, nmX11, by decide, rfl, by decide +kernel, by decide, rfl⟩⟩
theorem fo10_3 {t : Nat} (h : t = 10) : ∃ k, FO t k 2 3 "RowBank" "memory" "LRowBank$Memory;" true (.object "RowBank$Memory") := ⟨3, by subst h; exact ⟨_, _, _, tyX11, rfl, iu10, tyX11_ok, nmX11, by decide, rfl, by decide +kernel, by decide, rfl⟩⟩
theorem fo10_4 {t : Nat} (h : t = 10) : ∃ k, FO t k 2 4 "RowBank" "queue" "LRowBank$Queue;" true (.object "RowBank$Queue") := ⟨4, by subst h; exact ⟨_, _, _, tyX11, rfl, iu10, tyX11_ok, nmX11, by decide, rfl, by decide +kernel, by decide, rfl⟩⟩
theorem fo10_5 {t : Nat} (h : t = 10) : ∃ k, FO t k 2 5 "RowBank" "shelves" "[LRowBank$Shelf;" true (.array (.object "RowBank$Shelf")) := ⟨5, by subst h; exact ⟨_, _, _, tyX11, rfl, iu10, tyX11_ok, nmX11, by decide, rfl, by decide +kernel, by decide, rfl⟩⟩
theorem fo10_6 {t : Nat} (h : t = 10) : ∃ k, FO t k 0 6 "RowBank" "tick" "I" false .int := ⟨6, by subst h; exact ⟨_, _, _, tyX11, rfl, iu10, tyX11_ok, nmX11, by decide, rfl, by decide +kernel, by decide, rfl⟩⟩
theorem fo10_7 {t : Nat} (h : t = 10) : ∃ k, FO t k 0 7 "RowBank" "every" "I" false .int := ⟨7, by subst h; exact ⟨_, _, _, tyX11, rfl, iu10, tyX11_ok, nmX11, by decide, rfl, by decide +kernel, by decide, rfl⟩⟩
theorem fo10_8 {t : Nat} (h : t = 10) : ∃ k, FO t k 0 8 "RowBank" "due" "I" false .int := ⟨8, by subst h; exact ⟨_, _, _, tyX11, rfl, iu10, tyX11_ok, nmX11, by decide, rfl, by decide +kernel, by decide, rfl⟩⟩
theorem fo10_9 {t : Nat} (h : t = 10) : ∃ k, FO t k 0 9 "RowBank" "owed" "I" false .int := ⟨9, by subst h; exact ⟨_, _, _, tyX11, rfl, iu10, tyX11_ok, nmX11, by decide, rfl, by decide +kernel, by decide, rfl⟩⟩
theorem fo10_10 {t : Nat} (h : t = 10) : ∃ k, FO t k 0 10 "RowBank" "theOrder" "I" false .int := ⟨10, by subst h; exact ⟨_, _, _, tyX11, rfl, iu10, tyX11_ok, nmX11, by decide, rfl, by decide +kernel, by decide, rfl⟩⟩
theorem fo10_11 {t : Nat} (h : t = 10) : ∃ k, FO t k 0 11 "RowBank" "limit" "I" false .int := ⟨11, by subst h; exact ⟨_, _, _, tyX11, rfl, iu10, tyX11_ok, nmX11, by decide, rfl, by decide +kernel, by decide, rfl⟩⟩
theorem fo10_12 {t : Nat} (h : t = 10) : ∃ k, FO t k 0 12 "RowBank" "commands" "I" false .int := ⟨12, by subst h; exact ⟨_, _, _, tyX11, rfl, iu10, tyX11_ok, nmX11, by decide, rfl, by decide +kernel, by decide, rfl⟩⟩
theorem fo10_13 {t : Nat} (h : t = 10) : ∃ k, FO t k 0 13 "RowBank" "refreshes" "I" false .int := ⟨13, by subst h; exact ⟨_, _, _, tyX11, rfl, iu10, tyX11_ok, nmX11, by decide, rfl, by decide +kernel, by decide, rfl⟩⟩
theorem fo10_14 {t : Nat} (h : t = 10) : ∃ k, FO t k 0 14 "RowBank" "chosenBank" "I" false .int := ⟨14, by subst h; exact ⟨_, _, _, tyX11, rfl, iu10, tyX11_ok, nmX11, by decide, rfl, by decide +kernel, by decide, rfl⟩⟩
theorem fo10_15 {t : Nat} (h : t = 10) : ∃ k, FO t k 1 15 "RowBank" "chosenAsk" "LRowBank$Ask;" false (.object "RowBank$Ask") := ⟨15, by subst h; exact ⟨_, _, _, tyX11, rfl, iu10, tyX11_ok, nmX11, by decide, rfl, by decide +kernel, by decide, rfl⟩⟩
theorem iu11 : ∀ w ∈ u_ws RX12 TX12 50, w ∈ UW := uw_all _ [1006, 1008, 1010, 1012, 1014, 1016, 1018, 1020, 1022, 1024, 1026, 1028, 1030, 1032, 1034, 1036, 1038, 1040, 1042, 1044, 1046, 1048, 1050, 1052, 1054, 1056, 1058, 1060, 1062, 1064, 1066, 1068, 1070, 1072, 1074, 1076, 1078, 1080, 1082, 1084, 1086, 1088, 1090, 1092, 1094, 1096, 1098, 1100, 1102, 1104] (by decide +kernel) (by decide +kernel)
theorem fo11_0 {t : Nat} (h : t = 11) : ∃ k, FO t k 0 0 "RowBankModel" "thrown" "I" false .int := ⟨0, by subst h; exact ⟨_, _, _, tyX12, rfl, iu11, tyX12_ok, nmX12, by decide, rfl, by decide +kernel, by decide, rfl⟩⟩
theorem fo11_1 {t : Nat} (h : t = 11) : ∃ k, FO t k 2 1 "RowBankModel" "time" "[I" true (.array .int) := ⟨1, by subst h; exact ⟨_, _, _, tyX12, rfl, iu11, tyX12_ok, nmX12, by decide, rfl, by decide +kernel, by decide, rfl⟩⟩
theorem fo11_2 {t : Nat} (h : t = 11) : ∃ k, FO t k 0 2 "RowBankModel" "every" "I" false .int := ⟨2, by subst h; exact ⟨_, _, _, tyX12, rfl, iu11, tyX12_ok, nmX12, by decide, rfl, by decide +kernel, by decide, rfl⟩⟩
theorem fo11_3 {t : Nat} (h : t = 11) : ∃ k, FO t k 0 3 "RowBankModel" "due" "I" false .int := ⟨3, by subst h; exact ⟨_, _, _, tyX12, rfl, iu11, tyX12_ok, nmX12, by decide, rfl, by decide +kernel, by decide, rfl⟩⟩
theorem fo11_4 {t : Nat} (h : t = 11) : ∃ k, FO t k 0 4 "RowBankModel" "order" "I" false .int := ⟨4, by subst h; exact ⟨_, _, _, tyX12, rfl, iu11, tyX12_ok, nmX12, by decide, rfl, by decide +kernel, by decide, rfl⟩⟩
theorem fo11_5 {t : Nat} (h : t = 11) : ∃ k, FO t k 0 5 "RowBankModel" "limit" "I" false .int := ⟨5, by subst h; exact ⟨_, _, _, tyX12, rfl, iu11, tyX12_ok, nmX12, by decide, rfl, by decide +kernel, by decide, rfl⟩⟩
theorem fo11_6 {t : Nat} (h : t = 11) : ∃ k, FO t k 0 6 "RowBankModel" "open" "I" false .int := ⟨6, by subst h; exact ⟨_, _, _, tyX12, rfl, iu11, tyX12_ok, nmX12, by decide, rfl, by decide +kernel, by decide, rfl⟩⟩
theorem fo11_7 {t : Nat} (h : t = 11) : ∃ k, FO t k 0 7 "RowBankModel" "owed" "I" false .int := ⟨7, by subst h; exact ⟨_, _, _, tyX12, rfl, iu11, tyX12_ok, nmX12, by decide, rfl, by decide +kernel, by decide, rfl⟩⟩
theorem fo11_8 {t : Nat} (h : t = 11) : ∃ k, FO t k 0 8 "RowBankModel" "refreshes" "I" false .int := ⟨8, by subst h; exact ⟨_, _, _, tyX12, rfl, iu11, tyX12_ok, nmX12, by decide, rfl, by decide +kernel, by decide, rfl⟩⟩
theorem fo11_9 {t : Nat} (h : t = 11) : ∃ k, FO t k 0 9 "RowBankModel" "commands" "I" false .int := ⟨9, by subst h; exact ⟨_, _, _, tyX12, rfl, iu11, tyX12_ok, nmX12, by decide, rfl, by decide +kernel, by decide, rfl⟩⟩
theorem fo11_10 {t : Nat} (h : t = 11) : ∃ k, FO t k 0 10 "RowBankModel" "opens" "I" false .int := ⟨10, by subst h; exact ⟨_, _, _, tyX12, rfl, iu11, tyX12_ok, nmX12, by decide, rfl, by decide +kernel, by decide, rfl⟩⟩
theorem fo11_11 {t : Nat} (h : t = 11) : ∃ k, FO t k 2 11 "RowBankModel" "row" "[I" true (.array .int) := ⟨11, by subst h; exact ⟨_, _, _, tyX12, rfl, iu11, tyX12_ok, nmX12, by decide, rfl, by decide +kernel, by decide, rfl⟩⟩
theorem fo11_12 {t : Nat} (h : t = 11) : ∃ k, FO t k 2 12 "RowBankModel" "memory" "[I" true (.array .int) := ⟨12, by subst h; exact ⟨_, _, _, tyX12, rfl, iu11, tyX12_ok, nmX12, by decide, rfl, by decide +kernel, by decide, rfl⟩⟩
theorem fo11_13 {t : Nat} (h : t = 11) : ∃ k, FO t k 0 13 "RowBankModel" "asks" "I" false .int := ⟨13, by subst h; exact ⟨_, _, _, tyX12, rfl, iu11, tyX12_ok, nmX12, by decide, rfl, by decide +kernel, by decide, rfl⟩⟩
theorem fo11_14 {t : Nat} (h : t = 11) : ∃ k, FO t k 0 14 "RowBankModel" "waiting" "I" false .int := ⟨14, by subst h; exact ⟨_, _, _, tyX12, rfl, iu11, tyX12_ok, nmX12, by decide, rfl, by decide +kernel, by decide, rfl⟩⟩
theorem fo11_15 {t : Nat} (h : t = 11) : ∃ k, FO t k 2 15 "RowBankModel" "kind" "[I" true (.array .int) := ⟨15, by subst h; exact ⟨_, _, _, tyX12, rfl, iu11, tyX12_ok, nmX12, by decide, rfl, by decide +kernel, by decide, rfl⟩⟩
theorem fo11_16 {t : Nat} (h : t = 11) : ∃ k, FO t k 2 16 "RowBankModel" "asker" "[I" true (.array .int) := ⟨16, by subst h; exact ⟨_, _, _, tyX12, rfl, iu11, tyX12_ok, nmX12, by decide, rfl, by decide +kernel, by decide, rfl⟩⟩
theorem fo11_17 {t : Nat} (h : t = 11) : ∃ k, FO t k 2 17 "RowBankModel" "address" "[I" true (.array .int) := ⟨17, by subst h; exact ⟨_, _, _, tyX12, rfl, iu11, tyX12_ok, nmX12, by decide, rfl, by decide +kernel, by decide, rfl⟩⟩
theorem fo11_18 {t : Nat} (h : t = 11) : ∃ k, FO t k 2 18 "RowBankModel" "value" "[I" true (.array .int) := ⟨18, by subst h; exact ⟨_, _, _, tyX12, rfl, iu11, tyX12_ok, nmX12, by decide, rfl, by decide +kernel, by decide, rfl⟩⟩
theorem fo11_19 {t : Nat} (h : t = 11) : ∃ k, FO t k 2 19 "RowBankModel" "bits" "[I" true (.array .int) := ⟨19, by subst h; exact ⟨_, _, _, tyX12, rfl, iu11, tyX12_ok, nmX12, by decide, rfl, by decide +kernel, by decide, rfl⟩⟩
theorem fo11_20 {t : Nat} (h : t = 11) : ∃ k, FO t k 2 20 "RowBankModel" "came" "[I" true (.array .int) := ⟨20, by subst h; exact ⟨_, _, _, tyX12, rfl, iu11, tyX12_ok, nmX12, by decide, rfl, by decide +kernel, by decide, rfl⟩⟩
theorem fo11_21 {t : Nat} (h : t = 11) : ∃ k, FO t k 2 21 "RowBankModel" "done" "[I" true (.array .int) := ⟨21, by subst h; exact ⟨_, _, _, tyX12, rfl, iu11, tyX12_ok, nmX12, by decide, rfl, by decide +kernel, by decide, rfl⟩⟩
theorem fo11_22 {t : Nat} (h : t = 11) : ∃ k, FO t k 2 22 "RowBankModel" "answer" "[I" true (.array .int) := ⟨22, by subst h; exact ⟨_, _, _, tyX12, rfl, iu11, tyX12_ok, nmX12, by decide, rfl, by decide +kernel, by decide, rfl⟩⟩
theorem fo11_23 {t : Nat} (h : t = 11) : ∃ k, FO t k 2 23 "RowBankModel" "doneOf" "[I" true (.array .int) := ⟨23, by subst h; exact ⟨_, _, _, tyX12, rfl, iu11, tyX12_ok, nmX12, by decide, rfl, by decide +kernel, by decide, rfl⟩⟩
theorem fo11_24 {t : Nat} (h : t = 11) : ∃ k, FO t k 0 24 "RowBankModel" "oldest" "I" false .int := ⟨24, by subst h; exact ⟨_, _, _, tyX12, rfl, iu11, tyX12_ok, nmX12, by decide, rfl, by decide +kernel, by decide, rfl⟩⟩
theorem fo11_25 {t : Nat} (h : t = 11) : ∃ k, FO t k 0 25 "RowBankModel" "since" "I" false .int := ⟨25, by subst h; exact ⟨_, _, _, tyX12, rfl, iu11, tyX12_ok, nmX12, by decide, rfl, by decide +kernel, by decide, rfl⟩⟩
theorem fo11_26 {t : Nat} (h : t = 11) : ∃ k, FO t k 0 26 "RowBankModel" "recent" "I" false .int := ⟨26, by subst h; exact ⟨_, _, _, tyX12, rfl, iu11, tyX12_ok, nmX12, by decide, rfl, by decide +kernel, by decide, rfl⟩⟩
theorem fo11_27 {t : Nat} (h : t = 11) : ∃ k, FO t k 2 27 "RowBankModel" "recentTick" "[I" true (.array .int) := ⟨27, by subst h; exact ⟨_, _, _, tyX12, rfl, iu11, tyX12_ok, nmX12, by decide, rfl, by decide +kernel, by decide, rfl⟩⟩
theorem fo11_28 {t : Nat} (h : t = 11) : ∃ k, FO t k 2 28 "RowBankModel" "recentWhat" "[I" true (.array .int) := ⟨28, by subst h; exact ⟨_, _, _, tyX12, rfl, iu11, tyX12_ok, nmX12, by decide, rfl, by decide +kernel, by decide, rfl⟩⟩
theorem fo11_29 {t : Nat} (h : t = 11) : ∃ k, FO t k 2 29 "RowBankModel" "recentBank" "[I" true (.array .int) := ⟨29, by subst h; exact ⟨_, _, _, tyX12, rfl, iu11, tyX12_ok, nmX12, by decide, rfl, by decide +kernel, by decide, rfl⟩⟩
theorem fo11_30 {t : Nat} (h : t = 11) : ∃ k, FO t k 0 30 "RowBankModel" "logged" "I" false .int := ⟨30, by subst h; exact ⟨_, _, _, tyX12, rfl, iu11, tyX12_ok, nmX12, by decide, rfl, by decide +kernel, by decide, rfl⟩⟩
theorem fo11_31 {t : Nat} (h : t = 11) : ∃ k, FO t k 2 31 "RowBankModel" "logTick" "[I" true (.array .int) := ⟨31, by subst h; exact ⟨_, _, _, tyX12, rfl, iu11, tyX12_ok, nmX12, by decide, rfl, by decide +kernel, by decide, rfl⟩⟩
theorem fo11_32 {t : Nat} (h : t = 11) : ∃ k, FO t k 2 32 "RowBankModel" "logForged" "[I" true (.array .int) := ⟨32, by subst h; exact ⟨_, _, _, tyX12, rfl, iu11, tyX12_ok, nmX12, by decide, rfl, by decide +kernel, by decide, rfl⟩⟩
theorem fo11_33 {t : Nat} (h : t = 11) : ∃ k, FO t k 2 33 "RowBankModel" "logWhat" "[I" true (.array .int) := ⟨33, by subst h; exact ⟨_, _, _, tyX12, rfl, iu11, tyX12_ok, nmX12, by decide, rfl, by decide +kernel, by decide, rfl⟩⟩
theorem fo11_34 {t : Nat} (h : t = 11) : ∃ k, FO t k 2 34 "RowBankModel" "logBank" "[I" true (.array .int) := ⟨34, by subst h; exact ⟨_, _, _, tyX12, rfl, iu11, tyX12_ok, nmX12, by decide, rfl, by decide +kernel, by decide, rfl⟩⟩
theorem fo11_35 {t : Nat} (h : t = 11) : ∃ k, FO t k 2 35 "RowBankModel" "logPlace" "[I" true (.array .int) := ⟨35, by subst h; exact ⟨_, _, _, tyX12, rfl, iu11, tyX12_ok, nmX12, by decide, rfl, by decide +kernel, by decide, rfl⟩⟩
theorem fo11_36 {t : Nat} (h : t = 11) : ∃ k, FO t k 2 36 "RowBankModel" "logAsk" "[I" true (.array .int) := ⟨36, by subst h; exact ⟨_, _, _, tyX12, rfl, iu11, tyX12_ok, nmX12, by decide, rfl, by decide +kernel, by decide, rfl⟩⟩
theorem fo11_37 {t : Nat} (h : t = 11) : ∃ k, FO t k 0 37 "RowBankModel" "broken" "I" false .int := ⟨37, by subst h; exact ⟨_, _, _, tyX12, rfl, iu11, tyX12_ok, nmX12, by decide, rfl, by decide +kernel, by decide, rfl⟩⟩
theorem fo11_38 {t : Nat} (h : t = 11) : ∃ k, FO t k 2 38 "RowBankModel" "row0" "[I" true (.array .int) := ⟨38, by subst h; exact ⟨_, _, _, tyX12, rfl, iu11, tyX12_ok, nmX12, by decide, rfl, by decide +kernel, by decide, rfl⟩⟩
theorem fo11_39 {t : Nat} (h : t = 11) : ∃ k, FO t k 0 39 "RowBankModel" "ordered" "I" false .int := ⟨39, by subst h; exact ⟨_, _, _, tyX12, rfl, iu11, tyX12_ok, nmX12, by decide, rfl, by decide +kernel, by decide, rfl⟩⟩
theorem fo11_40 {t : Nat} (h : t = 11) : ∃ k, FO t k 0 40 "RowBankModel" "what" "I" false .int := ⟨40, by subst h; exact ⟨_, _, _, tyX12, rfl, iu11, tyX12_ok, nmX12, by decide, rfl, by decide +kernel, by decide, rfl⟩⟩
theorem fo11_41 {t : Nat} (h : t = 11) : ∃ k, FO t k 0 41 "RowBankModel" "whatBank" "I" false .int := ⟨41, by subst h; exact ⟨_, _, _, tyX12, rfl, iu11, tyX12_ok, nmX12, by decide, rfl, by decide +kernel, by decide, rfl⟩⟩
theorem fo11_42 {t : Nat} (h : t = 11) : ∃ k, FO t k 0 42 "RowBankModel" "whatAsk" "I" false .int := ⟨42, by subst h; exact ⟨_, _, _, tyX12, rfl, iu11, tyX12_ok, nmX12, by decide, rfl, by decide +kernel, by decide, rfl⟩⟩
theorem fo11_43 {t : Nat} (h : t = 11) : ∃ k, FO t k 2 43 "RowBankModel" "kept" "[I" true (.array .int) := ⟨43, by subst h; exact ⟨_, _, _, tyX12, rfl, iu11, tyX12_ok, nmX12, by decide, rfl, by decide +kernel, by decide, rfl⟩⟩
theorem fo11_44 {t : Nat} (h : t = 11) : ∃ k, FO t k 2 44 "RowBankModel" "plain" "[I" true (.array .int) := ⟨44, by subst h; exact ⟨_, _, _, tyX12, rfl, iu11, tyX12_ok, nmX12, by decide, rfl, by decide +kernel, by decide, rfl⟩⟩
theorem fo11_45 {t : Nat} (h : t = 11) : ∃ k, FO t k 2 45 "RowBankModel" "shelf" "[I" true (.array .int) := ⟨45, by subst h; exact ⟨_, _, _, tyX12, rfl, iu11, tyX12_ok, nmX12, by decide, rfl, by decide +kernel, by decide, rfl⟩⟩
theorem fo11_46 {t : Nat} (h : t = 11) : ∃ k, FO t k 2 46 "RowBankModel" "shelfSize" "[I" true (.array .int) := ⟨46, by subst h; exact ⟨_, _, _, tyX12, rfl, iu11, tyX12_ok, nmX12, by decide, rfl, by decide +kernel, by decide, rfl⟩⟩
theorem fo11_47 {t : Nat} (h : t = 11) : ∃ k, FO t k 2 47 "RowBankModel" "shelfAsk" "[I" true (.array .int) := ⟨47, by subst h; exact ⟨_, _, _, tyX12, rfl, iu11, tyX12_ok, nmX12, by decide, rfl, by decide +kernel, by decide, rfl⟩⟩
theorem fo11_48 {t : Nat} (h : t = 11) : ∃ k, FO t k 2 48 "RowBankModel" "shelfRow" "[I" true (.array .int) := ⟨48, by subst h; exact ⟨_, _, _, tyX12, rfl, iu11, tyX12_ok, nmX12, by decide, rfl, by decide +kernel, by decide, rfl⟩⟩
theorem fo11_49 {t : Nat} (h : t = 11) : ∃ k, FO t k 2 49 "RowBankModel" "between" "[I" true (.array .int) := ⟨49, by subst h; exact ⟨_, _, _, tyX12, rfl, iu11, tyX12_ok, nmX12, by decide, rfl, by decide +kernel, by decide, rfl⟩⟩
abbrev isA (t : Nat) : Prop := t = 1 ∨ t = 2 ∨ t = 5 ∨ t = 8 ∨ t = 9
abbrev isW (t : Nat) : Prop := t = 2 ∨ t = 8 ∨ t = 9
theorem foA_0 {t : Nat} (h : isA t) : ∃ k, FO t k 0 0 "RowBank$Ask" "number" "I" true .int := h.elim fo1_0 (fun h => h.elim fo2_0 (fun h => h.elim fo5_0 (fun h => h.elim fo8_0 fo9_0)))
theorem foA_1 {t : Nat} (h : isA t) : ∃ k, FO t k 0 1 "RowBank$Ask" "asker" "I" true .int := h.elim fo1_1 (fun h => h.elim fo2_1 (fun h => h.elim fo5_1 (fun h => h.elim fo8_1 fo9_1)))
theorem foA_2 {t : Nat} (h : isA t) : ∃ k, FO t k 0 2 "RowBank$Ask" "address" "I" true .int := h.elim fo1_2 (fun h => h.elim fo2_2 (fun h => h.elim fo5_2 (fun h => h.elim fo8_2 fo9_2)))
theorem foA_3 {t : Nat} (h : isA t) : ∃ k, FO t k 0 3 "RowBank$Ask" "bank" "I" true .int := h.elim fo1_3 (fun h => h.elim fo2_3 (fun h => h.elim fo5_3 (fun h => h.elim fo8_3 fo9_3)))
theorem foA_4 {t : Nat} (h : isA t) : ∃ k, FO t k 0 4 "RowBank$Ask" "inRow" "I" true .int := h.elim fo1_4 (fun h => h.elim fo2_4 (fun h => h.elim fo5_4 (fun h => h.elim fo8_4 fo9_4)))
theorem foA_5 {t : Nat} (h : isA t) : ∃ k, FO t k 0 5 "RowBank$Ask" "came" "I" true .int := h.elim fo1_5 (fun h => h.elim fo2_5 (fun h => h.elim fo5_5 (fun h => h.elim fo8_5 fo9_5)))
theorem foA_6 {t : Nat} (h : isA t) : ∃ k, FO t k 0 6 "RowBank$Ask" "done" "I" false .int := h.elim fo1_6 (fun h => h.elim fo2_6 (fun h => h.elim fo5_6 (fun h => h.elim fo8_6 fo9_6)))
theorem foA_7 {t : Nat} (h : isA t) : ∃ k, FO t k 0 7 "RowBank$Ask" "answer" "I" false .int := h.elim fo1_7 (fun h => h.elim fo2_7 (fun h => h.elim fo5_7 (fun h => h.elim fo8_7 fo9_7)))
theorem foA_8 {t : Nat} (h : isA t) : ∃ k, FO t k 1 8 "RowBank$Ask" "later" "LRowBank$Ask;" false (.object "RowBank$Ask") := h.elim fo1_8 (fun h => h.elim fo2_8 (fun h => h.elim fo5_8 (fun h => h.elim fo8_8 fo9_8)))
theorem foA_9 {t : Nat} (h : isA t) : ∃ k, FO t k 1 9 "RowBank$Ask" "behind" "LRowBank$Ask;" false (.object "RowBank$Ask") := h.elim fo1_9 (fun h => h.elim fo2_9 (fun h => h.elim fo5_9 (fun h => h.elim fo8_9 fo9_9)))
theorem foA_10 {t : Nat} (h : isA t) : ∃ k, FO t k 0 10 "RowBank$Ask" "rank" "I" false .int := h.elim fo1_10 (fun h => h.elim fo2_10 (fun h => h.elim fo5_10 (fun h => h.elim fo8_10 fo9_10)))
theorem foW_11 {t : Nat} (h : isW t) : ∃ k, FO t k 0 11 "RowBank$WriteAsk" "v" "I" true .int := h.elim fo2_11 (fun h => h.elim fo8_11 fo9_11)
theorem uwMaxC : Cond.code Lib.Math.max.name Lib.Math.max.code 2 (some .int) ∈ UW := uwT 548 (by decide +kernel) (by decide +kernel)
theorem uwMaxS : Cond.static Lib.Math.max.name ∈ UW := uwT 547 (by decide +kernel) (by decide +kernel)
theorem uwMaxI : Cond.initialized "java/lang/Math" ∈ UW := uwT 16 (by decide +kernel) (by decide +kernel)
theorem uwIsIn : Cond.code yX12_isIn cX12_isIn 6 (some .boolean) ∈ UW := uw_1118
theorem uwIsInS : Cond.static yX12_isIn ∈ UW := uw_1117
theorem uwIsInI : Cond.initialized yX12_isIn.cls ∈ UW := uw_9
end
section
/-! ===== the machine's rows over this memory ===== -/
def lo (ad : Nat → Nat) (ls : Array Slot) (PL : List (Option (Int ⊕ Option Nat))) : Prop := ls.size = PL.length ∧ lv_wf ls ∧ ∀ (i : Nat) (v : Int ⊕ Option Nat), PL[i]? = some (some v) → ls[i]? = some (.val (vS ad v))
def lof (ad : Nat → Nat) (PL : List (Option (Int ⊕ Option Nat))) : List (Nat × Value) := (List.range PL.length).filterMap (fun i => (PL[i]?.join).map (fun v => (i, vS ad v)))
theorem lof_in {ad : Nat → Nat} {PL : List (Option (Int ⊕ Option Nat))} {i : Nat} {v : Int ⊕ Option Nat} (h : PL[i]? = some (some v)) : (i, vS ad v) ∈ lof ad PL := by
  refine List.mem_filterMap.mpr ⟨i, List.mem_range.mpr (List.getElem?_eq_some_iff.mp h).1, ?_⟩
  rw [h]; rfl
theorem lo_has {ad : Nat → Nat} {ls : Array Slot} {PL : List (Option (Int ⊕ Option Nat))} (h : lo ad ls PL) : lv_has ls PL.length (lof ad PL) := by
  refine ⟨h.1, h.2.1, fun q hq => ?_⟩
  obtain ⟨i, -, hi⟩ := List.mem_filterMap.mp hq
  cases hj : PL[i]? with
  | none => rw [hj] at hi; cases hi
  | some o =>
    cases o with
    | none => rw [hj] at hi; cases hi
    | some v =>
      rw [hj] at hi
      cases hi
      exact h.2.2 i v hj
theorem has_lo {ad : Nat → Nat} {ls' : Array Slot} {PL : List (Option (Int ⊕ Option Nat))} {i : Nat} {v : Int ⊕ Option Nat} (hi : i < PL.length) (h : lv_has ls' PL.length ((i, vS ad v) :: (lof ad PL).filter (fun q => !(q.1 == i) && !(q.1 + 1 == i && q.2.category == 2)))) : lo ad ls' (PL.set i (some v)) := by
  refine ⟨by rw [h.1, List.length_set], h.2.1, fun j w hj => ?_⟩
  rw [List.getElem?_set] at hj
  by_cases e : i = j
  · subst e
    rw [if_pos rfl, if_pos hi] at hj
    cases hj
    exact h.2.2 (i, vS ad v) List.mem_cons_self
  · rw [if_neg e] at hj
    refine h.2.2 (j, vS ad w) (List.mem_cons_of_mem _ (List.mem_filter.mpr ⟨lof_in hj, ?_⟩))
    simp [vS_cat, Ne.symm e]
theorem lg_vs (ad : Nat → Nat) (vs : List (Int ⊕ Option Nat)) : lg_sl (vs.map (vS ad)) = vs.map (fun v => Slot.val (vS ad v)) := by
  induction vs with
  | nil => rfl
  | cons v t ih =>
    have h : lg_sl ((v :: t).map (vS ad)) = [.val (vS ad v)] ++ lg_sl (t.map (vS ad)) := by
      simp [lg_sl, vS_cat]
    rw [h, ih]; rfl
theorem lv_args_in (ad : Nat → Nat) (vs : List (Int ⊕ Option Nat)) (i0 i : Nat) (v : Int ⊕ Option Nat) (h : vs[i]? = some v) : (i0 + i, vS ad v) ∈ lv_args i0 (vs.map (vS ad)) := by
  induction vs generalizing i0 i with
  | nil => simp at h
  | cons w t ih =>
    have e : lv_args i0 ((w :: t).map (vS ad)) = (i0, vS ad w) :: lv_args (i0 + 1) (t.map (vS ad)) := by
      simp [lv_args, vS_cat]
    rw [e]
    cases i with
    | zero => simp at h; subst h; exact List.mem_cons_self
    | succ i =>
      have := ih (i0 + 1) i (by simpa using h)
      rw [show i0 + (i + 1) = i0 + 1 + i by omega]
      exact List.mem_cons_of_mem _ this
theorem lo_entry (ad : Nat → Nat) (vs : List (Int ⊕ Option Nat)) (n : Nat) (h : vs.length ≤ n) : lo ad ((lg_sl (vs.map (vS ad)) ++ List.replicate (n - (lg_sl (vs.map (vS ad))).length) Slot.unset).toArray) (vs.map some ++ List.replicate (n - vs.length) none) := by
  have h1 := lv_entry (vs.map (vS ad)) (n := n) (by rw [lg_vs]; simpa using h)
  refine ⟨by rw [h1.1]; simp; omega, h1.2.1, fun i v hi => ?_⟩
  have hv : vs[i]? = some v := by
    rw [List.getElem?_append] at hi
    split at hi
    · rw [List.getElem?_map] at hi
      cases hq : vs[i]? with
      | none => rw [hq] at hi; cases hi
      | some w => rw [hq] at hi; cases hi; rfl
    · rw [List.getElem?_replicate] at hi
      split at hi <;> cases hi
  have h2 := lv_args_in ad vs 0 i v hv
  rw [Nat.zero_add] at h2
  exact h1.2.2 _ h2
def Cx (p : Program) (s : State) (m : MethodId) (args : Array Value) (meth : Method) (c : Code) (cc : ByteArray) (own : String) (D : va_G) (cy : ClassId × ClassId × ClassId) (A : Nat → Prop) : Prop :=
  p.tables.exec = Jvm.exec ∧ c.code = cc ∧ s.vm.findClass own = some m.cls ∧ (∀ w ∈ UW, w.before args s = true) ∧ Kx D cy s ∧ (∀ q, s.heap.size ≤ q → A q) ∧ meth.locks = false
section GX
variable {p : Program} {l : Launch} {e : Env} {R : Room} {s : State} {m : MethodId} {args : Array Value} {below : List Frame} {meth : Method} {c : Code} {H : Heap} {locs : List Loc} {cells slots : Nat} {Q : State → Prop} {cc : ByteArray} {pc : Nat} {ls : Array Slot} {rest : List Value} {D : va_G} {cy : ClassId × ClassId × ClassId} {A : Nat → Prop} {ad : Nat → Nat} {V : Vt} {S : Me} {own : String} {PL : List (Option (Int ⊕ Option Nat))}
theorem gx_iconst (C : Cx p s m args meth c cc own D cy A) {n : Int} (hdg : decode cc pc = .ok (.iconst n, 1)) (k : W p l e R s m args below meth c H locs cells slots Q (F0 m (pc + 1) ls (vI n :: rest))) : W p l e R s m args below meth c H locs cells slots Q (F0 m pc ls rest) := lv_iconst C.1 C.2.1 hdg rfl k
theorem gx_bipush (C : Cx p s m args meth c cc own D cy A) {n : Int} (hdg : decode cc pc = .ok (.bipush n, 2)) (hv : (Int8.ofInt n).toInt32 = Int32.ofInt n) (k : W p l e R s m args below meth c H locs cells slots Q (F0 m (pc + 2) ls (vI n :: rest))) : W p l e R s m args below meth c H locs cells slots Q (F0 m pc ls rest) := lv_bipush C.1 C.2.1 hdg hv k
theorem gx_sipush (C : Cx p s m args meth c cc own D cy A) {n : Int} (hdg : decode cc pc = .ok (.sipush n, 3)) (hv : (Int16.ofInt n).toInt32 = Int32.ofInt n) (k : W p l e R s m args below meth c H locs cells slots Q (F0 m (pc + 3) ls (vI n :: rest))) : W p l e R s m args below meth c H locs cells slots Q (F0 m pc ls rest) := lv_sipush C.1 C.2.1 hdg hv k
theorem gx_ldc (C : Cx p s m args meth c cc own D cy A) {n : Int} {index : Nat} (hw : Cond.constant own index (Int32.ofInt n) ∈ UW) (hdg : decode cc pc = .ok (.ldc index, 2)) (k : W p l e R s m args below meth c H locs cells slots Q (F0 m (pc + 2) ls (vI n :: rest))) : W p l e R s m args below meth c H locs cells slots Q (F0 m pc ls rest) := lv_ldc C.1 C.2.1 C.2.2.1 (C.2.2.2.1 _ hw) hdg k
theorem gx_null (C : Cx p s m args meth c cc own D cy A) (hdg : decode cc pc = .ok (.aconst_null, 1)) (k : W p l e R s m args below meth c H locs cells slots Q (F0 m (pc + 1) ls (vR ad none :: rest))) : W p l e R s m args below meth c H locs cells slots Q (F0 m pc ls rest) := lv_null C.1 C.2.1 hdg k
theorem gx_iload_n (C : Cx p s m args meth c cc own D cy A) {k : Fin 4} {x : Int} (hl : lo ad ls PL) (hdg : decode cc pc = .ok (.iload_n k, 1)) (h : PL[(k : Nat)]? = some (some (.inl x))) (kk : W p l e R s m args below meth c H locs cells slots Q (F0 m (pc + 1) ls (vI x :: rest))) : W p l e R s m args below meth c H locs cells slots Q (F0 m pc ls rest) := lv_iload_n C.1 C.2.1 hdg rfl (hl.2.2 _ _ h) kk
theorem gx_iload (C : Cx p s m args meth c cc own D cy A) {k : Nat} {x : Int} (hl : lo ad ls PL) (hdg : decode cc pc = .ok (.iload k, 2)) (h : PL[k]? = some (some (.inl x))) (kk : W p l e R s m args below meth c H locs cells slots Q (F0 m (pc + 2) ls (vI x :: rest))) : W p l e R s m args below meth c H locs cells slots Q (F0 m pc ls rest) := lv_iload C.1 C.2.1 hdg (hl.2.2 _ _ h) kk
theorem gx_aload_n (C : Cx p s m args meth c cc own D cy A) {k : Fin 4} {x : Option Nat} (hl : lo ad ls PL) (hdg : decode cc pc = .ok (.aload_n k, 1)) (h : PL[(k : Nat)]? = some (some (.inr x))) (kk : W p l e R s m args below meth c H locs cells slots Q (F0 m (pc + 1) ls (vR ad x :: rest))) : W p l e R s m args below meth c H locs cells slots Q (F0 m pc ls rest) := by
  cases x with
  | none => exact lv_aload_nN C.1 C.2.1 hdg rfl (hl.2.2 _ _ h) kk
  | some z => exact lv_aload_n C.1 C.2.1 hdg rfl (hl.2.2 _ _ h) kk
theorem gx_aload (C : Cx p s m args meth c cc own D cy A) {k : Nat} {x : Option Nat} (hl : lo ad ls PL) (hdg : decode cc pc = .ok (.aload k, 2)) (h : PL[k]? = some (some (.inr x))) (kk : W p l e R s m args below meth c H locs cells slots Q (F0 m (pc + 2) ls (vR ad x :: rest))) : W p l e R s m args below meth c H locs cells slots Q (F0 m pc ls rest) := by
  cases x with
  | none => exact lv_aloadN C.1 C.2.1 hdg (hl.2.2 _ _ h) kk
  | some z => exact lv_aload C.1 C.2.1 hdg (hl.2.2 _ _ h) kk
theorem gx_istore_n (C : Cx p s m args meth c cc own D cy A) {k : Fin 4} {x : Int} {PL' : List (Option (Int ⊕ Option Nat))} (hl : lo ad ls PL) (hdg : decode cc pc = .ok (.istore_n k, 1)) (hi : (k : Nat) < PL.length) (h : PL.set k (some (.inl x)) = PL') (kk : ∀ ls', lo ad ls' PL' → W p l e R s m args below meth c H locs cells slots Q (F0 m (pc + 1) ls' rest)) : W p l e R s m args below meth c H locs cells slots Q (F0 m pc ls (vI x :: rest)) := by
  subst h
  exact lv_istore_n C.1 C.2.1 hdg rfl (lo_has hl) hi rfl (fun ls' h' => kk ls' (has_lo (v := .inl x) hi h'))
theorem gx_istore (C : Cx p s m args meth c cc own D cy A) {k : Nat} {x : Int} {PL' : List (Option (Int ⊕ Option Nat))} (hl : lo ad ls PL) (hdg : decode cc pc = .ok (.istore k, 2)) (hi : k < PL.length) (h : PL.set k (some (.inl x)) = PL') (kk : ∀ ls', lo ad ls' PL' → W p l e R s m args below meth c H locs cells slots Q (F0 m (pc + 2) ls' rest)) : W p l e R s m args below meth c H locs cells slots Q (F0 m pc ls (vI x :: rest)) := by
  subst h
  exact lv_istore C.1 C.2.1 hdg (lo_has hl) hi rfl (fun ls' h' => kk ls' (has_lo (v := .inl x) hi h'))
theorem gx_astore_n (C : Cx p s m args meth c cc own D cy A) {k : Fin 4} {x : Option Nat} {PL' : List (Option (Int ⊕ Option Nat))} (hl : lo ad ls PL) (hdg : decode cc pc = .ok (.astore_n k, 1)) (hi : (k : Nat) < PL.length) (h : PL.set k (some (.inr x)) = PL') (kk : ∀ ls', lo ad ls' PL' → W p l e R s m args below meth c H locs cells slots Q (F0 m (pc + 1) ls' rest)) : W p l e R s m args below meth c H locs cells slots Q (F0 m pc ls (vR ad x :: rest)) := by
  subst h
  cases x with
  | none => exact lv_astore_nN C.1 C.2.1 hdg rfl (lo_has hl) hi rfl (fun ls' h' => kk ls' (has_lo (v := .inr none) hi h'))
  | some z => exact lv_astore_n C.1 C.2.1 hdg rfl (lo_has hl) hi rfl (fun ls' h' => kk ls' (has_lo (v := .inr (some z)) hi h'))
theorem gx_astore (C : Cx p s m args meth c cc own D cy A) {k : Nat} {x : Option Nat} {PL' : List (Option (Int ⊕ Option Nat))} (hl : lo ad ls PL) (hdg : decode cc pc = .ok (.astore k, 2)) (hi : k < PL.length) (h : PL.set k (some (.inr x)) = PL') (kk : ∀ ls', lo ad ls' PL' → W p l e R s m args below meth c H locs cells slots Q (F0 m (pc + 2) ls' rest)) : W p l e R s m args below meth c H locs cells slots Q (F0 m pc ls (vR ad x :: rest)) := by
  subst h
  cases x with
  | none => exact lv_astoreN C.1 C.2.1 hdg (lo_has hl) hi rfl (fun ls' h' => kk ls' (has_lo (v := .inr none) hi h'))
  | some z => exact lv_astore C.1 C.2.1 hdg (lo_has hl) hi rfl (fun ls' h' => kk ls' (has_lo (v := .inr (some z)) hi h'))
theorem gx_iinc (C : Cx p s m args meth c cc own D cy A) {k : Nat} {n x : Int} {PL' : List (Option (Int ⊕ Option Nat))} (hl : lo ad ls PL) (hdg : decode cc pc = .ok (.iinc k n, 3)) (hx : PL[k]? = some (some (.inl x))) (h : PL.set k (some (.inl (x + n))) = PL') (kk : ∀ ls', lo ad ls' PL' → W p l e R s m args below meth c H locs cells slots Q (F0 m (pc + 3) ls' rest)) : W p l e R s m args below meth c H locs cells slots Q (F0 m pc ls rest) := by
  subst h
  have hi : k < PL.length := (List.getElem?_eq_some_iff.mp hx).1
  obtain ⟨k9, hk9⟩ := List.getElem?_of_mem (lof_in (ad := ad) hx)
  exact lv_iinc C.1 C.2.1 hdg (lo_has hl) (k := k9) hk9 (Int32.ofInt_add x n).symm hi rfl (fun ls' h' => kk ls' (has_lo (v := .inl (x + n)) hi h'))
theorem gx_dupI (C : Cx p s m args meth c cc own D cy A) {x : Int} (hdg : decode cc pc = .ok (.dup, 1)) (k : W p l e R s m args below meth c H locs cells slots Q (F0 m (pc + 1) ls (vI x :: vI x :: rest))) : W p l e R s m args below meth c H locs cells slots Q (F0 m pc ls (vI x :: rest)) := lv_dup C.1 C.2.1 hdg rfl k
theorem gx_dupR (C : Cx p s m args meth c cc own D cy A) {x : Option Nat} (hdg : decode cc pc = .ok (.dup, 1)) (k : W p l e R s m args below meth c H locs cells slots Q (F0 m (pc + 1) ls (vR ad x :: vR ad x :: rest))) : W p l e R s m args below meth c H locs cells slots Q (F0 m pc ls (vR ad x :: rest)) := lv_dup C.1 C.2.1 hdg (vS_cat ad (.inr x)) k
theorem gx_popI (C : Cx p s m args meth c cc own D cy A) {x : Int} (hdg : decode cc pc = .ok (.pop, 1)) (k : W p l e R s m args below meth c H locs cells slots Q (F0 m (pc + 1) ls rest)) : W p l e R s m args below meth c H locs cells slots Q (F0 m pc ls (vI x :: rest)) := lv_pop C.1 C.2.1 hdg rfl k
theorem gx_iadd (C : Cx p s m args meth c cc own D cy A) {x y : Int} (hdg : decode cc pc = .ok (.iadd, 1)) (k : W p l e R s m args below meth c H locs cells slots Q (F0 m (pc + 1) ls (vI (x + y) :: rest))) : W p l e R s m args below meth c H locs cells slots Q (F0 m pc ls (vI y :: vI x :: rest)) := by
  unfold vI at k ⊢
  rw [Int32.ofInt_add] at k
  exact lv_iadd C.1 C.2.1 hdg k
theorem gx_isub (C : Cx p s m args meth c cc own D cy A) {x y : Int} (hdg : decode cc pc = .ok (.isub, 1)) (k : W p l e R s m args below meth c H locs cells slots Q (F0 m (pc + 1) ls (vI (x - y) :: rest))) : W p l e R s m args below meth c H locs cells slots Q (F0 m pc ls (vI y :: vI x :: rest)) := by
  unfold vI at k ⊢
  rw [Int32.ofInt_sub] at k
  exact lv_isub C.1 C.2.1 hdg k
theorem gx_imul (C : Cx p s m args meth c cc own D cy A) {x y : Int} (hdg : decode cc pc = .ok (.imul, 1)) (k : W p l e R s m args below meth c H locs cells slots Q (F0 m (pc + 1) ls (vI (x * y) :: rest))) : W p l e R s m args below meth c H locs cells slots Q (F0 m pc ls (vI y :: vI x :: rest)) := by
  unfold vI at k ⊢
  rw [Int32.ofInt_mul] at k
  exact lv_imul C.1 C.2.1 hdg k
theorem gx_idiv (C : Cx p s m args meth c cc own D cy A) {x y : Int} (rx : rng x) (ry : rng y) (h0 : y ≠ 0) (hdg : decode cc pc = .ok (.idiv, 1)) (k : W p l e R s m args below meth c H locs cells slots Q (F0 m (pc + 1) ls (vI (x.tdiv y) :: rest))) : W p l e R s m args below meth c H locs cells slots Q (F0 m pc ls (vI y :: vI x :: rest)) := by
  unfold vI at k ⊢
  rw [rg_idiv rx ry] at k
  exact lv_idiv C.1 C.2.1 hdg (fun q => h0 ((rg_eq ry (y := 0) (by decide)).mp q)) k
theorem gx_irem (C : Cx p s m args meth c cc own D cy A) {x y : Int} (rx : rng x) (ry : rng y) (h0 : y ≠ 0) (hdg : decode cc pc = .ok (.irem, 1)) (k : W p l e R s m args below meth c H locs cells slots Q (F0 m (pc + 1) ls (vI (x.tmod y) :: rest))) : W p l e R s m args below meth c H locs cells slots Q (F0 m pc ls (vI y :: vI x :: rest)) := by
  unfold vI at k ⊢
  rw [rg_irem rx ry] at k
  exact lv_irem C.1 C.2.1 hdg (fun q => h0 ((rg_eq ry (y := 0) (by decide)).mp q)) k
theorem gx_iand (C : Cx p s m args meth c cc own D cy A) {x y : Int} (hdg : decode cc pc = .ok (.iand, 1)) (k : W p l e R s m args below meth c H locs cells slots Q (F0 m (pc + 1) ls (vI (bAnd x y) :: rest))) : W p l e R s m args below meth c H locs cells slots Q (F0 m pc ls (vI y :: vI x :: rest)) := by
  unfold vI bAnd at *
  rw [Int32.ofInt_toInt] at k
  exact lv_iand C.1 C.2.1 hdg k
theorem gx_ior (C : Cx p s m args meth c cc own D cy A) {x y : Int} (hdg : decode cc pc = .ok (.ior, 1)) (k : W p l e R s m args below meth c H locs cells slots Q (F0 m (pc + 1) ls (vI (bOr x y) :: rest))) : W p l e R s m args below meth c H locs cells slots Q (F0 m pc ls (vI y :: vI x :: rest)) := by
  unfold vI bOr at *
  rw [Int32.ofInt_toInt] at k
  exact lv_ior C.1 C.2.1 hdg k
theorem gx_ixor (C : Cx p s m args meth c cc own D cy A) {x y : Int} (hdg : decode cc pc = .ok (.ixor, 1)) (k : W p l e R s m args below meth c H locs cells slots Q (F0 m (pc + 1) ls (vI (bXor x y) :: rest))) : W p l e R s m args below meth c H locs cells slots Q (F0 m pc ls (vI y :: vI x :: rest)) := by
  unfold vI bXor at *
  rw [Int32.ofInt_toInt] at k
  exact lv_ixor C.1 C.2.1 hdg k
theorem gx_ishl (C : Cx p s m args meth c cc own D cy A) {x y : Int} (hdg : decode cc pc = .ok (.ishl, 1)) (k : W p l e R s m args below meth c H locs cells slots Q (F0 m (pc + 1) ls (vI (bShl x y) :: rest))) : W p l e R s m args below meth c H locs cells slots Q (F0 m pc ls (vI y :: vI x :: rest)) := by
  unfold vI bShl at *
  rw [Int32.ofInt_toInt] at k
  exact lv_ishl C.1 C.2.1 hdg k
theorem gx_ishr (C : Cx p s m args meth c cc own D cy A) {x y : Int} (hdg : decode cc pc = .ok (.ishr, 1)) (k : W p l e R s m args below meth c H locs cells slots Q (F0 m (pc + 1) ls (vI (bShr x y) :: rest))) : W p l e R s m args below meth c H locs cells slots Q (F0 m pc ls (vI y :: vI x :: rest)) := by
  unfold vI bShr at *
  rw [Int32.ofInt_toInt] at k
  exact lv_ishr C.1 C.2.1 hdg k
theorem gx_i2l (C : Cx p s m args meth c cc own D cy A) {x : Int} (rx : rng x) (hdg : decode cc pc = .ok (.i2l, 1)) (k : W p l e R s m args below meth c H locs cells slots Q (F0 m (pc + 1) ls (vL x :: rest))) : W p l e R s m args below meth c H locs cells slots Q (F0 m pc ls (vI x :: rest)) := by
  have h : Int32.minValue.toInt = -2147483648 := by decide
  have h' : Int32.maxValue.toInt = 2147483647 := by decide
  exact lv_i2l C.1 C.2.1 hdg (Int32.toInt64_ofInt (by omega) (by omega)) k
theorem gx_lconst (C : Cx p s m args meth c cc own D cy A) {n : Fin 2} {x : Int} (hx : Int64.ofNat (n : Nat) = Int64.ofInt x) (hdg : decode cc pc = .ok (.lconst n, 1)) (k : W p l e R s m args below meth c H locs cells slots Q (F0 m (pc + 1) ls (vL x :: rest))) : W p l e R s m args below meth c H locs cells slots Q (F0 m pc ls rest) := lv_lconst C.1 C.2.1 hdg hx k
theorem gx_ldc2 (C : Cx p s m args meth c cc own D cy A) {n : Int} {index : Nat} (hw : Cond.constantLong own index (Int64.ofInt n) ∈ UW) (hdg : decode cc pc = .ok (.ldc2_w index, 3)) (k : W p l e R s m args below meth c H locs cells slots Q (F0 m (pc + 3) ls (vL n :: rest))) : W p l e R s m args below meth c H locs cells slots Q (F0 m pc ls rest) := lv_ldc2 C.1 C.2.1 C.2.2.1 (C.2.2.2.1 _ hw) hdg k
theorem gx_goto (C : Cx p s m args meth c cc own D cy A) {off : Int} {tgt : Nat} (hdg : decode cc pc = .ok (.goto off, 3)) (ht : (pc : Int) + off = (tgt : Int)) (k : W p l e R s m args below meth c H locs cells slots Q (F0 m tgt ls rest)) : W p l e R s m args below meth c H locs cells slots Q (F0 m pc ls rest) := lv_goto C.1 C.2.1 hdg ht k
theorem gx_icmp_eq (C : Cx p s m args meth c cc own D cy A) {x y : Int} (rx : rng x) (ry : rng y) {off : Int} {tgt : Nat} (hdg : decode cc pc = .ok (.if_icmp .eq off, 3)) (ht : (pc : Int) + off = (tgt : Int)) (kt : x = y → W p l e R s m args below meth c H locs cells slots Q (F0 m tgt ls rest)) (kf : ¬ x = y → W p l e R s m args below meth c H locs cells slots Q (F0 m (pc + 3) ls rest)) : W p l e R s m args below meth c H locs cells slots Q (F0 m pc ls (vI y :: vI x :: rest)) :=
  lv_icmp_eq C.1 C.2.1 hdg ht (fun h => kt ((rg_eq rx ry).mp h)) (fun h => kf (fun h2 => h ((rg_eq rx ry).mpr h2)))
theorem gx_if_eq (C : Cx p s m args meth c cc own D cy A) {x : Int} (rx : rng x) {off : Int} {tgt : Nat} (hdg : decode cc pc = .ok (.ifCond .eq off, 3)) (ht : (pc : Int) + off = (tgt : Int)) (kt : x = 0 → W p l e R s m args below meth c H locs cells slots Q (F0 m tgt ls rest)) (kf : ¬ x = 0 → W p l e R s m args below meth c H locs cells slots Q (F0 m (pc + 3) ls rest)) : W p l e R s m args below meth c H locs cells slots Q (F0 m pc ls (vI x :: rest)) :=
  lv_if_eq C.1 C.2.1 hdg ht (fun h => kt ((rg_eq rx (show rng 0 by decide)).mp h)) (fun h => kf (fun h2 => h ((rg_eq rx (show rng 0 by decide)).mpr h2)))
theorem gx_icmp_ne (C : Cx p s m args meth c cc own D cy A) {x y : Int} (rx : rng x) (ry : rng y) {off : Int} {tgt : Nat} (hdg : decode cc pc = .ok (.if_icmp .ne off, 3)) (ht : (pc : Int) + off = (tgt : Int)) (kt : ¬ x = y → W p l e R s m args below meth c H locs cells slots Q (F0 m tgt ls rest)) (kf : x = y → W p l e R s m args below meth c H locs cells slots Q (F0 m (pc + 3) ls rest)) : W p l e R s m args below meth c H locs cells slots Q (F0 m pc ls (vI y :: vI x :: rest)) :=
  lv_icmp_ne C.1 C.2.1 hdg ht (fun h => kt (fun h2 => h ((rg_eq rx ry).mpr h2))) (fun h => kf ((rg_eq rx ry).mp h))
theorem gx_if_ne (C : Cx p s m args meth c cc own D cy A) {x : Int} (rx : rng x) {off : Int} {tgt : Nat} (hdg : decode cc pc = .ok (.ifCond .ne off, 3)) (ht : (pc : Int) + off = (tgt : Int)) (kt : ¬ x = 0 → W p l e R s m args below meth c H locs cells slots Q (F0 m tgt ls rest)) (kf : x = 0 → W p l e R s m args below meth c H locs cells slots Q (F0 m (pc + 3) ls rest)) : W p l e R s m args below meth c H locs cells slots Q (F0 m pc ls (vI x :: rest)) :=
  lv_if_ne C.1 C.2.1 hdg ht (fun h => kt (fun h2 => h ((rg_eq rx (show rng 0 by decide)).mpr h2))) (fun h => kf ((rg_eq rx (show rng 0 by decide)).mp h))
theorem gx_icmp_lt (C : Cx p s m args meth c cc own D cy A) {x y : Int} (rx : rng x) (ry : rng y) {off : Int} {tgt : Nat} (hdg : decode cc pc = .ok (.if_icmp .lt off, 3)) (ht : (pc : Int) + off = (tgt : Int)) (kt : x < y → W p l e R s m args below meth c H locs cells slots Q (F0 m tgt ls rest)) (kf : ¬ x < y → W p l e R s m args below meth c H locs cells slots Q (F0 m (pc + 3) ls rest)) : W p l e R s m args below meth c H locs cells slots Q (F0 m pc ls (vI y :: vI x :: rest)) :=
  lv_icmp_lt C.1 C.2.1 hdg ht (fun h => kt ((rg_lt rx ry).mp h)) (fun h => kf (fun h2 => h ((rg_lt rx ry).mpr h2)))
theorem gx_if_lt (C : Cx p s m args meth c cc own D cy A) {x : Int} (rx : rng x) {off : Int} {tgt : Nat} (hdg : decode cc pc = .ok (.ifCond .lt off, 3)) (ht : (pc : Int) + off = (tgt : Int)) (kt : x < 0 → W p l e R s m args below meth c H locs cells slots Q (F0 m tgt ls rest)) (kf : ¬ x < 0 → W p l e R s m args below meth c H locs cells slots Q (F0 m (pc + 3) ls rest)) : W p l e R s m args below meth c H locs cells slots Q (F0 m pc ls (vI x :: rest)) :=
  lv_if_lt C.1 C.2.1 hdg ht (fun h => kt ((rg_lt rx (show rng 0 by decide)).mp h)) (fun h => kf (fun h2 => h ((rg_lt rx (show rng 0 by decide)).mpr h2)))
theorem gx_icmp_ge (C : Cx p s m args meth c cc own D cy A) {x y : Int} (rx : rng x) (ry : rng y) {off : Int} {tgt : Nat} (hdg : decode cc pc = .ok (.if_icmp .ge off, 3)) (ht : (pc : Int) + off = (tgt : Int)) (kt : y ≤ x → W p l e R s m args below meth c H locs cells slots Q (F0 m tgt ls rest)) (kf : ¬ y ≤ x → W p l e R s m args below meth c H locs cells slots Q (F0 m (pc + 3) ls rest)) : W p l e R s m args below meth c H locs cells slots Q (F0 m pc ls (vI y :: vI x :: rest)) :=
  lv_icmp_ge C.1 C.2.1 hdg ht (fun h => kt ((rg_le ry rx).mp h)) (fun h => kf (fun h2 => h ((rg_le ry rx).mpr h2)))
theorem gx_if_ge (C : Cx p s m args meth c cc own D cy A) {x : Int} (rx : rng x) {off : Int} {tgt : Nat} (hdg : decode cc pc = .ok (.ifCond .ge off, 3)) (ht : (pc : Int) + off = (tgt : Int)) (kt : 0 ≤ x → W p l e R s m args below meth c H locs cells slots Q (F0 m tgt ls rest)) (kf : ¬ 0 ≤ x → W p l e R s m args below meth c H locs cells slots Q (F0 m (pc + 3) ls rest)) : W p l e R s m args below meth c H locs cells slots Q (F0 m pc ls (vI x :: rest)) :=
  lv_if_ge C.1 C.2.1 hdg ht (fun h => kt ((rg_le (show rng 0 by decide) rx).mp h)) (fun h => kf (fun h2 => h ((rg_le (show rng 0 by decide) rx).mpr h2)))
theorem gx_icmp_gt (C : Cx p s m args meth c cc own D cy A) {x y : Int} (rx : rng x) (ry : rng y) {off : Int} {tgt : Nat} (hdg : decode cc pc = .ok (.if_icmp .gt off, 3)) (ht : (pc : Int) + off = (tgt : Int)) (kt : y < x → W p l e R s m args below meth c H locs cells slots Q (F0 m tgt ls rest)) (kf : ¬ y < x → W p l e R s m args below meth c H locs cells slots Q (F0 m (pc + 3) ls rest)) : W p l e R s m args below meth c H locs cells slots Q (F0 m pc ls (vI y :: vI x :: rest)) :=
  lv_icmp_gt C.1 C.2.1 hdg ht (fun h => kt ((rg_lt ry rx).mp h)) (fun h => kf (fun h2 => h ((rg_lt ry rx).mpr h2)))
theorem gx_if_gt (C : Cx p s m args meth c cc own D cy A) {x : Int} (rx : rng x) {off : Int} {tgt : Nat} (hdg : decode cc pc = .ok (.ifCond .gt off, 3)) (ht : (pc : Int) + off = (tgt : Int)) (kt : 0 < x → W p l e R s m args below meth c H locs cells slots Q (F0 m tgt ls rest)) (kf : ¬ 0 < x → W p l e R s m args below meth c H locs cells slots Q (F0 m (pc + 3) ls rest)) : W p l e R s m args below meth c H locs cells slots Q (F0 m pc ls (vI x :: rest)) :=
  lv_if_gt C.1 C.2.1 hdg ht (fun h => kt ((rg_lt (show rng 0 by decide) rx).mp h)) (fun h => kf (fun h2 => h ((rg_lt (show rng 0 by decide) rx).mpr h2)))
theorem gx_icmp_le (C : Cx p s m args meth c cc own D cy A) {x y : Int} (rx : rng x) (ry : rng y) {off : Int} {tgt : Nat} (hdg : decode cc pc = .ok (.if_icmp .le off, 3)) (ht : (pc : Int) + off = (tgt : Int)) (kt : x ≤ y → W p l e R s m args below meth c H locs cells slots Q (F0 m tgt ls rest)) (kf : ¬ x ≤ y → W p l e R s m args below meth c H locs cells slots Q (F0 m (pc + 3) ls rest)) : W p l e R s m args below meth c H locs cells slots Q (F0 m pc ls (vI y :: vI x :: rest)) :=
  lv_icmp_le C.1 C.2.1 hdg ht (fun h => kt ((rg_le rx ry).mp h)) (fun h => kf (fun h2 => h ((rg_le rx ry).mpr h2)))
theorem gx_if_le (C : Cx p s m args meth c cc own D cy A) {x : Int} (rx : rng x) {off : Int} {tgt : Nat} (hdg : decode cc pc = .ok (.ifCond .le off, 3)) (ht : (pc : Int) + off = (tgt : Int)) (kt : x ≤ 0 → W p l e R s m args below meth c H locs cells slots Q (F0 m tgt ls rest)) (kf : ¬ x ≤ 0 → W p l e R s m args below meth c H locs cells slots Q (F0 m (pc + 3) ls rest)) : W p l e R s m args below meth c H locs cells slots Q (F0 m pc ls (vI x :: rest)) :=
  lv_if_le C.1 C.2.1 hdg ht (fun h => kt ((rg_le rx (show rng 0 by decide)).mp h)) (fun h => kf (fun h2 => h ((rg_le rx (show rng 0 by decide)).mpr h2)))
theorem gx_ifnull (C : Cx p s m args meth c cc own D cy A) {r : Option Nat} {off : Int} {tgt : Nat} (hdg : decode cc pc = .ok (.ifnull off, 3)) (ht : (pc : Int) + off = (tgt : Int)) (kt : r = none → W p l e R s m args below meth c H locs cells slots Q (F0 m tgt ls rest)) (kf : ¬ r = none → W p l e R s m args below meth c H locs cells slots Q (F0 m (pc + 3) ls rest)) : W p l e R s m args below meth c H locs cells slots Q (F0 m pc ls (vR ad r :: rest)) := by
  cases r with
  | none => exact lv_ifnullN C.1 C.2.1 hdg ht (kt rfl)
  | some z => exact lv_ifnull C.1 C.2.1 hdg (kf (by intro h; cases h))
theorem gx_ifnonnull (C : Cx p s m args meth c cc own D cy A) {r : Option Nat} {off : Int} {tgt : Nat} (hdg : decode cc pc = .ok (.ifnonnull off, 3)) (ht : (pc : Int) + off = (tgt : Int)) (kt : ¬ r = none → W p l e R s m args below meth c H locs cells slots Q (F0 m tgt ls rest)) (kf : r = none → W p l e R s m args below meth c H locs cells slots Q (F0 m (pc + 3) ls rest)) : W p l e R s m args below meth c H locs cells slots Q (F0 m pc ls (vR ad r :: rest)) := by
  cases r with
  | none => exact lv_ifnonnullN C.1 C.2.1 hdg (kf rfl)
  | some z => exact lv_ifnonnull C.1 C.2.1 hdg ht (kt (by intro h; cases h))
theorem ad_eq {r r' : Option Nat} (hi : ∀ i j, i < V.1 → j < V.1 → ad i = ad j → i = j) (hr : ∀ z, r = some z → z < V.1) (hr' : ∀ z, r' = some z → z < V.1) : r.map ad = r'.map ad ↔ r = r' := by
  refine ⟨fun h => ?_, fun h => by rw [h]⟩
  cases r with
  | none => cases r' with
    | none => rfl
    | some z => cases h
  | some z => cases r' with
    | none => cases h
    | some z' => rw [hi z z' (hr _ rfl) (hr' _ rfl) (Option.some.inj h)]
theorem gx_acmp_eq (C : Cx p s m args meth c cc own D cy A) (G : Gy D cy A s.heap ad V S H locs) {rx ry : Option Nat} (hrx : ∀ z, rx = some z → z < V.1) (hry : ∀ z, ry = some z → z < V.1) {off : Int} {tgt : Nat} (hdg : decode cc pc = .ok (.if_acmp .eq off, 3)) (ht : (pc : Int) + off = (tgt : Int)) (kt : rx = ry → W p l e R s m args below meth c H locs cells slots Q (F0 m tgt ls rest)) (kf : ¬ rx = ry → W p l e R s m args below meth c H locs cells slots Q (F0 m (pc + 3) ls rest)) : W p l e R s m args below meth c H locs cells slots Q (F0 m pc ls (vR ad ry :: vR ad rx :: rest)) :=
  lv_acmp_eq C.1 C.2.1 hdg ht (fun h => kt ((ad_eq G.1.2.1 hrx hry).mp h)) (fun h => kf (fun h2 => h ((ad_eq G.1.2.1 hrx hry).mpr h2)))
theorem gx_acmp_ne (C : Cx p s m args meth c cc own D cy A) (G : Gy D cy A s.heap ad V S H locs) {rx ry : Option Nat} (hrx : ∀ z, rx = some z → z < V.1) (hry : ∀ z, ry = some z → z < V.1) {off : Int} {tgt : Nat} (hdg : decode cc pc = .ok (.if_acmp .ne off, 3)) (ht : (pc : Int) + off = (tgt : Int)) (kt : ¬ rx = ry → W p l e R s m args below meth c H locs cells slots Q (F0 m tgt ls rest)) (kf : rx = ry → W p l e R s m args below meth c H locs cells slots Q (F0 m (pc + 3) ls rest)) : W p l e R s m args below meth c H locs cells slots Q (F0 m pc ls (vR ad ry :: vR ad rx :: rest)) :=
  lv_acmp_ne C.1 C.2.1 hdg ht (fun h => kt (fun h2 => h ((ad_eq G.1.2.1 hrx hry).mpr h2))) (fun h => kf ((ad_eq G.1.2.1 hrx hry).mp h))
theorem gx_tableIn (C : Cx p s m args meth c cc own D cy A) {dflt lo hi : Int} {offs : Array Int} {len : Nat} {x : Int} (rx : rng x) {off : Int} {tgt : Nat} (hdg : decode cc pc = .ok (.tableswitch dflt lo hi offs, len)) (n : Int) (hx : x = n) (h1 : lo ≤ n) (h2 : n ≤ hi) (ho : offs[(n - lo).toNat]? = some off) (ht : (pc : Int) + off = (tgt : Int)) (k : W p l e R s m args below meth c H locs cells slots Q (F0 m tgt ls rest)) : W p l e R s m args below meth c H locs cells slots Q (F0 m pc ls (vI x :: rest)) := by
  subst hx
  exact lv_tableIn C.1 C.2.1 hdg (by rw [rg_t rx]; omega) (by rw [rg_t rx]; omega) (by rw [rg_t rx]; exact ho) ht k
theorem gx_tableOut (C : Cx p s m args meth c cc own D cy A) {dflt lo hi : Int} {offs : Array Int} {len : Nat} {x : Int} (rx : rng x) {tgt : Nat} (hdg : decode cc pc = .ok (.tableswitch dflt lo hi offs, len)) (h : x < lo ∨ hi < x) (ht : (pc : Int) + dflt = (tgt : Int)) (k : W p l e R s m args below meth c H locs cells slots Q (F0 m tgt ls rest)) : W p l e R s m args below meth c H locs cells slots Q (F0 m pc ls (vI x :: rest)) :=
  lv_tableOut C.1 C.2.1 hdg (by rw [rg_t rx]; exact h) ht k
theorem gx_lookup (C : Cx p s m args meth c cc own D cy A) {dflt : Int} {ps : Array (Int × Int)} {len : Nat} {x : Int} (rx : rng x) {off : Int} {tgt : Nat} (hdg : decode cc pc = .ok (.lookupswitch dflt ps, len)) (hp : (ps.toList.zip (ps.toList.drop 1)).all (fun (a, next) => a.1 < next.1) = true) (ho : Op.lookupswitch.offset ps.toList dflt x = off) (ht : (pc : Int) + off = (tgt : Int)) (k : W p l e R s m args below meth c H locs cells slots Q (F0 m tgt ls rest)) : W p l e R s m args below meth c H locs cells slots Q (F0 m pc ls (vI x :: rest)) :=
  lv_lookup C.1 C.2.1 hdg hp (by rw [rg_t rx]; exact ho) ht k
end GX
end
section
/-! ===== rows that read and write the memory; calls; a method's entry and end ===== -/
section GM
variable {p : Program} {l : Launch} {e : Env} {R : Room} {s : State} {m : MethodId} {args : Array Value} {below : List Frame} {meth : Method} {c : Code} {H : Heap} {locs : List Loc} {cells slots : Nat} {Q : State → Prop} {cc : ByteArray} {pc : Nat} {ls : Array Slot} {rest : List Value} {D : va_G} {cy : ClassId × ClassId × ClassId} {A : Nat → Prop} {ad : Nat → Nat} {V : Vt} {S : Me} {own : String} {PL : List (Option (Int ⊕ Option Nat))}
theorem wo_o {z : Nat} (hzl : z < V.1) (ht : V.2.1 z < 12) : (wo cy ad V S)[z]? = some (ad z, .inr (V.2.1 z, (fl (V.2.1 z)).map (fv ad (S.1 z) (S.2 z) (V.2.2.2 z)))) := by rw [wo_at hzl, cf_o ht]
theorem gx_getv (C : Cx p s m args meth c cc own D cy A) (G : Gy D cy A s.heap ad V S H locs) {r : Option Nat} {z : Nat} (hz : r = some z) (hzl : z < V.1) {kd j : Nat} {dcl nm ds : String} {fin : Bool} {ty : FieldType} (hF : ∃ k, FO (V.2.1 z) k kd j dcl nm ds fin ty) {ref : String} {index : Nat} (hl : Cond.fieldLink own index ref nm ds ∈ UW) (hsame : ∀ x, s.fieldFound? dcl nm ds = some x → s.fieldFound? ref nm ds = some x) (hdg : decode cc pc = .ok (.getfield index, 3)) {v : Value} (hv : fv ad (S.1 z) (S.2 z) (V.2.2.2 z) (kd, j) = v) (kk : W p l e R s m args below meth c H locs cells slots Q (F0 m (pc + 3) ls (v :: rest))) : W p l e R s m args below meth c H locs cells slots Q (F0 m pc ls (vR ad r :: rest)) := by
  subst hz
  obtain ⟨k, Cn, T, N, ty0, hc, hu, hty, hnm, hk, hT, hpd, ht, hfl⟩ := hF
  exact va_get (Ts := UW) C.1 C.2.1 C.2.2.2.1 hu C.2.2.1 C.2.2.2.2.1.1 G.1.1 z (wo_o hzl ht) hc k hk (by rw [hT]; exact C.2.2.2.1 _ hl) (by rw [hT]; exact hsame) (by rw [List.getElem?_map, hfl]; exact congrArg some hv) hdg kk
theorem gx_getI (C : Cx p s m args meth c cc own D cy A) (G : Gy D cy A s.heap ad V S H locs) {r : Option Nat} {z : Nat} (hz : r = some z) (hzl : z < V.1) {j : Nat} {dcl nm ds : String} {fin : Bool} {ty : FieldType} (hF : ∃ k, FO (V.2.1 z) k 0 j dcl nm ds fin ty) {ref : String} {index : Nat} (hl : Cond.fieldLink own index ref nm ds ∈ UW) (hsame : ∀ x, s.fieldFound? dcl nm ds = some x → s.fieldFound? ref nm ds = some x) (hdg : decode cc pc = .ok (.getfield index, 3)) (kk : W p l e R s m args below meth c H locs cells slots Q (F0 m (pc + 3) ls (vI (S.1 z j) :: rest))) : W p l e R s m args below meth c H locs cells slots Q (F0 m pc ls (vR ad r :: rest)) := gx_getv C G hz hzl hF hl hsame hdg rfl kk
theorem gx_getZ (C : Cx p s m args meth c cc own D cy A) (G : Gy D cy A s.heap ad V S H locs) {r : Option Nat} {z : Nat} (hz : r = some z) (hzl : z < V.1) {j : Nat} {dcl nm ds : String} {fin : Bool} {ty : FieldType} (hF : ∃ k, FO (V.2.1 z) k 3 j dcl nm ds fin ty) {ref : String} {index : Nat} (hl : Cond.fieldLink own index ref nm ds ∈ UW) (hsame : ∀ x, s.fieldFound? dcl nm ds = some x → s.fieldFound? ref nm ds = some x) (hdg : decode cc pc = .ok (.getfield index, 3)) (kk : W p l e R s m args below meth c H locs cells slots Q (F0 m (pc + 3) ls (vI (S.1 z j) :: rest))) : W p l e R s m args below meth c H locs cells slots Q (F0 m pc ls (vR ad r :: rest)) := gx_getv C G hz hzl hF hl hsame hdg rfl kk
theorem gx_getP (C : Cx p s m args meth c cc own D cy A) (G : Gy D cy A s.heap ad V S H locs) {r : Option Nat} {z : Nat} (hz : r = some z) (hzl : z < V.1) {j : Nat} {dcl nm ds : String} {fin : Bool} {ty : FieldType} (hF : ∃ k, FO (V.2.1 z) k 1 j dcl nm ds fin ty) {ref : String} {index : Nat} (hl : Cond.fieldLink own index ref nm ds ∈ UW) (hsame : ∀ x, s.fieldFound? dcl nm ds = some x → s.fieldFound? ref nm ds = some x) (hdg : decode cc pc = .ok (.getfield index, 3)) (kk : W p l e R s m args below meth c H locs cells slots Q (F0 m (pc + 3) ls (vR ad (S.2 z j) :: rest))) : W p l e R s m args below meth c H locs cells slots Q (F0 m pc ls (vR ad r :: rest)) := gx_getv C G hz hzl hF hl hsame hdg rfl kk
theorem gx_getF (C : Cx p s m args meth c cc own D cy A) (G : Gy D cy A s.heap ad V S H locs) {r : Option Nat} {z w : Nat} (hz : r = some z) (hzl : z < V.1) {j : Nat} {dcl nm ds : String} {fin : Bool} {ty : FieldType} (hF : ∃ k, FO (V.2.1 z) k 2 j dcl nm ds fin ty) (hw : V.2.2.2 z j = some w) {ref : String} {index : Nat} (hl : Cond.fieldLink own index ref nm ds ∈ UW) (hsame : ∀ x, s.fieldFound? dcl nm ds = some x → s.fieldFound? ref nm ds = some x) (hdg : decode cc pc = .ok (.getfield index, 3)) (kk : W p l e R s m args below meth c H locs cells slots Q (F0 m (pc + 3) ls (vR ad (some w) :: rest))) : W p l e R s m args below meth c H locs cells slots Q (F0 m pc ls (vR ad r :: rest)) := gx_getv C G hz hzl hF hl hsame hdg (by rw [← hw]; rfl) kk
theorem Gx_sI {S : Me} {z j : Nat} {x : Int} (rx : rng x) {H1 : Heap} (hP : va_P D vwCl (wo cy ad V (sI S z j x)) H1) (G : Gx D cy ad V S H) : Gx D cy ad V (sI S z j x) H1 := by
  refine ⟨hP, G.2.1, fun a k => ?_, G.2.2.2.1, G.2.2.2.2.1, G.2.2.2.2.2⟩
  rw [sI_1]
  split
  · exact rx
  · exact G.2.2.1 a k
theorem Gx_sP {S : Me} {z j : Nat} {r : Option Nat} (hr : ∀ w, r = some w → w < V.1) {H1 : Heap} (hP : va_P D vwCl (wo cy ad V (sP S z j r)) H1) (G : Gx D cy ad V S H) : Gx D cy ad V (sP S z j r) H1 := by
  refine ⟨hP, G.2.1, G.2.2.1, fun a k w hw => ?_, G.2.2.2.2.1, G.2.2.2.2.2⟩
  rw [sP_2] at hw
  split at hw
  · exact hr w hw
  · exact G.2.2.2.1 a k w hw
theorem wo_sI {z j : Nat} {x : Int} {e9 : va_E} (hzl : z < V.1) (he : cf cy ad (V.2.1 z) (V.2.2.1 z) (fun j' => if j' = j then x else S.1 z j') (S.2 z) (V.2.2.2 z) = e9) : (wo cy ad V S).set z (ad z, e9) = wo cy ad V (sI S z j x) := by
  refine wo_set hzl (fun b hb => ?_) (fun b _ => rfl) ?_
  · funext k
    rw [sI_1, if_neg (fun h => hb h.1)]
  · rw [← he]
    congr 1
    funext k
    rw [sI_1]
    simp
theorem wo_sP {z j : Nat} {r : Option Nat} {e9 : va_E} (hzl : z < V.1) (he : cf cy ad (V.2.1 z) (V.2.2.1 z) (S.1 z) (fun j' => if j' = j then r else S.2 z j') (V.2.2.2 z) = e9) : (wo cy ad V S).set z (ad z, e9) = wo cy ad V (sP S z j r) := by
  refine wo_set hzl (fun b _ => rfl) (fun b hb => ?_) ?_
  · funext k
    rw [sP_2, if_neg (fun h => hb h.1)]
  · rw [← he]
    congr 1
    funext k
    rw [sP_2]
    simp
theorem gx_putv (C : Cx p s m args meth c cc own D cy A) (G : Gy D cy A s.heap ad V S H locs) {r : Option Nat} {z : Nat} (hz : r = some z) (hzl : z < V.1) {kd j : Nat} {dcl nm ds : String} {ty : FieldType} (hF : ∃ k, FO (V.2.1 z) k kd j dcl nm ds false ty) {v : Value} (hn : narrow ty v = v) (hft : fits ty v = true) {ref : String} {index : Nat} (hl : Cond.fieldLink own index ref nm ds ∈ UW) (hsame : ∀ x, s.fieldFound? dcl nm ds = some x → s.fieldFound? ref nm ds = some x) (hdg : decode cc pc = .ok (.putfield index, 3))
    {S' : Me} (hset : ∀ k, V.2.1 z < 12 → (fl (V.2.1 z))[k]? = some (kd, j) → (wo cy ad V S).set z (ad z, .inr (V.2.1 z, ((fl (V.2.1 z)).map (fv ad (S.1 z) (S.2 z) (V.2.2.2 z))).set k v)) = wo cy ad V S') (hG : ∀ H1, va_P D vwCl (wo cy ad V S') H1 → Gx D cy ad V S' H1)
    (kk : ∀ (H1 : Heap) (locs1 : List Loc), Gy D cy A s.heap ad V S' H1 locs1 → W p l e R s m args below meth c H1 locs1 cells slots Q (F0 m (pc + 3) ls rest)) : W p l e R s m args below meth c H locs cells slots Q (F0 m pc ls (v :: vR ad r :: rest)) := by
  subst hz
  obtain ⟨k, Cn, T, N, ty0, hc, hu, hty, hnm, hk, hT, hpd, ht, hfl⟩ := hF
  refine va_put (Ts := UW) C.1 C.2.1 C.2.2.2.1 hu ty0 hty hnm C.2.2.1 C.2.2.2.2.1.1 G.1.1 G.D G.2.2 z (wo_o hzl ht) hc k hk (by rw [hT]; exact C.2.2.2.1 _ hl) (by rw [hT]; exact hsame) (by rw [hT]) (by rw [hT]; exact hpd) hn hft (by rw [List.length_map]; exact (List.getElem?_eq_some_iff.mp hfl).1) hdg (fun H1 locs1 hP _ hS => ?_)
  rw [hset k ht hfl] at hP
  exact kk H1 locs1 ⟨hG H1 hP, G.2.1, hS⟩
theorem gx_putI (C : Cx p s m args meth c cc own D cy A) (G : Gy D cy A s.heap ad V S H locs) {r : Option Nat} {z : Nat} (hz : r = some z) (hzl : z < V.1) {j : Nat} {dcl nm ds : String} (hF : ∃ k, FO (V.2.1 z) k 0 j dcl nm ds false .int) {x : Int} (rx : rng x) {ref : String} {index : Nat} (hl : Cond.fieldLink own index ref nm ds ∈ UW) (hsame : ∀ x, s.fieldFound? dcl nm ds = some x → s.fieldFound? ref nm ds = some x) (hdg : decode cc pc = .ok (.putfield index, 3))
    (kk : ∀ (H1 : Heap) (locs1 : List Loc), Gy D cy A s.heap ad V (sI S z j x) H1 locs1 → W p l e R s m args below meth c H1 locs1 cells slots Q (F0 m (pc + 3) ls rest)) : W p l e R s m args below meth c H locs cells slots Q (F0 m pc ls (vI x :: vR ad r :: rest)) := by
  refine gx_putv C G hz hzl hF rfl rfl hl hsame hdg (fun k ht hfl => wo_sI hzl ?_) (fun H1 hP => Gx_sI rx hP G.1) kk
  rw [cf_o ht, fl_set (i' := fun j' => if j' = j then x else S.1 z j') (p' := S.2 z) hfl (by simp [fv]) (fun j' h => if_neg h) (fun _ _ => rfl)]
theorem gx_putZ (C : Cx p s m args meth c cc own D cy A) (G : Gy D cy A s.heap ad V S H locs) {r : Option Nat} {z : Nat} (hz : r = some z) (hzl : z < V.1) {j : Nat} {dcl nm ds : String} (hF : ∃ k, FO (V.2.1 z) k 3 j dcl nm ds false .boolean) {x : Int} (hx : x = 0 ∨ x = 1) {ref : String} {index : Nat} (hl : Cond.fieldLink own index ref nm ds ∈ UW) (hsame : ∀ x, s.fieldFound? dcl nm ds = some x → s.fieldFound? ref nm ds = some x) (hdg : decode cc pc = .ok (.putfield index, 3))
    (kk : ∀ (H1 : Heap) (locs1 : List Loc), Gy D cy A s.heap ad V (sI S z j x) H1 locs1 → W p l e R s m args below meth c H1 locs1 cells slots Q (F0 m (pc + 3) ls rest)) : W p l e R s m args below meth c H locs cells slots Q (F0 m pc ls (vI x :: vR ad r :: rest)) := by
  refine gx_putv C G hz hzl hF (by rcases hx with rfl | rfl <;> rfl) (by rcases hx with rfl | rfl <;> rfl) hl hsame hdg (fun k ht hfl => wo_sI hzl ?_) (fun H1 hP => Gx_sI (by rcases hx with rfl | rfl <;> decide) hP G.1) kk
  rw [cf_o ht, fl_set (i' := fun j' => if j' = j then x else S.1 z j') (p' := S.2 z) hfl (by simp [fv]) (fun j' h => if_neg h) (fun _ _ => rfl)]
theorem gx_putP (C : Cx p s m args meth c cc own D cy A) (G : Gy D cy A s.heap ad V S H locs) {r : Option Nat} {z : Nat} (hz : r = some z) (hzl : z < V.1) {j : Nat} {dcl nm ds : String} {ty : FieldType} (hF : ∃ k, FO (V.2.1 z) k 1 j dcl nm ds false ty) (hty : (∃ n, ty = .object n) ∨ ∃ t, ty = .array t) {x : Option Nat} (hx : ∀ w, x = some w → w < V.1) {ref : String} {index : Nat} (hl : Cond.fieldLink own index ref nm ds ∈ UW) (hsame : ∀ x, s.fieldFound? dcl nm ds = some x → s.fieldFound? ref nm ds = some x) (hdg : decode cc pc = .ok (.putfield index, 3))
    (kk : ∀ (H1 : Heap) (locs1 : List Loc), Gy D cy A s.heap ad V (sP S z j x) H1 locs1 → W p l e R s m args below meth c H1 locs1 cells slots Q (F0 m (pc + 3) ls rest)) : W p l e R s m args below meth c H locs cells slots Q (F0 m pc ls (vR ad x :: vR ad r :: rest)) := by
  refine gx_putv C G hz hzl hF (by rcases hty with ⟨n, rfl⟩ | ⟨t, rfl⟩ <;> cases x <;> rfl) (by rcases hty with ⟨n, rfl⟩ | ⟨t, rfl⟩ <;> cases x <;> rfl) hl hsame hdg (fun k ht hfl => wo_sP hzl ?_) (fun H1 hP => Gx_sP hx hP G.1) kk
  rw [cf_o ht, fl_set (i' := S.1 z) (p' := fun j' => if j' = j then x else S.2 z j') hfl (by simp [fv]) (fun _ _ => rfl) (fun j' h => if_neg h)]
theorem wo_i {z : Nat} (hzl : z < V.1) (ht : V.2.1 z = 12) : (wo cy ad V S)[z]? = some (ad z, .inl (cy.1, V.2.2.1 z, .inl (fun j => Int32.ofInt (S.1 z j)))) := by rw [wo_at hzl, cf_i ht]
theorem gx_iald (C : Cx p s m args meth c cc own D cy A) (G : Gy D cy A s.heap ad V S H locs) {r : Option Nat} {z : Nat} (hz : r = some z) (hzl : z < V.1) (ht : V.2.1 z = 12) {i : Int} (ri : rng i) (h0 : 0 ≤ i) (h1 : i < (V.2.2.1 z : Int)) (hdg : decode cc pc = .ok (.iaload, 1)) (kk : W p l e R s m args below meth c H locs cells slots Q (F0 m (pc + 1) ls (vI (S.1 z i.toNat) :: rest))) : W p l e R s m args below meth c H locs cells slots Q (F0 m pc ls (vI i :: vR ad r :: rest)) := by
  subst hz
  exact va_iald C.1 C.2.1 C.2.2.2.2.1.1 G.1.1 z 0 (wo_i hzl ht) rfl (rg_in ri h0 h1) hdg (by rw [rg_cl ri]; exact kk)
theorem gx_iast (C : Cx p s m args meth c cc own D cy A) (G : Gy D cy A s.heap ad V S H locs) {r : Option Nat} {z : Nat} (hz : r = some z) (hzl : z < V.1) (ht : V.2.1 z = 12) {i x : Int} (ri : rng i) (rx : rng x) (h0 : 0 ≤ i) (h1 : i < (V.2.2.1 z : Int)) (hdg : decode cc pc = .ok (.iastore, 1)) (kk : ∀ (H1 : Heap) (locs1 : List Loc), Gy D cy A s.heap ad V (sI S z i.toNat x) H1 locs1 → W p l e R s m args below meth c H1 locs1 cells slots Q (F0 m (pc + 1) ls rest)) : W p l e R s m args below meth c H locs cells slots Q (F0 m pc ls (vI x :: vI i :: vR ad r :: rest)) := by
  subst hz
  refine va_iast C.1 C.2.1 C.2.2.2.2.1.1 G.1.1 G.D G.2.2 z 0 (wo_i hzl ht) rfl (rg_in ri h0 h1) hdg (fun H1 locs1 hP _ hS => ?_)
  rw [rg_cl ri, wo_sI (j := i.toNat) (x := x) hzl (by
    rw [cf_i ht]
    congr 3
    refine congrArg Sum.inl (funext fun j => ?_)
    by_cases hj : j = i.toNat
    · subst hj; simp [upd]
    · simp [upd, hj])] at hP
  exact kk H1 locs1 ⟨Gx_sI rx hP G.1, G.2.1, hS⟩
theorem gx_alen (C : Cx p s m args meth c cc own D cy A) (G : Gy D cy A s.heap ad V S H locs) {r : Option Nat} {z : Nat} (hz : r = some z) (hzl : z < V.1) (ht : V.2.1 z = 12) (hdg : decode cc pc = .ok (.arraylength, 1)) (kk : W p l e R s m args below meth c H locs cells slots Q (F0 m (pc + 1) ls (vI (V.2.2.1 z : Int) :: rest))) : W p l e R s m args below meth c H locs cells slots Q (F0 m pc ls (vR ad r :: rest)) := by
  subst hz
  exact va_alen C.1 C.2.1 C.2.2.2.2.1.1 G.1.1 z 0 (wo_i hzl ht) rfl rfl hdg kk
/-- a reference array's type: of Asks (13) or of Shelves (14) -/
theorem wo_r {z : Nat} (hzl : z < V.1) (ht : V.2.1 z = 13 ∨ V.2.1 z = 14) : ∃ (t0 : Nat) (cA : ClassId) (E : String), (wo cy ad V S)[z]? = some (ad z, .inl (cA, V.2.2.1 z, .inr (.inr (.inr (.inr (fun j => (S.2 z j).map ad)))))) ∧ (tyl cy)[t0]? = some (cA, .object E) := by
  rcases ht with h | h
  · exact ⟨1, cy.2.1, _, by rw [wo_at hzl, cf_a h], rfl⟩
  · exact ⟨2, cy.2.2, _, by rw [wo_at hzl, cf_s h], rfl⟩
theorem gx_aald (C : Cx p s m args meth c cc own D cy A) (G : Gy D cy A s.heap ad V S H locs) {r : Option Nat} {z : Nat} (hz : r = some z) (hzl : z < V.1) (ht : V.2.1 z = 13 ∨ V.2.1 z = 14) {i : Int} (ri : rng i) (h0 : 0 ≤ i) (h1 : i < (V.2.2.1 z : Int)) (hdg : decode cc pc = .ok (.aaload, 1)) (kk : W p l e R s m args below meth c H locs cells slots Q (F0 m (pc + 1) ls (vR ad (S.2 z i.toNat) :: rest))) : W p l e R s m args below meth c H locs cells slots Q (F0 m pc ls (vI i :: vR ad r :: rest)) := by
  subst hz
  obtain ⟨t0, cA, E, h2, h3⟩ := wo_r (cy := cy) (ad := ad) (S := S) hzl ht
  exact va_aldq C.1 C.2.1 C.2.2.2.2.1.1 G.1.1 z t0 h2 h3 (rg_in ri h0 h1) hdg (by rw [rg_cl ri]; exact kk)
/-- values that a method takes and gives: ints in range, names of cells -/
def okv (V : Vt) : Int ⊕ Option Nat → Prop
  | .inl x => rng x
  | .inr r => ∀ z, r = some z → z < V.1
def qm (below : List Frame) (D : va_G) (cy : ClassId × ClassId × ClassId) (ad : Nat → Nat) (V : Vt) (A : Nat → Prop) (args : Array Value) (s : State) (Qo : Option (Int ⊕ Option Nat) → Me → Prop) : State → Prop := MQ below (fun _ st oc t => (∃ (r : Option (Int ⊕ Option Nat)) (S' : Me), oc = .returned (r.map (vS ad)) ∧ (∀ v, r = some v → okv V v) ∧ Qo r S' ∧ Gx D cy ad V S' t.heap) ∧ va_F A st t) args s 0 0 A
abbrev rmx (fr lc : Nat) : Room := { frames := fr, cells := 0, slots := 0, locals := lc }
/-- THE CONTRACT of a method that makes no cells -/
def KM (l : Launch) (D : va_G) (cy : ClassId × ClassId × ClassId) (y : MethodName) (cc : ByteArray) (n : Nat) (rt : Option FieldType) (fr lc : Nat) (ad : Nat → Nat) (V : Vt) (S : Me) (vs : List (Int ⊕ Option Nat)) (Qo : Option (Int ⊕ Option Nat) → Me → Prop) : Prop :=
  ∀ sz : Nat, Met l y (.code y cc n rt :: UW) ({ frames := fr, cells := 0, slots := 0, locals := lc }) (va_Pc (vs.map (vS ad)) (fun U => U.heap.size = sz ∧ Gx D cy ad V S U.heap ∧ Kx D cy U)) (fun _ st oc t => (∃ (r : Option (Int ⊕ Option Nat)) (S' : Me), oc = .returned (r.map (vS ad)) ∧ (∀ v, r = some v → okv V v) ∧ Qo r S' ∧ Gx D cy ad V S' t.heap) ∧ va_F (RA ad V.1 sz) st t) 0 0 (RA ad V.1 sz)
def qI (Q : Int → Me → Prop) : Option (Int ⊕ Option Nat) → Me → Prop := fun r S => ∃ x, r = some (.inl x) ∧ Q x S
def qR (Q : Option Nat → Me → Prop) : Option (Int ⊕ Option Nat) → Me → Prop := fun r S => ∃ x, r = some (.inr x) ∧ Q x S
def qV (Q : Me → Prop) : Option (Int ⊕ Option Nat) → Me → Prop := fun r S => r = none ∧ Q S
theorem kkI {Qi : Int → Me → Prop} (kk : ∀ (x : Int) (S' : Me) (H1 : Heap) (locs1 : List Loc), rng x → Qi x S' → Gy D cy A s.heap ad V S' H1 locs1 → W p l e R s m args below meth c H1 locs1 cells slots Q (F0 m (pc + 3) ls (vI x :: rest))) : ∀ (r : Option (Int ⊕ Option Nat)) (S' : Me) (H1 : Heap) (locs1 : List Loc), (∀ v, r = some v → okv V v) → qI Qi r S' → Gy D cy A s.heap ad V S' H1 locs1 → W p l e R s m args below meth c H1 locs1 cells slots Q (F0 m (pc + 3) ls ((r.map (vS ad)).toList ++ rest)) := by
  intro r S' H1 locs1 ok hq G
  obtain ⟨x, rfl, hq⟩ := hq
  exact kk x S' H1 locs1 (ok _ rfl) hq G
theorem kkR {Qi : Option Nat → Me → Prop} (kk : ∀ (x : Option Nat) (S' : Me) (H1 : Heap) (locs1 : List Loc), (∀ z, x = some z → z < V.1) → Qi x S' → Gy D cy A s.heap ad V S' H1 locs1 → W p l e R s m args below meth c H1 locs1 cells slots Q (F0 m (pc + 3) ls (vR ad x :: rest))) : ∀ (r : Option (Int ⊕ Option Nat)) (S' : Me) (H1 : Heap) (locs1 : List Loc), (∀ v, r = some v → okv V v) → qR Qi r S' → Gy D cy A s.heap ad V S' H1 locs1 → W p l e R s m args below meth c H1 locs1 cells slots Q (F0 m (pc + 3) ls ((r.map (vS ad)).toList ++ rest)) := by
  intro r S' H1 locs1 ok hq G
  obtain ⟨x, rfl, hq⟩ := hq
  exact kk x S' H1 locs1 (ok _ rfl) hq G
theorem kkV {Qi : Me → Prop} (kk : ∀ (S' : Me) (H1 : Heap) (locs1 : List Loc), Qi S' → Gy D cy A s.heap ad V S' H1 locs1 → W p l e R s m args below meth c H1 locs1 cells slots Q (F0 m (pc + 3) ls rest)) : ∀ (r : Option (Int ⊕ Option Nat)) (S' : Me) (H1 : Heap) (locs1 : List Loc), (∀ v, r = some v → okv V v) → qV Qi r S' → Gy D cy A s.heap ad V S' H1 locs1 → W p l e R s m args below meth c H1 locs1 cells slots Q (F0 m (pc + 3) ls ((r.map (vS ad)).toList ++ rest)) := by
  intro r S' H1 locs1 ok hq G
  obtain ⟨rfl, hq⟩ := hq
  exact kk S' H1 locs1 hq G
theorem rg_dv {x y : Int} (hx : rng x) (hy : 0 < y) : rng (x.tdiv y) := by
  rcases Int.le_total 0 x with h | h
  · rw [Int.tdiv_eq_ediv_of_nonneg h]
    have h1 := Int.ediv_le_self y h
    have h2 := Int.ediv_nonneg h (Int.le_of_lt hy)
    omega
  · have e : x.tdiv y = -((-x).tdiv y) := by rw [Int.neg_tdiv]; omega
    have h0 : 0 ≤ -x := by omega
    rw [e, Int.tdiv_eq_ediv_of_nonneg h0]
    have h1 := Int.ediv_le_self y h0
    have h2 := Int.ediv_nonneg h0 (Int.le_of_lt hy)
    omega
theorem rg_md {x y : Int} (hx : rng x) : rng (x.tmod y) := by
  rcases Int.le_total 0 x with h | h
  · have h1 : (x.tmod y).natAbs ≤ x.natAbs := by rw [Int.natAbs_tmod]; exact Nat.mod_le _ _
    omega
  · have h1 : (x.tmod y).natAbs ≤ x.natAbs := by rw [Int.natAbs_tmod]; exact Nat.mod_le _ _
    have h2 : (x.tmod y) ≤ 0 := by
      have := Int.tmod_nonneg (a := -x) y (by omega)
      rw [Int.neg_tmod] at this
      omega
    omega
theorem rg_mx {x y : Int} (hx : rng x) (hy : rng y) : rng (if x < y then y else x) := by split <;> assumption
def lmask (bs : List Bool) (PL : List (Option (Int ⊕ Option Nat))) : List (Option (Int ⊕ Option Nat)) := List.zipWith (fun b x => if b then x else none) bs PL
theorem lo_mask {bs : List Bool} {PL' : List (Option (Int ⊕ Option Nat))} (h : lo ad ls PL) (hl : bs.length = PL.length) (he : lmask bs PL = PL') : lo ad ls PL' := by
  subst he
  refine ⟨by rw [h.1]; simp [lmask, hl], h.2.1, fun i v hv => h.2.2 i v ?_⟩
  unfold lmask at hv
  rw [List.getElem?_zipWith] at hv
  cases hb : bs[i]? with
  | none => rw [hb] at hv; cases hv
  | some b =>
    cases hp : PL[i]? with
    | none => rw [hb, hp] at hv; cases hv
    | some q =>
      rw [hb, hp] at hv
      cases b with
      | false => cases hv
      | true => exact hv
theorem gx_max (C : Cx p s m args meth c cc own D cy A) (hlo : lo ad ls PL) (hml : c.maxLocals = PL.length) {index : Nat} {x y : Int} (rx : rng x) (ry : rng y) (hlink : Cond.methodLink own index Lib.Math.max.name ∈ UW) (hR : 1 ≤ R.frames ∧ 21 ≤ R.locals) (hRc : cells ≤ R.cells ∧ slots ≤ R.slots) (hW : (rest.map fun v => v.category).sum ≤ 8) (hdg : decode cc pc = .ok (.invokestatic index, 3)) (kk : W p l e R s m args below meth c H locs cells slots Q (F0 m (pc + 3) ls (vI (if x < y then y else x) :: rest))) : W p l e R s m args below meth c H locs cells slots Q (F0 m pc ls (vI y :: vI x :: rest)) := by
  have e9 : vI (if x < y then y else x) = .int (if Int32.ofInt x < Int32.ofInt y then Int32.ofInt y else Int32.ofInt x) := by
    by_cases h : x < y
    · rw [if_pos h, if_pos ((rg_lt rx ry).mpr h)]; rfl
    · rw [if_neg h, if_neg (fun q => h ((rg_lt rx ry).mp q))]; rfl
  rw [e9] at kk
  have hts := C.2.2.2.1
  exact va_mmax C.1 C.2.1 (hml.trans hlo.1.symm) C.2.2.1 (hts _ hlink) (hts _ uwMaxS) (hts _ uwMaxI) (hts _ uwMaxC) hR.1 (by omega) hRc.1 hRc.2 hdg kk
/-- behind a call -/
theorem gx_back (C : Cx p s m args meth c cc own D cy A) (G : Gy D cy A s.heap ad V S H locs) {st0 : List Value} {Qo : Option (Int ⊕ Option Nat) → Me → Prop} (hr : va_Run p l e R s m args below meth c H locs cells slots 0 0 (F0 m pc ls st0) rest (fun st oc t => (∃ (r : Option (Int ⊕ Option Nat)) (S' : Me), oc = .returned (r.map (vS ad)) ∧ (∀ v, r = some v → okv V v) ∧ Qo r S' ∧ Gx D cy ad V S' t.heap) ∧ va_F (RA ad V.1 H.size) st t) (RA ad V.1 H.size))
    (kk : ∀ (r : Option (Int ⊕ Option Nat)) (S' : Me) (H1 : Heap) (locs1 : List Loc), (∀ v, r = some v → okv V v) → Qo r S' → Gy D cy A s.heap ad V S' H1 locs1 → W p l e R s m args below meth c H1 locs1 cells slots Q (F0 m (pc + 3) ls ((r.map (vS ad)).toList ++ rest))) : W p l e R s m args below meth c H locs cells slots Q (F0 m pc ls st0) := by
  have hfree : ∀ q, RA ad V.1 H.size q → A q := by
    intro q hq
    rcases hq with ⟨k, hk, rfl⟩ | hq
    · exact G.2.1 k hk
    · exact C.2.2.2.2.2.1 q (Nat.le_trans G.2.2.1 hq)
  intro T hT X
  obtain ⟨v, st₀, t, T', L, h0, X', hL, e1, e2, ⟨⟨r, S', hv, hok, hq, hg⟩, hz, hk⟩, st⟩ := hr T hT X
  cases hv
  rw [h0] at hz hk
  obtain ⟨t2, a1, b1⟩ := kk r S' T'.heap (locs ++ L) hok hq ⟨by rw [e1]; exact hg, G.2.1, Nat.le_trans G.2.2.1 (by rw [e1]; exact hz), fun q h1 h2 => by rw [e1, hk q (Nat.lt_of_lt_of_le h1 G.2.2.1) (fun z => h2 (hfree q z))]; exact G.2.2.2.1 q h1 h2, fun q hq => by
      rcases List.mem_append.mp hq with h | h
      · exact G.2.2.2.2 q h
      · exact hfree _ (hL q h)⟩ T' rfl X'
  exact ⟨t2, st t2 a1, b1⟩
theorem KM.blind {y : MethodName} {cc : ByteArray} {vs : List Value} {sz : Nat} : FrameBlind (va_Pc vs (fun U => U.heap.size = sz ∧ Gx D cy ad V S U.heap ∧ Kx D cy U)) := fun a U g mk q => by
  obtain ⟨q0, q1, qP, qK⟩ := q
  exact ⟨q0, q1, qP, Kx.same (u := U) (U := U.calling g mk a) rfl qK⟩
/-- invokevirtual of a method that its receiver's class declares -/
theorem gx_callV (C : Cx p s m args meth c cc own D cy A) (G : Gy D cy A s.heap ad V S H locs) (hlo : lo ad ls PL) (hml : c.maxLocals = PL.length) {y : MethodName} {bc : ByteArray} {n fr lc na index : Nat} {rt : Option FieldType} {vs : List (Int ⊕ Option Nat)} {Qo : Option (Int ⊕ Option Nat) → Me → Prop} {r : Option Nat} {z : Nat}
    (hK : KM l D cy y bc n rt fr lc ad V S (.inr r :: vs) Qo) (hz : r = some z) (hzl : z < V.1) {q9 : vw_C} (hc : vwCl[V.2.1 z]? = some q9) (ht : V.2.1 z < 12) (hy : y.cls = q9.1)
    (hcode : Cond.code y bc n rt ∈ UW) (hlink : Cond.methodLink own index y ∈ UW) (hinst : Cond.instanceMethod y ∈ UW) (hsel : Cond.selects q9.1 y y ∈ UW) (hini : Cond.initialized q9.1 ∈ UW)
    (hd : y.cls ≠ "java/lang/invoke/MethodHandle" ∧ y.cls ≠ "java/lang/invoke/VarHandle" ∧ (parseMethodDescriptor y.desc).map (fun d => d.parameters.length) = some na) (hR : fr + 1 ≤ R.frames ∧ 8 + (n + 11) + lc ≤ R.locals) (hRc : cells ≤ R.cells ∧ slots ≤ R.slots)
    (hn : vs.length = na) {st0 : List Value} (hst : st0 = (vs.map (vS ad)).reverse ++ vR ad r :: rest) (hW : (rest.map fun v => v.category).sum ≤ 8) (hdg : decode cc pc = .ok (.invokevirtual index, 3))
    (kk : ∀ (r : Option (Int ⊕ Option Nat)) (S' : Me) (H1 : Heap) (locs1 : List Loc), (∀ v, r = some v → okv V v) → Qo r S' → Gy D cy A s.heap ad V S' H1 locs1 → W p l e R s m args below meth c H1 locs1 cells slots Q (F0 m (pc + 3) ls ((r.map (vS ad)).toList ++ rest))) : W p l e R s m args below meth c H locs cells slots Q (F0 m pc ls st0) := by
  subst hz
  have hts := C.2.2.2.1
  refine gx_back C G (va_runV (C := q9.1) (b := ad z) (As := vs.map (vS ad)) (Ts := UW) (own := own) (nL := PL.length) ⟨C.1, C.2.1, hml, C.2.2.1, hts⟩ (hK H.size) ⟨callB_of (ws' := UW) na hts (uw_in hcode) rfl rfl rfl (by rw [hy]; exact hts _ hini) (hts _ hlink) hd hR, hts _ hinst, hts _ hsel⟩ ⟨KM.blind (y := y) (cc := bc), va_recv C.2.2.2.2.1.1 G.1.1 hc (wo_o hzl ht), fun U hU hW => ⟨rfl, by rw [hU], by rw [hU]; exact G.1, Kx.warm hW C.2.2.2.2.1⟩⟩ rfl (by rw [List.length_map]; exact hn) hlo.1 hst (lv_room hW) hdg ⟨hRc.1, hRc.2⟩) kk
/-- invokestatic -/
theorem gx_callS (C : Cx p s m args meth c cc own D cy A) (G : Gy D cy A s.heap ad V S H locs) (hlo : lo ad ls PL) (hml : c.maxLocals = PL.length) {y : MethodName} {bc : ByteArray} {n fr lc na index : Nat} {rt : Option FieldType} {vs : List (Int ⊕ Option Nat)} {Qo : Option (Int ⊕ Option Nat) → Me → Prop}
    (hK : KM l D cy y bc n rt fr lc ad V S vs Qo)
    (hcode : Cond.code y bc n rt ∈ UW) (hlink : Cond.methodLink own index y ∈ UW) (hstat : Cond.static y ∈ UW) (hini : Cond.initialized y.cls ∈ UW)
    (hd : y.cls ≠ "java/lang/invoke/MethodHandle" ∧ y.cls ≠ "java/lang/invoke/VarHandle" ∧ (parseMethodDescriptor y.desc).map (fun d => d.parameters.length) = some na) (hR : fr + 1 ≤ R.frames ∧ 8 + (n + 11) + lc ≤ R.locals) (hRc : cells ≤ R.cells ∧ slots ≤ R.slots)
    (hn : vs.length = na) {st0 : List Value} (hst : st0 = (vs.map (vS ad)).reverse ++ rest) (hW : (rest.map fun v => v.category).sum ≤ 8) (hdg : decode cc pc = .ok (.invokestatic index, 3))
    (kk : ∀ (r : Option (Int ⊕ Option Nat)) (S' : Me) (H1 : Heap) (locs1 : List Loc), (∀ v, r = some v → okv V v) → Qo r S' → Gy D cy A s.heap ad V S' H1 locs1 → W p l e R s m args below meth c H1 locs1 cells slots Q (F0 m (pc + 3) ls ((r.map (vS ad)).toList ++ rest))) : W p l e R s m args below meth c H locs cells slots Q (F0 m pc ls st0) := by
  have hts := C.2.2.2.1
  refine gx_back C G (va_runS (As := vs.map (vS ad)) (Ts := UW) (own := own) (nL := PL.length) ⟨C.1, C.2.1, hml, C.2.2.1, hts⟩ (hK H.size) ⟨callB_of (ws' := UW) na hts (uw_in hcode) rfl rfl rfl (hts _ hini) (hts _ hlink) hd hR, hts _ hstat⟩ ⟨KM.blind (y := y) (cc := bc), fun U hU hW => ⟨rfl, by rw [hU], by rw [hU]; exact G.1, Kx.warm hW C.2.2.2.2.1⟩⟩ rfl (by rw [List.length_map]; exact hn) hlo.1 hst (lv_room hW) hdg ⟨hRc.1, hRc.2⟩) kk
/-- a method's entry -/
theorem KM.of {y : MethodName} {cc : ByteArray} {n fr lc : Nat} {rt : Option FieldType} {vs : List (Int ⊕ Option Nat)} {Qo : Option (Int ⊕ Option Nat) → Me → Prop} {own : String} (hy : plainName y.cls = true) (ho : y.cls = own) (hvl : vs.length ≤ n)
    (body : ∀ (p : Program) (e : Env) (s : State) (m : MethodId) (args : Array Value) (below : List Frame) (meth : Method) (c : Code) (A : Nat → Prop) (ls : Array Slot) (H : Heap) (locs : List Loc), A = RA ad V.1 s.heap.size → Cx p s m args meth c cc own D cy A → meth.sig.returnType = rt → c.maxLocals = n → meth.name = y.name → lo ad ls (vs.map some ++ List.replicate (n - vs.length) none) → Gy D cy A s.heap ad V S H locs →
      W p l e (rmx fr lc) s m args below meth c H locs 0 0 (qm below D cy ad V A args s Qo) (F0 m 0 ls [])) : KM l D cy y cc n rt fr lc ad V S vs Qo := by
  intro sz
  refine Met.ofW (cc := cc) (maxL := n) (ret := rt) hy rfl ?_
  intro p e s m args below meth c s₁ B hml hv
  obtain ⟨rfl, hsz, hG, hK⟩ := hv
  subst hsz
  have hts := atoms_spec (ws := (.code y cc n rt :: UW)) B.pre
  have hown : s.vm.findClass own = some m.cls := by rw [← ho]; exact findClass_of_methodNamed B.named
  have hl := lo_entry ad vs n hvl
  rw [lg_entry_eq]
  generalize (lg_sl (vs.map (vS ad)) ++ List.replicate (n - (lg_sl (vs.map (vS ad))).length) Slot.unset).toArray = ls at hl ⊢
  exact body p e s m _ below meth c _ ls s.heap [] rfl ⟨B.exec, B.bytes, hown, fun w hw => hts w (List.mem_cons_of_mem _ hw), hK, fun q h => Or.inr h, B.notSynchronized⟩ B.returns hml (name_of_methodNamed B.named B.method).1 hl ⟨hG, fun k hk => Or.inl ⟨k, hk, rfl⟩, va_S.rf⟩
theorem gx_iret (C : Cx p s m args meth c cc own D cy A) (G : Gy D cy A s.heap ad V S H locs) {x : Int} {Qi : Int → Me → Prop} (hr : meth.sig.returnType = some .int) (rx : rng x) (h : Qi x S) (hdg : decode cc pc = .ok (.ireturn, 1)) : W p l e R s m args below meth c H locs 0 0 (qm below D cy ad V A args s (qI Qi)) (F0 m pc ls [vI x]) :=
  W.iret C.1 C.2.1 hr (fun t ht _ => ⟨⟨some (.inl x), S, rfl, fun v hv => by cases hv; exact rx, ⟨x, rfl, h⟩, by rw [ht]; exact G.1⟩, G.2.2.F ht⟩) G.2.2.2.2 hdg C.2.2.2.2.2.2
theorem gx_zret (C : Cx p s m args meth c cc own D cy A) (G : Gy D cy A s.heap ad V S H locs) {x : Int} {Qi : Int → Me → Prop} (hr : meth.sig.returnType = some .boolean) (hx : x = 0 ∨ x = 1) (h : Qi x S) (hdg : decode cc pc = .ok (.ireturn, 1)) : W p l e R s m args below meth c H locs 0 0 (qm below D cy ad V A args s (qI Qi)) (F0 m pc ls [vI x]) :=
  W.zret C.1 C.2.1 hr (by rcases hx with rfl | rfl <;> rfl) (fun t ht _ => ⟨⟨some (.inl x), S, rfl, fun v hv => by cases hv; show rng x; omega, ⟨x, rfl, h⟩, by rw [ht]; exact G.1⟩, G.2.2.F ht⟩) G.2.2.2.2 hdg C.2.2.2.2.2.2
theorem gx_vret (C : Cx p s m args meth c cc own D cy A) (G : Gy D cy A s.heap ad V S H locs) {Qi : Me → Prop} (hr : meth.sig.returnType = none) (h : Qi S) (hdg : decode cc pc = .ok (.return_, 1)) : W p l e R s m args below meth c H locs 0 0 (qm below D cy ad V A args s (qV Qi)) (F0 m pc ls []) :=
  W.vret C.1 C.2.1 hr (fun t ht _ => ⟨⟨none, S, rfl, (fun v hv => by cases hv), ⟨rfl, h⟩, by rw [ht]; exact G.1⟩, G.2.2.F ht⟩) G.2.2.2.2 hdg C.2.2.2.2.2.2
theorem gx_aret (C : Cx p s m args meth c cc own D cy A) (G : Gy D cy A s.heap ad V S H locs) {x : Option Nat} {Qi : Option Nat → Me → Prop} {rt : FieldType} (hr : meth.sig.returnType = some rt) (hrt : (∃ n, rt = .object n) ∨ ∃ t, rt = .array t) (hx : ∀ z, x = some z → z < V.1) (h : Qi x S) (hdg : decode cc pc = .ok (.areturn, 1)) : W p l e R s m args below meth c H locs 0 0 (qm below D cy ad V A args s (qR Qi)) (F0 m pc ls [vR ad x]) :=
  W.aret C.1 C.2.1 hr hrt (by cases x; exact Or.inl rfl; exact Or.inr ⟨_, rfl⟩) (fun t ht _ => ⟨⟨some (.inr x), S, rfl, fun v hv => by cases hv; exact hx, ⟨x, rfl, h⟩, by rw [ht]; exact G.1⟩, G.2.2.F ht⟩) G.2.2.2.2 hdg C.2.2.2.2.2.2
end GM
end
section
theorem vsome {w n : Nat} (h : w < n) : ∀ z, some w = some z → z < n := fun z h9 => by cases h9; exact h
theorem vnone {n : Nat} : ∀ z, (none : Option Nat) = some z → z < n := fun z h9 => by cases h9
theorem ixl {L n : Nat} {i : Int} (e : L = n) (h : i < (n : Int)) : i < (L : Int) := by rw [e]; exact h
theorem isW_A {t : Nat} (h : isW t) : isA t := by omega
theorem hw_le (ad : Nat → Nat) {rest : List Value} (rs : List (Int ⊕ Option Nat)) (h : rest = rs.map (vS ad)) (hl : rs.length ≤ 8) : (rest.map fun v => v.category).sum ≤ 8 := by
  subst h
  have : ((rs.map (vS ad)).map fun v => v.category).sum = rs.length := by
    clear hl
    induction rs with
    | nil => rfl
    | cons a t ih => simp only [List.map_cons, List.sum_cons, List.length_cons, vS_cat, ih]; omega
  rw [this]; exact hl
def isin (v lo hi : Int) : Int := if lo ≤ v ∧ v ≤ hi then 1 else 0
theorem isin01 (v lo hi : Int) : isin v lo hi = 0 ∨ isin v lo hi = 1 := by unfold isin; split <;> simp
theorem isin_r (v lo hi : Int) : rng (isin v lo hi) := by rcases isin01 v lo hi with h | h <;> rw [h] <;> decide
theorem lg_t {x : Int} (h : rng x) : (Int64.ofInt x).toInt = x := Int64.toInt_ofInt_of_le (by omega) (by omega)
theorem lg_lt {x y : Int} (hx : rng x) (hy : rng y) : Int64.ofInt x < Int64.ofInt y ↔ x < y := by rw [Int64.lt_iff_toInt_lt, lg_t hx, lg_t hy]
theorem lg_eq {x y : Int} (hx : rng x) (hy : rng y) : Int64.ofInt x = Int64.ofInt y ↔ x = y := by rw [← Int64.toInt_inj, lg_t hx, lg_t hy]
theorem lg_c1 {x y : Int} (hx : rng x) (hy : rng y) : lg_cmp (Int64.ofInt x) (Int64.ofInt y) < 0 ↔ x < y := by
  unfold lg_cmp
  rcases Int.lt_trichotomy x y with h | h | h
  · have h1 : ¬ Int64.ofInt x > Int64.ofInt y := fun q => by have := (lg_lt hy hx).mp q; omega
    have h2 : ¬ Int64.ofInt x = Int64.ofInt y := fun q => by have := (lg_eq hx hy).mp q; omega
    rw [if_neg h1, if_neg h2]
    exact ⟨fun _ => h, fun _ => by decide⟩
  · subst h
    rw [if_neg (fun q => by have := (lg_lt hx hx).mp q; omega), if_pos rfl]
    exact ⟨fun q => absurd q (by decide), fun q => by omega⟩
  · have h1 : Int64.ofInt x > Int64.ofInt y := (lg_lt hy hx).mpr h
    rw [if_pos h1]
    exact ⟨fun q => absurd q (by decide), fun q => by omega⟩
theorem lg_c2 {x y : Int} (hx : rng x) (hy : rng y) : 0 < lg_cmp (Int64.ofInt x) (Int64.ofInt y) ↔ y < x := by
  unfold lg_cmp
  rcases Int.lt_trichotomy x y with h | h | h
  · have h1 : ¬ Int64.ofInt x > Int64.ofInt y := fun q => by have := (lg_lt hy hx).mp q; omega
    have h2 : ¬ Int64.ofInt x = Int64.ofInt y := fun q => by have := (lg_eq hx hy).mp q; omega
    rw [if_neg h1, if_neg h2]
    exact ⟨fun q => absurd q (by decide), fun q => by omega⟩
  · subst h
    rw [if_neg (fun q => by have := (lg_lt hx hx).mp q; omega), if_pos rfl]
    exact ⟨fun q => absurd q (by decide), fun q => by omega⟩
  · have h1 : Int64.ofInt x > Int64.ofInt y := (lg_lt hy hx).mpr h
    rw [if_pos h1]
    exact ⟨fun _ => h, fun _ => by decide⟩
theorem hd_X12_isIn : yX12_isIn.cls ≠ "java/lang/invoke/MethodHandle" ∧ yX12_isIn.cls ≠ "java/lang/invoke/VarHandle" ∧ (parseMethodDescriptor yX12_isIn.desc).map (fun d => d.parameters.length) = some 3 := by decide +kernel
set_option maxHeartbeats 4000000 in
set_option maxRecDepth 100000 in
theorem c_isIn (l : Launch) (H0 : Heap) {v lo hi : Int} (rv : rng v) (rl : rng lo) (rh : rng hi) : Met l yX12_isIn (.code yX12_isIn cX12_isIn 6 (some .boolean) :: UW) ({ frames := 0, cells := 0, slots := 0, locals := 0 }) (va_Pc [vL v, vL lo, vL hi] (fun U => U.heap = H0)) (fun _ st oc t => oc = .returned (some (vI (isin v lo hi))) ∧ t.heap = st.heap) 0 0 (fun _ => False) := by
  refine Met.ofW (cc := cX12_isIn) (maxL := 6) (ret := some .boolean) (by decide) rfl ?_
  intro p e s m args below meth c s₁ B hml hv
  obtain ⟨rfl, hsz⟩ := hv
  have hx := B.exec
  have hb := B.bytes
  have hr := B.returns
  have hlocks := B.notSynchronized
  have hl := lv_entry ([vL v, vL lo, vL hi]) (n := 6) (Nat.le_of_ble_eq_true rfl)
  rw [lg_entry_eq]
  generalize (lg_sl ([vL v, vL lo, vL hi]) ++ List.replicate (6 - (lg_sl ([vL v, vL lo, vL hi])).length) Slot.unset).toArray = ls at hl ⊢
  have hl : lv_has ls 6 [(0, .long (Int64.ofInt v)), (2, .long (Int64.ofInt lo)), (4, .long (Int64.ofInt hi))] := hl
  have k18 : ∀ x : Int, x = 0 ∨ x = 1 → x = isin v lo hi → W p l e (headSpec (Cond.code yX12_isIn cX12_isIn 6 (some FieldType.boolean) :: UW) { frames := 0, cells := 0, slots := 0, locals := 0 }).room s m [vL v, vL lo, vL hi].toArray below meth c s.heap [] 0 0 (MQ below (fun _ st oc t => oc = .returned (some (vI (isin v lo hi))) ∧ t.heap = st.heap) [vL v, vL lo, vL hi].toArray s 0 0 (fun _ => False)) (F0 m 18 ls [vI x]) := by
    intro x hx01 ex
    exact W.zret hx hb hr (by rcases hx01 with rfl | rfl <;> rfl) (fun t ht _ => ⟨by rw [← ex]; rfl, ht⟩) (fun q h => by cases h) dX12_isIn_18
  refine lv_lload_n hx hb dX12_isIn_0 rfl (lv_at hl 0 rfl) ?_
  refine lv_lload_n hx hb dX12_isIn_1 rfl (lv_at hl 1 rfl) ?_
  refine W.lcmp hx hb dX12_isIn_2 ?_
  refine lv_if_lt (tgt := 17) hx hb dX12_isIn_3 (by decide) (fun c1 => ?_) (fun c1 => ?_)
  · have c1 := (lg_c1 rv rl).mp c1
    refine lv_iconst (v := Int32.ofInt 0) hx hb dX12_isIn_17 rfl ?_
    exact k18 0 (Or.inl rfl) (by unfold isin; rw [if_neg]; omega)
  · have c1 : ¬ v < lo := fun q => c1 ((lg_c1 rv rl).mpr q)
    refine lv_lload_n hx hb dX12_isIn_6 rfl (lv_at hl 0 rfl) ?_
    refine lv_lload hx hb dX12_isIn_7 (lv_at hl 2 rfl) ?_
    refine W.lcmp hx hb dX12_isIn_9 ?_
    refine lv_if_gt (tgt := 17) hx hb dX12_isIn_10 (by decide) (fun c2 => ?_) (fun c2 => ?_)
    · have c2 := (lg_c2 rv rh).mp c2
      refine lv_iconst (v := Int32.ofInt 0) hx hb dX12_isIn_17 rfl ?_
      exact k18 0 (Or.inl rfl) (by unfold isin; rw [if_neg]; omega)
    · have c2 : ¬ hi < v := fun q => c2 ((lg_c2 rv rh).mpr q)
      refine lv_iconst (v := Int32.ofInt 1) hx hb dX12_isIn_13 rfl ?_
      refine lv_goto (tgt := 18) hx hb dX12_isIn_14 (by decide) ?_
      exact k18 1 (Or.inr rfl) (by unfold isin; rw [if_pos]; omega)
section GN
variable {p : Program} {l : Launch} {e : Env} {R : Room} {s : State} {m : MethodId} {args : Array Value} {below : List Frame} {meth : Method} {c : Code} {H : Heap} {locs : List Loc} {cells slots : Nat} {Q : State → Prop} {cc : ByteArray} {pc : Nat} {ls : Array Slot} {rest : List Value} {D : va_G} {cy : ClassId × ClassId × ClassId} {A : Nat → Prop} {ad : Nat → Nat} {V : Vt} {S : Me} {own : String} {PL : List (Option (Int ⊕ Option Nat))}
theorem gx_isIn (C : Cx p s m args meth c cc own D cy A) (G : Gy D cy A s.heap ad V S H locs) (hlo : lo ad ls PL) (hml : c.maxLocals = PL.length) {index : Nat} {v lo hi : Int} (rv : rng v) (rl : rng lo) (rh : rng hi) (hlink : Cond.methodLink own index yX12_isIn ∈ UW) (hR : 1 ≤ R.frames ∧ 25 ≤ R.locals) (hRc : cells ≤ R.cells ∧ slots ≤ R.slots) (hW : (rest.map fun v => v.category).sum ≤ 8) (hdg : decode cc pc = .ok (.invokestatic index, 3)) (kk : W p l e R s m args below meth c H locs cells slots Q (F0 m (pc + 3) ls (vI (isin v lo hi) :: rest))) : W p l e R s m args below meth c H locs cells slots Q (F0 m pc ls (vL hi :: vL lo :: vL v :: rest)) := by
  have hts := C.2.2.2.1
  have hr : va_Run p l e R s m args below meth c H locs cells slots 0 0 (F0 m pc ls (vL hi :: vL lo :: vL v :: rest)) rest _ _ := va_runS (As := [vL v, vL lo, vL hi]) (rest := rest) (Ts := UW) (own := own) (nL := PL.length) ⟨C.1, C.2.1, hml, C.2.2.1, hts⟩ (c_isIn l H rv rl rh) ⟨callB_of (ws' := UW) 3 hts (uw_in uwIsIn) rfl rfl rfl (hts _ uwIsInI) (hts _ hlink) hd_X12_isIn hR, hts _ uwIsInS⟩ ⟨fun a U g mk q => ⟨q.1, q.2⟩, fun U hU _ => ⟨rfl, hU⟩⟩ rfl rfl hlo.1 rfl (lv_room hW) hdg ⟨hRc.1, hRc.2⟩
  intro T hT X
  obtain ⟨v9, st₀, t, T', L, h0, X', hL, e1, e2, ⟨hv, hh⟩, st⟩ := hr T hT X
  cases hv
  have hLn : L = [] := by
    cases L with
    | nil => rfl
    | cons a b => exact (hL a List.mem_cons_self).elim
  subst hLn
  rw [List.append_nil] at X'
  obtain ⟨t2, a1, b1⟩ := kk T' (by rw [e1, hh, h0]) X'
  exact ⟨t2, st t2 a1, b1⟩
theorem gx_dup2RI (C : Cx p s m args meth c cc own D cy A) {x : Int} {r : Option Nat} (hdg : decode cc pc = .ok (.dup2, 1)) (k : W p l e R s m args below meth c H locs cells slots Q (F0 m (pc + 1) ls (vI x :: vR ad r :: vI x :: vR ad r :: rest))) : W p l e R s m args below meth c H locs cells slots Q (F0 m pc ls (vI x :: vR ad r :: rest)) := lv_dup2_11 C.1 C.2.1 hdg rfl (vS_cat ad (.inr r)) k
theorem gx_popR (C : Cx p s m args meth c cc own D cy A) {r : Option Nat} (hdg : decode cc pc = .ok (.pop, 1)) (k : W p l e R s m args below meth c H locs cells slots Q (F0 m (pc + 1) ls rest)) : W p l e R s m args below meth c H locs cells slots Q (F0 m pc ls (vR ad r :: rest)) := lv_pop C.1 C.2.1 hdg (vS_cat ad (.inr r)) k
/-- an Ask is put into the array of Asks -/
theorem gx_aastA (C : Cx p s m args meth c cc own D cy A) (G : Gy D cy A s.heap ad V S H locs) {r : Option Nat} {z : Nat} (hz : r = some z) (hzl : z < V.1) (ht : V.2.1 z = 13) {i : Int} (ri : rng i) (h0 : 0 ≤ i) (h1 : i < (V.2.2.1 z : Int)) {x : Option Nat} {w : Nat} (hw : x = some w) (hwl : w < V.1) (hA : isA (V.2.1 w)) (hdg : decode cc pc = .ok (.aastore, 1)) (kk : ∀ (H1 : Heap) (locs1 : List Loc), Gy D cy A s.heap ad V (sP S z i.toNat x) H1 locs1 → W p l e R s m args below meth c H1 locs1 cells slots Q (F0 m (pc + 1) ls rest)) : W p l e R s m args below meth c H locs cells slots Q (F0 m pc ls (vR ad x :: vI i :: vR ad r :: rest)) := by
  subst hz hw
  have hA12 : V.2.1 w < 12 := by omega
  obtain ⟨q9, hq, hca⟩ : ∃ q9 : vw_C, vwCl[V.2.1 w]? = some q9 ∧ va_Nw (.castable q9.1 "RowBank$Ask") s := by
    rcases hA with h | h | h | h | h <;> rw [h]
    · exact ⟨_, rfl, C.2.2.2.2.1.2 (.castable RX2 RX0) (by decide +kernel)⟩
    · exact ⟨_, rfl, C.2.2.2.2.1.2 (.castable RX3 RX0) (by decide +kernel)⟩
    · exact ⟨_, rfl, C.2.2.2.2.1.2 (.castable RX6 RX0) (by decide +kernel)⟩
    · exact ⟨_, rfl, C.2.2.2.2.1.2 (.castable RX9 RX0) (by decide +kernel)⟩
    · exact ⟨_, rfl, C.2.2.2.2.1.2 (.castable RX10 RX0) (by decide +kernel)⟩
  refine va_astqO (E := "RowBank$Ask") C.1 C.2.1 C.2.2.2.2.1.1 G.1.1 G.D G.2.2 z 1 w (V.2.1 w) (by rw [wo_at hzl, cf_a ht]) rfl hca (wo_o hwl hA12) hq (rg_in ri h0 h1) hdg (fun H1 locs1 hP _ hS => ?_)
  rw [rg_cl ri, wo_sP (j := i.toNat) (r := some w) hzl (by
    rw [cf_a ht]
    congr 3
    refine congrArg (fun f => Sum.inr (Sum.inr (Sum.inr (Sum.inr f)))) (funext fun j => ?_)
    by_cases hj : j = i.toNat
    · subst hj; simp [va_up]
    · simp [va_up, hj])] at hP
  exact kk H1 locs1 ⟨Gx_sP (vsome hwl) hP G.1, G.2.1, hS⟩
/-- a virtual call of an Ask's method: x is the name at the call, y the code that its class has -/
theorem gx_callU (C : Cx p s m args meth c cc own D cy A) (G : Gy D cy A s.heap ad V S H locs) (hlo : lo ad ls PL) (hml : c.maxLocals = PL.length) {x y : MethodName} {owner : String} {bc : ByteArray} {n fr lc na index : Nat} {rt : Option FieldType} {vs : List (Int ⊕ Option Nat)} {Qo : Option (Int ⊕ Option Nat) → Me → Prop} {r : Option Nat} {z : Nat}
    (hK : KM l D cy y bc n rt fr lc ad V S (.inr r :: vs) Qo) (hz : r = some z) (hzl : z < V.1) {q9 : vw_C} (hc : vwCl[V.2.1 z]? = some q9) (ht : V.2.1 z < 12)
    (hcode : Cond.code y bc n rt ∈ UW) (hlink : Cond.methodLink own index x ∈ UW) (hsm : Cond.sameMethod x.cls owner x.name x.desc ∈ UW) (hdc : va_Decl s ⟨owner, x.name, x.desc⟩) (hinst : Cond.instanceMethod y ∈ UW) (hsel : Cond.selects q9.1 x y ∈ UW) (hini : Cond.initialized y.cls ∈ UW)
    (hd : owner ≠ "java/lang/invoke/MethodHandle" ∧ owner ≠ "java/lang/invoke/VarHandle" ∧ (parseMethodDescriptor x.desc).map (fun d => d.parameters.length) = some na) (hR : fr + 1 ≤ R.frames ∧ 8 + (n + 11) + lc ≤ R.locals) (hRc : cells ≤ R.cells ∧ slots ≤ R.slots)
    (hn : vs.length = na) {st0 : List Value} (hst : st0 = (vs.map (vS ad)).reverse ++ vR ad r :: rest) (hW : (rest.map fun v => v.category).sum ≤ 8) (hdg : decode cc pc = .ok (.invokevirtual index, 3))
    (kk : ∀ (r : Option (Int ⊕ Option Nat)) (S' : Me) (H1 : Heap) (locs1 : List Loc), (∀ v, r = some v → okv V v) → Qo r S' → Gy D cy A s.heap ad V S' H1 locs1 → W p l e R s m args below meth c H1 locs1 cells slots Q (F0 m (pc + 3) ls ((r.map (vS ad)).toList ++ rest))) : W p l e R s m args below meth c H locs cells slots Q (F0 m pc ls st0) := by
  subst hz
  have hts := C.2.2.2.1
  refine gx_back C G (va_runU (C := q9.1) (owner := owner) (x := x) (b := ad z) (As := vs.map (vS ad)) (Ts := UW) (own := own) (nL := PL.length) ⟨C.1, C.2.1, hml, C.2.2.1, hts⟩ (hK H.size) ⟨⟨rfl, rfl, hR.1, hR.2, pay_in hts (uw_in hcode), List.mem_cons_self⟩, hts _ hcode, hts _ hini, ⟨hd.1, hd.2.1⟩, fun sig h => by have h2 := hd.2.2; rw [h] at h2; exact (Option.some.inj h2).symm, hts _ hlink, hts _ hsm, hdc, hts _ hsel, hts _ hinst⟩ ⟨KM.blind (y := y) (cc := bc), va_recv C.2.2.2.2.1.1 G.1.1 hc (wo_o hzl ht), fun U hU hW => ⟨rfl, by rw [hU], by rw [hU]; exact G.1, Kx.warm hW C.2.2.2.2.1⟩⟩ rfl (by rw [List.length_map]; exact hn) hlo.1 hst (lv_room hW) hdg ⟨hRc.1, hRc.2⟩) kk
end GN
def fX5 (V : Vt) (o : Nat) : Prop := (o < V.1 ∧ V.2.1 o = 4) ∧ (V.2.2.2 o 0 = some (o + 1) ∧ o + 1 < V.1 ∧ V.2.1 (o + 1) = 12 ∧ V.2.2.1 (o + 1) = 4) ∧ (V.2.2.2 o 1 = some (o + 2) ∧ o + 2 < V.1 ∧ V.2.1 (o + 2) = 12 ∧ V.2.2.1 (o + 2) = 4) ∧ (V.2.2.2 o 2 = some (o + 3) ∧ o + 3 < V.1 ∧ V.2.1 (o + 3) = 12 ∧ V.2.2.1 (o + 3) = 4) ∧ (V.2.2.2 o 3 = some (o + 4) ∧ o + 4 < V.1 ∧ V.2.1 (o + 4) = 12 ∧ V.2.2.1 (o + 4) = 4) ∧ (V.2.2.2 o 4 = some (o + 5) ∧ o + 5 < V.1 ∧ V.2.1 (o + 5) = 12 ∧ V.2.2.1 (o + 5) = 4) ∧ (V.2.2.2 o 5 = some (o + 6) ∧ o + 6 < V.1 ∧ V.2.1 (o + 6) = 12 ∧ V.2.2.1 (o + 6) = 2) ∧ (V.2.2.2 o 6 = some (o + 7) ∧ o + 7 < V.1 ∧ V.2.1 (o + 7) = 12 ∧ V.2.2.1 (o + 7) = 4)
theorem fX5_o {V : Vt} {o : Nat} (h : fX5 V o) : o < V.1 := h.1.1
theorem fX5_c {V : Vt} {o : Nat} (h : fX5 V o) : V.2.1 o = 4 := h.1.2
theorem fX5_opens {V : Vt} {o : Nat} (h : fX5 V o) : V.2.2.2 o 0 = some (o + 1) := h.2.1.1
theorem fX5_opens_l {V : Vt} {o : Nat} (h : fX5 V o) : o + 1 < V.1 := h.2.1.2.1
theorem fX5_opens_t {V : Vt} {o : Nat} (h : fX5 V o) : V.2.1 (o + 1) = 12 := h.2.1.2.2.1
theorem fX5_opens_n {V : Vt} {o : Nat} (h : fX5 V o) : V.2.2.1 (o + 1) = 4 := h.2.1.2.2.2
theorem fX5_opensBeside {V : Vt} {o : Nat} (h : fX5 V o) : V.2.2.2 o 1 = some (o + 2) := h.2.2.1.1
theorem fX5_opensBeside_l {V : Vt} {o : Nat} (h : fX5 V o) : o + 2 < V.1 := h.2.2.1.2.1
theorem fX5_opensBeside_t {V : Vt} {o : Nat} (h : fX5 V o) : V.2.1 (o + 2) = 12 := h.2.2.1.2.2.1
theorem fX5_opensBeside_n {V : Vt} {o : Nat} (h : fX5 V o) : V.2.2.1 (o + 2) = 4 := h.2.2.1.2.2.2
theorem fX5_shuts {V : Vt} {o : Nat} (h : fX5 V o) : V.2.2.2 o 2 = some (o + 3) := h.2.2.2.1.1
theorem fX5_shuts_l {V : Vt} {o : Nat} (h : fX5 V o) : o + 3 < V.1 := h.2.2.2.1.2.1
theorem fX5_shuts_t {V : Vt} {o : Nat} (h : fX5 V o) : V.2.1 (o + 3) = 12 := h.2.2.2.1.2.2.1
theorem fX5_shuts_n {V : Vt} {o : Nat} (h : fX5 V o) : V.2.2.1 (o + 3) = 4 := h.2.2.2.1.2.2.2
theorem fX5_reads {V : Vt} {o : Nat} (h : fX5 V o) : V.2.2.2 o 3 = some (o + 4) := h.2.2.2.2.1.1
theorem fX5_reads_l {V : Vt} {o : Nat} (h : fX5 V o) : o + 4 < V.1 := h.2.2.2.2.1.2.1
theorem fX5_reads_t {V : Vt} {o : Nat} (h : fX5 V o) : V.2.1 (o + 4) = 12 := h.2.2.2.2.1.2.2.1
theorem fX5_reads_n {V : Vt} {o : Nat} (h : fX5 V o) : V.2.2.1 (o + 4) = 4 := h.2.2.2.2.1.2.2.2
theorem fX5_writes {V : Vt} {o : Nat} (h : fX5 V o) : V.2.2.2 o 4 = some (o + 5) := h.2.2.2.2.2.1.1
theorem fX5_writes_l {V : Vt} {o : Nat} (h : fX5 V o) : o + 5 < V.1 := h.2.2.2.2.2.1.2.1
theorem fX5_writes_t {V : Vt} {o : Nat} (h : fX5 V o) : V.2.1 (o + 5) = 12 := h.2.2.2.2.2.1.2.2.1
theorem fX5_writes_n {V : Vt} {o : Nat} (h : fX5 V o) : V.2.2.1 (o + 5) = 4 := h.2.2.2.2.2.1.2.2.2
theorem fX5_columnsOfGroups {V : Vt} {o : Nat} (h : fX5 V o) : V.2.2.2 o 5 = some (o + 6) := h.2.2.2.2.2.2.1.1
theorem fX5_columnsOfGroups_l {V : Vt} {o : Nat} (h : fX5 V o) : o + 6 < V.1 := h.2.2.2.2.2.2.1.2.1
theorem fX5_columnsOfGroups_t {V : Vt} {o : Nat} (h : fX5 V o) : V.2.1 (o + 6) = 12 := h.2.2.2.2.2.2.1.2.2.1
theorem fX5_columnsOfGroups_n {V : Vt} {o : Nat} (h : fX5 V o) : V.2.2.1 (o + 6) = 2 := h.2.2.2.2.2.2.1.2.2.2
theorem fX5_fourOpens {V : Vt} {o : Nat} (h : fX5 V o) : V.2.2.2 o 6 = some (o + 7) := h.2.2.2.2.2.2.2.1
theorem fX5_fourOpens_l {V : Vt} {o : Nat} (h : fX5 V o) : o + 7 < V.1 := h.2.2.2.2.2.2.2.2.1
theorem fX5_fourOpens_t {V : Vt} {o : Nat} (h : fX5 V o) : V.2.1 (o + 7) = 12 := h.2.2.2.2.2.2.2.2.2.1
theorem fX5_fourOpens_n {V : Vt} {o : Nat} (h : fX5 V o) : V.2.2.1 (o + 7) = 4 := h.2.2.2.2.2.2.2.2.2.2
def fX4 (V : Vt) (o : Nat) : Prop := (o < V.1 ∧ V.2.1 o = 3) ∧ (V.2.2.2 o 0 = some (o + 1) ∧ o + 1 < V.1 ∧ V.2.1 (o + 1) = 12 ∧ V.2.2.1 (o + 1) = 1024) ∧ (V.2.2.2 o 1 = some (o + 2) ∧ o + 2 < V.1 ∧ V.2.1 (o + 2) = 12 ∧ V.2.2.1 (o + 2) = 4)
theorem fX4_o {V : Vt} {o : Nat} (h : fX4 V o) : o < V.1 := h.1.1
theorem fX4_c {V : Vt} {o : Nat} (h : fX4 V o) : V.2.1 o = 3 := h.1.2
theorem fX4_octets {V : Vt} {o : Nat} (h : fX4 V o) : V.2.2.2 o 0 = some (o + 1) := h.2.1.1
theorem fX4_octets_l {V : Vt} {o : Nat} (h : fX4 V o) : o + 1 < V.1 := h.2.1.2.1
theorem fX4_octets_t {V : Vt} {o : Nat} (h : fX4 V o) : V.2.1 (o + 1) = 12 := h.2.1.2.2.1
theorem fX4_octets_n {V : Vt} {o : Nat} (h : fX4 V o) : V.2.2.1 (o + 1) = 1024 := h.2.1.2.2.2
theorem fX4_openRows {V : Vt} {o : Nat} (h : fX4 V o) : V.2.2.2 o 1 = some (o + 2) := h.2.2.1
theorem fX4_openRows_l {V : Vt} {o : Nat} (h : fX4 V o) : o + 2 < V.1 := h.2.2.2.1
theorem fX4_openRows_t {V : Vt} {o : Nat} (h : fX4 V o) : V.2.1 (o + 2) = 12 := h.2.2.2.2.1
theorem fX4_openRows_n {V : Vt} {o : Nat} (h : fX4 V o) : V.2.2.1 (o + 2) = 4 := h.2.2.2.2.2
def fX7 (V : Vt) (o : Nat) : Prop := (o < V.1 ∧ V.2.1 o = 6) ∧ (V.2.2.2 o 0 = some (o + 1) ∧ o + 1 < V.1 ∧ V.2.1 (o + 1) = 13 ∧ V.2.2.1 (o + 1) = 400) ∧ (V.2.2.2 o 1 = some (o + 2) ∧ o + 2 < V.1 ∧ V.2.1 (o + 2) = 12 ∧ V.2.2.1 (o + 2) = 1024) ∧ (V.2.2.2 o 2 = some (o + 3) ∧ o + 3 < V.1 ∧ V.2.1 (o + 3) = 12 ∧ V.2.2.1 (o + 3) = 4) ∧ (V.2.2.2 o 3 = some (o + 4) ∧ o + 4 < V.1 ∧ V.2.1 (o + 4) = 12 ∧ V.2.2.1 (o + 4) = 4)
theorem fX7_o {V : Vt} {o : Nat} (h : fX7 V o) : o < V.1 := h.1.1
theorem fX7_c {V : Vt} {o : Nat} (h : fX7 V o) : V.2.1 o = 6 := h.1.2
theorem fX7_all {V : Vt} {o : Nat} (h : fX7 V o) : V.2.2.2 o 0 = some (o + 1) := h.2.1.1
theorem fX7_all_l {V : Vt} {o : Nat} (h : fX7 V o) : o + 1 < V.1 := h.2.1.2.1
theorem fX7_all_t {V : Vt} {o : Nat} (h : fX7 V o) : V.2.1 (o + 1) = 13 := h.2.1.2.2.1
theorem fX7_all_n {V : Vt} {o : Nat} (h : fX7 V o) : V.2.2.1 (o + 1) = 400 := h.2.1.2.2.2
theorem fX7_plainOctets {V : Vt} {o : Nat} (h : fX7 V o) : V.2.2.2 o 1 = some (o + 2) := h.2.2.1.1
theorem fX7_plainOctets_l {V : Vt} {o : Nat} (h : fX7 V o) : o + 2 < V.1 := h.2.2.1.2.1
theorem fX7_plainOctets_t {V : Vt} {o : Nat} (h : fX7 V o) : V.2.1 (o + 2) = 12 := h.2.2.1.2.2.1
theorem fX7_plainOctets_n {V : Vt} {o : Nat} (h : fX7 V o) : V.2.2.1 (o + 2) = 1024 := h.2.2.1.2.2.2
theorem fX7_doneOf {V : Vt} {o : Nat} (h : fX7 V o) : V.2.2.2 o 2 = some (o + 3) := h.2.2.2.1.1
theorem fX7_doneOf_l {V : Vt} {o : Nat} (h : fX7 V o) : o + 3 < V.1 := h.2.2.2.1.2.1
theorem fX7_doneOf_t {V : Vt} {o : Nat} (h : fX7 V o) : V.2.1 (o + 3) = 12 := h.2.2.2.1.2.2.1
theorem fX7_doneOf_n {V : Vt} {o : Nat} (h : fX7 V o) : V.2.2.1 (o + 3) = 4 := h.2.2.2.1.2.2.2
theorem fX7_worstWaits {V : Vt} {o : Nat} (h : fX7 V o) : V.2.2.2 o 3 = some (o + 4) := h.2.2.2.2.1
theorem fX7_worstWaits_l {V : Vt} {o : Nat} (h : fX7 V o) : o + 4 < V.1 := h.2.2.2.2.2.1
theorem fX7_worstWaits_t {V : Vt} {o : Nat} (h : fX7 V o) : V.2.1 (o + 4) = 12 := h.2.2.2.2.2.2.1
theorem fX7_worstWaits_n {V : Vt} {o : Nat} (h : fX7 V o) : V.2.2.1 (o + 4) = 4 := h.2.2.2.2.2.2.2
def fX1 (V : Vt) (o : Nat) : Prop := (o < V.1 ∧ V.2.1 o = 0) ∧ (V.2.2.2 o 0 = some (o + 1) ∧ o + 1 < V.1 ∧ V.2.1 (o + 1) = 12 ∧ V.2.2.1 (o + 1) = 400) ∧ (V.2.2.2 o 1 = some (o + 2) ∧ o + 2 < V.1 ∧ V.2.1 (o + 2) = 12 ∧ V.2.2.1 (o + 2) = 400) ∧ (V.2.2.2 o 2 = some (o + 3) ∧ o + 3 < V.1 ∧ V.2.1 (o + 3) = 12 ∧ V.2.2.1 (o + 3) = 400) ∧ (V.2.2.2 o 3 = some (o + 4) ∧ o + 4 < V.1 ∧ V.2.1 (o + 4) = 12 ∧ V.2.2.1 (o + 4) = 400) ∧ (V.2.2.2 o 4 = some (o + 5) ∧ o + 5 < V.1 ∧ V.2.1 (o + 5) = 12 ∧ V.2.2.1 (o + 5) = 400) ∧ (V.2.2.2 o 5 = some (o + 6) ∧ o + 6 < V.1 ∧ V.2.1 (o + 6) = 12 ∧ V.2.2.1 (o + 6) = 400) ∧ (V.2.2.2 o 6 = some (o + 7) ∧ fX5 V (o + 7))
theorem fX1_o {V : Vt} {o : Nat} (h : fX1 V o) : o < V.1 := h.1.1
theorem fX1_c {V : Vt} {o : Nat} (h : fX1 V o) : V.2.1 o = 0 := h.1.2
theorem fX1_ticks {V : Vt} {o : Nat} (h : fX1 V o) : V.2.2.2 o 0 = some (o + 1) := h.2.1.1
theorem fX1_ticks_l {V : Vt} {o : Nat} (h : fX1 V o) : o + 1 < V.1 := h.2.1.2.1
theorem fX1_ticks_t {V : Vt} {o : Nat} (h : fX1 V o) : V.2.1 (o + 1) = 12 := h.2.1.2.2.1
theorem fX1_ticks_n {V : Vt} {o : Nat} (h : fX1 V o) : V.2.2.1 (o + 1) = 400 := h.2.1.2.2.2
theorem fX1_forged {V : Vt} {o : Nat} (h : fX1 V o) : V.2.2.2 o 1 = some (o + 2) := h.2.2.1.1
theorem fX1_forged_l {V : Vt} {o : Nat} (h : fX1 V o) : o + 2 < V.1 := h.2.2.1.2.1
theorem fX1_forged_t {V : Vt} {o : Nat} (h : fX1 V o) : V.2.1 (o + 2) = 12 := h.2.2.1.2.2.1
theorem fX1_forged_n {V : Vt} {o : Nat} (h : fX1 V o) : V.2.2.1 (o + 2) = 400 := h.2.2.1.2.2.2
theorem fX1_which {V : Vt} {o : Nat} (h : fX1 V o) : V.2.2.2 o 2 = some (o + 3) := h.2.2.2.1.1
theorem fX1_which_l {V : Vt} {o : Nat} (h : fX1 V o) : o + 3 < V.1 := h.2.2.2.1.2.1
theorem fX1_which_t {V : Vt} {o : Nat} (h : fX1 V o) : V.2.1 (o + 3) = 12 := h.2.2.2.1.2.2.1
theorem fX1_which_n {V : Vt} {o : Nat} (h : fX1 V o) : V.2.2.1 (o + 3) = 400 := h.2.2.2.1.2.2.2
theorem fX1_banks {V : Vt} {o : Nat} (h : fX1 V o) : V.2.2.2 o 3 = some (o + 4) := h.2.2.2.2.1.1
theorem fX1_banks_l {V : Vt} {o : Nat} (h : fX1 V o) : o + 4 < V.1 := h.2.2.2.2.1.2.1
theorem fX1_banks_t {V : Vt} {o : Nat} (h : fX1 V o) : V.2.1 (o + 4) = 12 := h.2.2.2.2.1.2.2.1
theorem fX1_banks_n {V : Vt} {o : Nat} (h : fX1 V o) : V.2.2.1 (o + 4) = 400 := h.2.2.2.2.1.2.2.2
theorem fX1_wheres {V : Vt} {o : Nat} (h : fX1 V o) : V.2.2.2 o 4 = some (o + 5) := h.2.2.2.2.2.1.1
theorem fX1_wheres_l {V : Vt} {o : Nat} (h : fX1 V o) : o + 5 < V.1 := h.2.2.2.2.2.1.2.1
theorem fX1_wheres_t {V : Vt} {o : Nat} (h : fX1 V o) : V.2.1 (o + 5) = 12 := h.2.2.2.2.2.1.2.2.1
theorem fX1_wheres_n {V : Vt} {o : Nat} (h : fX1 V o) : V.2.2.1 (o + 5) = 400 := h.2.2.2.2.2.1.2.2.2
theorem fX1_asks {V : Vt} {o : Nat} (h : fX1 V o) : V.2.2.2 o 5 = some (o + 6) := h.2.2.2.2.2.2.1.1
theorem fX1_asks_l {V : Vt} {o : Nat} (h : fX1 V o) : o + 6 < V.1 := h.2.2.2.2.2.2.1.2.1
theorem fX1_asks_t {V : Vt} {o : Nat} (h : fX1 V o) : V.2.1 (o + 6) = 12 := h.2.2.2.2.2.2.1.2.2.1
theorem fX1_asks_n {V : Vt} {o : Nat} (h : fX1 V o) : V.2.2.1 (o + 6) = 400 := h.2.2.2.2.2.2.1.2.2.2
theorem fX1_checked {V : Vt} {o : Nat} (h : fX1 V o) : V.2.2.2 o 6 = some (o + 7) := h.2.2.2.2.2.2.2.1
theorem fX1_checked_s {V : Vt} {o : Nat} (h : fX1 V o) : fX5 V (o + 7) := h.2.2.2.2.2.2.2.2
def fX11 (V : Vt) (o : Nat) : Prop := (o < V.1 ∧ V.2.1 o = 10) ∧ (V.2.2.2 o 0 = some (o + 1) ∧ o + 1 < V.1 ∧ V.2.1 (o + 1) = 12 ∧ V.2.2.1 (o + 1) = 13) ∧ (V.2.2.2 o 1 = some (o + 2) ∧ fX5 V (o + 2)) ∧ (V.2.2.2 o 2 = some (o + 10) ∧ fX1 V (o + 10)) ∧ (V.2.2.2 o 3 = some (o + 25) ∧ fX4 V (o + 25)) ∧ (V.2.2.2 o 4 = some (o + 28) ∧ fX7 V (o + 28)) ∧ (V.2.2.2 o 5 = some (o + 33) ∧ o + 33 < V.1 ∧ V.2.1 (o + 33) = 14 ∧ V.2.2.1 (o + 33) = 8)
theorem fX11_o {V : Vt} {o : Nat} (h : fX11 V o) : o < V.1 := h.1.1
theorem fX11_c {V : Vt} {o : Nat} (h : fX11 V o) : V.2.1 o = 10 := h.1.2
theorem fX11_times {V : Vt} {o : Nat} (h : fX11 V o) : V.2.2.2 o 0 = some (o + 1) := h.2.1.1
theorem fX11_times_l {V : Vt} {o : Nat} (h : fX11 V o) : o + 1 < V.1 := h.2.1.2.1
theorem fX11_times_t {V : Vt} {o : Nat} (h : fX11 V o) : V.2.1 (o + 1) = 12 := h.2.1.2.2.1
theorem fX11_times_n {V : Vt} {o : Nat} (h : fX11 V o) : V.2.2.1 (o + 1) = 13 := h.2.1.2.2.2
theorem fX11_past {V : Vt} {o : Nat} (h : fX11 V o) : V.2.2.2 o 1 = some (o + 2) := h.2.2.1.1
theorem fX11_past_s {V : Vt} {o : Nat} (h : fX11 V o) : fX5 V (o + 2) := h.2.2.1.2
theorem fX11_commandLog {V : Vt} {o : Nat} (h : fX11 V o) : V.2.2.2 o 2 = some (o + 10) := h.2.2.2.1.1
theorem fX11_commandLog_s {V : Vt} {o : Nat} (h : fX11 V o) : fX1 V (o + 10) := h.2.2.2.1.2
theorem fX11_memory {V : Vt} {o : Nat} (h : fX11 V o) : V.2.2.2 o 3 = some (o + 25) := h.2.2.2.2.1.1
theorem fX11_memory_s {V : Vt} {o : Nat} (h : fX11 V o) : fX4 V (o + 25) := h.2.2.2.2.1.2
theorem fX11_queue {V : Vt} {o : Nat} (h : fX11 V o) : V.2.2.2 o 4 = some (o + 28) := h.2.2.2.2.2.1.1
theorem fX11_queue_s {V : Vt} {o : Nat} (h : fX11 V o) : fX7 V (o + 28) := h.2.2.2.2.2.1.2
theorem fX11_shelves {V : Vt} {o : Nat} (h : fX11 V o) : V.2.2.2 o 5 = some (o + 33) := h.2.2.2.2.2.2.1
theorem fX11_shelves_l {V : Vt} {o : Nat} (h : fX11 V o) : o + 33 < V.1 := h.2.2.2.2.2.2.2.1
theorem fX11_shelves_t {V : Vt} {o : Nat} (h : fX11 V o) : V.2.1 (o + 33) = 14 := h.2.2.2.2.2.2.2.2.1
theorem fX11_shelves_n {V : Vt} {o : Nat} (h : fX11 V o) : V.2.2.1 (o + 33) = 8 := h.2.2.2.2.2.2.2.2.2
def fX12 (V : Vt) (o : Nat) : Prop := (o < V.1 ∧ V.2.1 o = 11) ∧ (V.2.2.2 o 1 = some (o + 1) ∧ o + 1 < V.1 ∧ V.2.1 (o + 1) = 12 ∧ V.2.2.1 (o + 1) = 13) ∧ (V.2.2.2 o 11 = some (o + 2) ∧ o + 2 < V.1 ∧ V.2.1 (o + 2) = 12 ∧ V.2.2.1 (o + 2) = 4) ∧ (V.2.2.2 o 12 = some (o + 3) ∧ o + 3 < V.1 ∧ V.2.1 (o + 3) = 12 ∧ V.2.2.1 (o + 3) = 1024) ∧ (V.2.2.2 o 15 = some (o + 4) ∧ o + 4 < V.1 ∧ V.2.1 (o + 4) = 12 ∧ V.2.2.1 (o + 4) = 400) ∧ (V.2.2.2 o 16 = some (o + 5) ∧ o + 5 < V.1 ∧ V.2.1 (o + 5) = 12 ∧ V.2.2.1 (o + 5) = 400) ∧ (V.2.2.2 o 17 = some (o + 6) ∧ o + 6 < V.1 ∧ V.2.1 (o + 6) = 12 ∧ V.2.2.1 (o + 6) = 400) ∧ (V.2.2.2 o 18 = some (o + 7) ∧ o + 7 < V.1 ∧ V.2.1 (o + 7) = 12 ∧ V.2.2.1 (o + 7) = 400) ∧ (V.2.2.2 o 19 = some (o + 8) ∧ o + 8 < V.1 ∧ V.2.1 (o + 8) = 12 ∧ V.2.2.1 (o + 8) = 400) ∧ (V.2.2.2 o 20 = some (o + 9) ∧ o + 9 < V.1 ∧ V.2.1 (o + 9) = 12 ∧ V.2.2.1 (o + 9) = 400) ∧ (V.2.2.2 o 21 = some (o + 10) ∧ o + 10 < V.1 ∧ V.2.1 (o + 10) = 12 ∧ V.2.2.1 (o + 10) = 400) ∧ (V.2.2.2 o 22 = some (o + 11) ∧ o + 11 < V.1 ∧ V.2.1 (o + 11) = 12 ∧ V.2.2.1 (o + 11) = 400) ∧ (V.2.2.2 o 23 = some (o + 12) ∧ o + 12 < V.1 ∧ V.2.1 (o + 12) = 12 ∧ V.2.2.1 (o + 12) = 4) ∧ (V.2.2.2 o 27 = some (o + 13) ∧ o + 13 < V.1 ∧ V.2.1 (o + 13) = 12 ∧ V.2.2.1 (o + 13) = 40) ∧ (V.2.2.2 o 28 = some (o + 14) ∧ o + 14 < V.1 ∧ V.2.1 (o + 14) = 12 ∧ V.2.2.1 (o + 14) = 40) ∧ (V.2.2.2 o 29 = some (o + 15) ∧ o + 15 < V.1 ∧ V.2.1 (o + 15) = 12 ∧ V.2.2.1 (o + 15) = 40) ∧ (V.2.2.2 o 31 = some (o + 16) ∧ o + 16 < V.1 ∧ V.2.1 (o + 16) = 12 ∧ V.2.2.1 (o + 16) = 400) ∧ (V.2.2.2 o 32 = some (o + 17) ∧ o + 17 < V.1 ∧ V.2.1 (o + 17) = 12 ∧ V.2.2.1 (o + 17) = 400) ∧ (V.2.2.2 o 33 = some (o + 18) ∧ o + 18 < V.1 ∧ V.2.1 (o + 18) = 12 ∧ V.2.2.1 (o + 18) = 400) ∧ (V.2.2.2 o 34 = some (o + 19) ∧ o + 19 < V.1 ∧ V.2.1 (o + 19) = 12 ∧ V.2.2.1 (o + 19) = 400) ∧ (V.2.2.2 o 35 = some (o + 20) ∧ o + 20 < V.1 ∧ V.2.1 (o + 20) = 12 ∧ V.2.2.1 (o + 20) = 400) ∧ (V.2.2.2 o 36 = some (o + 21) ∧ o + 21 < V.1 ∧ V.2.1 (o + 21) = 12 ∧ V.2.2.1 (o + 21) = 400) ∧ (V.2.2.2 o 38 = some (o + 22) ∧ o + 22 < V.1 ∧ V.2.1 (o + 22) = 12 ∧ V.2.2.1 (o + 22) = 12) ∧ (V.2.2.2 o 43 = some (o + 23) ∧ o + 23 < V.1 ∧ V.2.1 (o + 23) = 12 ∧ V.2.2.1 (o + 23) = 400) ∧ (V.2.2.2 o 44 = some (o + 24) ∧ o + 24 < V.1 ∧ V.2.1 (o + 24) = 12 ∧ V.2.2.1 (o + 24) = 1024) ∧ (V.2.2.2 o 45 = some (o + 25) ∧ o + 25 < V.1 ∧ V.2.1 (o + 25) = 12 ∧ V.2.2.1 (o + 25) = 8) ∧ (V.2.2.2 o 46 = some (o + 26) ∧ o + 26 < V.1 ∧ V.2.1 (o + 26) = 12 ∧ V.2.2.1 (o + 26) = 8) ∧ (V.2.2.2 o 47 = some (o + 27) ∧ o + 27 < V.1 ∧ V.2.1 (o + 27) = 12 ∧ V.2.2.1 (o + 27) = 8) ∧ (V.2.2.2 o 48 = some (o + 28) ∧ o + 28 < V.1 ∧ V.2.1 (o + 28) = 12 ∧ V.2.2.1 (o + 28) = 480) ∧ (V.2.2.2 o 49 = some (o + 29) ∧ o + 29 < V.1 ∧ V.2.1 (o + 29) = 12 ∧ V.2.2.1 (o + 29) = 60)
theorem fX12_o {V : Vt} {o : Nat} (h : fX12 V o) : o < V.1 := h.1.1
theorem fX12_c {V : Vt} {o : Nat} (h : fX12 V o) : V.2.1 o = 11 := h.1.2
theorem fX12_time {V : Vt} {o : Nat} (h : fX12 V o) : V.2.2.2 o 1 = some (o + 1) := h.2.1.1
theorem fX12_time_l {V : Vt} {o : Nat} (h : fX12 V o) : o + 1 < V.1 := h.2.1.2.1
theorem fX12_time_t {V : Vt} {o : Nat} (h : fX12 V o) : V.2.1 (o + 1) = 12 := h.2.1.2.2.1
theorem fX12_time_n {V : Vt} {o : Nat} (h : fX12 V o) : V.2.2.1 (o + 1) = 13 := h.2.1.2.2.2
theorem fX12_row {V : Vt} {o : Nat} (h : fX12 V o) : V.2.2.2 o 11 = some (o + 2) := h.2.2.1.1
theorem fX12_row_l {V : Vt} {o : Nat} (h : fX12 V o) : o + 2 < V.1 := h.2.2.1.2.1
theorem fX12_row_t {V : Vt} {o : Nat} (h : fX12 V o) : V.2.1 (o + 2) = 12 := h.2.2.1.2.2.1
theorem fX12_row_n {V : Vt} {o : Nat} (h : fX12 V o) : V.2.2.1 (o + 2) = 4 := h.2.2.1.2.2.2
theorem fX12_memory {V : Vt} {o : Nat} (h : fX12 V o) : V.2.2.2 o 12 = some (o + 3) := h.2.2.2.1.1
theorem fX12_memory_l {V : Vt} {o : Nat} (h : fX12 V o) : o + 3 < V.1 := h.2.2.2.1.2.1
theorem fX12_memory_t {V : Vt} {o : Nat} (h : fX12 V o) : V.2.1 (o + 3) = 12 := h.2.2.2.1.2.2.1
theorem fX12_memory_n {V : Vt} {o : Nat} (h : fX12 V o) : V.2.2.1 (o + 3) = 1024 := h.2.2.2.1.2.2.2
theorem fX12_kind {V : Vt} {o : Nat} (h : fX12 V o) : V.2.2.2 o 15 = some (o + 4) := h.2.2.2.2.1.1
theorem fX12_kind_l {V : Vt} {o : Nat} (h : fX12 V o) : o + 4 < V.1 := h.2.2.2.2.1.2.1
theorem fX12_kind_t {V : Vt} {o : Nat} (h : fX12 V o) : V.2.1 (o + 4) = 12 := h.2.2.2.2.1.2.2.1
theorem fX12_kind_n {V : Vt} {o : Nat} (h : fX12 V o) : V.2.2.1 (o + 4) = 400 := h.2.2.2.2.1.2.2.2
theorem fX12_asker {V : Vt} {o : Nat} (h : fX12 V o) : V.2.2.2 o 16 = some (o + 5) := h.2.2.2.2.2.1.1
theorem fX12_asker_l {V : Vt} {o : Nat} (h : fX12 V o) : o + 5 < V.1 := h.2.2.2.2.2.1.2.1
theorem fX12_asker_t {V : Vt} {o : Nat} (h : fX12 V o) : V.2.1 (o + 5) = 12 := h.2.2.2.2.2.1.2.2.1
theorem fX12_asker_n {V : Vt} {o : Nat} (h : fX12 V o) : V.2.2.1 (o + 5) = 400 := h.2.2.2.2.2.1.2.2.2
theorem fX12_address {V : Vt} {o : Nat} (h : fX12 V o) : V.2.2.2 o 17 = some (o + 6) := h.2.2.2.2.2.2.1.1
theorem fX12_address_l {V : Vt} {o : Nat} (h : fX12 V o) : o + 6 < V.1 := h.2.2.2.2.2.2.1.2.1
theorem fX12_address_t {V : Vt} {o : Nat} (h : fX12 V o) : V.2.1 (o + 6) = 12 := h.2.2.2.2.2.2.1.2.2.1
theorem fX12_address_n {V : Vt} {o : Nat} (h : fX12 V o) : V.2.2.1 (o + 6) = 400 := h.2.2.2.2.2.2.1.2.2.2
theorem fX12_value {V : Vt} {o : Nat} (h : fX12 V o) : V.2.2.2 o 18 = some (o + 7) := h.2.2.2.2.2.2.2.1.1
theorem fX12_value_l {V : Vt} {o : Nat} (h : fX12 V o) : o + 7 < V.1 := h.2.2.2.2.2.2.2.1.2.1
theorem fX12_value_t {V : Vt} {o : Nat} (h : fX12 V o) : V.2.1 (o + 7) = 12 := h.2.2.2.2.2.2.2.1.2.2.1
theorem fX12_value_n {V : Vt} {o : Nat} (h : fX12 V o) : V.2.2.1 (o + 7) = 400 := h.2.2.2.2.2.2.2.1.2.2.2
theorem fX12_bits {V : Vt} {o : Nat} (h : fX12 V o) : V.2.2.2 o 19 = some (o + 8) := h.2.2.2.2.2.2.2.2.1.1
theorem fX12_bits_l {V : Vt} {o : Nat} (h : fX12 V o) : o + 8 < V.1 := h.2.2.2.2.2.2.2.2.1.2.1
theorem fX12_bits_t {V : Vt} {o : Nat} (h : fX12 V o) : V.2.1 (o + 8) = 12 := h.2.2.2.2.2.2.2.2.1.2.2.1
theorem fX12_bits_n {V : Vt} {o : Nat} (h : fX12 V o) : V.2.2.1 (o + 8) = 400 := h.2.2.2.2.2.2.2.2.1.2.2.2
theorem fX12_came {V : Vt} {o : Nat} (h : fX12 V o) : V.2.2.2 o 20 = some (o + 9) := h.2.2.2.2.2.2.2.2.2.1.1
theorem fX12_came_l {V : Vt} {o : Nat} (h : fX12 V o) : o + 9 < V.1 := h.2.2.2.2.2.2.2.2.2.1.2.1
theorem fX12_came_t {V : Vt} {o : Nat} (h : fX12 V o) : V.2.1 (o + 9) = 12 := h.2.2.2.2.2.2.2.2.2.1.2.2.1
theorem fX12_came_n {V : Vt} {o : Nat} (h : fX12 V o) : V.2.2.1 (o + 9) = 400 := h.2.2.2.2.2.2.2.2.2.1.2.2.2
theorem fX12_done {V : Vt} {o : Nat} (h : fX12 V o) : V.2.2.2 o 21 = some (o + 10) := h.2.2.2.2.2.2.2.2.2.2.1.1
theorem fX12_done_l {V : Vt} {o : Nat} (h : fX12 V o) : o + 10 < V.1 := h.2.2.2.2.2.2.2.2.2.2.1.2.1
theorem fX12_done_t {V : Vt} {o : Nat} (h : fX12 V o) : V.2.1 (o + 10) = 12 := h.2.2.2.2.2.2.2.2.2.2.1.2.2.1
theorem fX12_done_n {V : Vt} {o : Nat} (h : fX12 V o) : V.2.2.1 (o + 10) = 400 := h.2.2.2.2.2.2.2.2.2.2.1.2.2.2
theorem fX12_answer {V : Vt} {o : Nat} (h : fX12 V o) : V.2.2.2 o 22 = some (o + 11) := h.2.2.2.2.2.2.2.2.2.2.2.1.1
theorem fX12_answer_l {V : Vt} {o : Nat} (h : fX12 V o) : o + 11 < V.1 := h.2.2.2.2.2.2.2.2.2.2.2.1.2.1
theorem fX12_answer_t {V : Vt} {o : Nat} (h : fX12 V o) : V.2.1 (o + 11) = 12 := h.2.2.2.2.2.2.2.2.2.2.2.1.2.2.1
theorem fX12_answer_n {V : Vt} {o : Nat} (h : fX12 V o) : V.2.2.1 (o + 11) = 400 := h.2.2.2.2.2.2.2.2.2.2.2.1.2.2.2
theorem fX12_doneOf {V : Vt} {o : Nat} (h : fX12 V o) : V.2.2.2 o 23 = some (o + 12) := h.2.2.2.2.2.2.2.2.2.2.2.2.1.1
theorem fX12_doneOf_l {V : Vt} {o : Nat} (h : fX12 V o) : o + 12 < V.1 := h.2.2.2.2.2.2.2.2.2.2.2.2.1.2.1
theorem fX12_doneOf_t {V : Vt} {o : Nat} (h : fX12 V o) : V.2.1 (o + 12) = 12 := h.2.2.2.2.2.2.2.2.2.2.2.2.1.2.2.1
theorem fX12_doneOf_n {V : Vt} {o : Nat} (h : fX12 V o) : V.2.2.1 (o + 12) = 4 := h.2.2.2.2.2.2.2.2.2.2.2.2.1.2.2.2
theorem fX12_recentTick {V : Vt} {o : Nat} (h : fX12 V o) : V.2.2.2 o 27 = some (o + 13) := h.2.2.2.2.2.2.2.2.2.2.2.2.2.1.1
theorem fX12_recentTick_l {V : Vt} {o : Nat} (h : fX12 V o) : o + 13 < V.1 := h.2.2.2.2.2.2.2.2.2.2.2.2.2.1.2.1
theorem fX12_recentTick_t {V : Vt} {o : Nat} (h : fX12 V o) : V.2.1 (o + 13) = 12 := h.2.2.2.2.2.2.2.2.2.2.2.2.2.1.2.2.1
theorem fX12_recentTick_n {V : Vt} {o : Nat} (h : fX12 V o) : V.2.2.1 (o + 13) = 40 := h.2.2.2.2.2.2.2.2.2.2.2.2.2.1.2.2.2
theorem fX12_recentWhat {V : Vt} {o : Nat} (h : fX12 V o) : V.2.2.2 o 28 = some (o + 14) := h.2.2.2.2.2.2.2.2.2.2.2.2.2.2.1.1
theorem fX12_recentWhat_l {V : Vt} {o : Nat} (h : fX12 V o) : o + 14 < V.1 := h.2.2.2.2.2.2.2.2.2.2.2.2.2.2.1.2.1
theorem fX12_recentWhat_t {V : Vt} {o : Nat} (h : fX12 V o) : V.2.1 (o + 14) = 12 := h.2.2.2.2.2.2.2.2.2.2.2.2.2.2.1.2.2.1
theorem fX12_recentWhat_n {V : Vt} {o : Nat} (h : fX12 V o) : V.2.2.1 (o + 14) = 40 := h.2.2.2.2.2.2.2.2.2.2.2.2.2.2.1.2.2.2
theorem fX12_recentBank {V : Vt} {o : Nat} (h : fX12 V o) : V.2.2.2 o 29 = some (o + 15) := h.2.2.2.2.2.2.2.2.2.2.2.2.2.2.2.1.1
theorem fX12_recentBank_l {V : Vt} {o : Nat} (h : fX12 V o) : o + 15 < V.1 := h.2.2.2.2.2.2.2.2.2.2.2.2.2.2.2.1.2.1
theorem fX12_recentBank_t {V : Vt} {o : Nat} (h : fX12 V o) : V.2.1 (o + 15) = 12 := h.2.2.2.2.2.2.2.2.2.2.2.2.2.2.2.1.2.2.1
theorem fX12_recentBank_n {V : Vt} {o : Nat} (h : fX12 V o) : V.2.2.1 (o + 15) = 40 := h.2.2.2.2.2.2.2.2.2.2.2.2.2.2.2.1.2.2.2
theorem fX12_logTick {V : Vt} {o : Nat} (h : fX12 V o) : V.2.2.2 o 31 = some (o + 16) := h.2.2.2.2.2.2.2.2.2.2.2.2.2.2.2.2.1.1
theorem fX12_logTick_l {V : Vt} {o : Nat} (h : fX12 V o) : o + 16 < V.1 := h.2.2.2.2.2.2.2.2.2.2.2.2.2.2.2.2.1.2.1
theorem fX12_logTick_t {V : Vt} {o : Nat} (h : fX12 V o) : V.2.1 (o + 16) = 12 := h.2.2.2.2.2.2.2.2.2.2.2.2.2.2.2.2.1.2.2.1
theorem fX12_logTick_n {V : Vt} {o : Nat} (h : fX12 V o) : V.2.2.1 (o + 16) = 400 := h.2.2.2.2.2.2.2.2.2.2.2.2.2.2.2.2.1.2.2.2
theorem fX12_logForged {V : Vt} {o : Nat} (h : fX12 V o) : V.2.2.2 o 32 = some (o + 17) := h.2.2.2.2.2.2.2.2.2.2.2.2.2.2.2.2.2.1.1
theorem fX12_logForged_l {V : Vt} {o : Nat} (h : fX12 V o) : o + 17 < V.1 := h.2.2.2.2.2.2.2.2.2.2.2.2.2.2.2.2.2.1.2.1
theorem fX12_logForged_t {V : Vt} {o : Nat} (h : fX12 V o) : V.2.1 (o + 17) = 12 := h.2.2.2.2.2.2.2.2.2.2.2.2.2.2.2.2.2.1.2.2.1
theorem fX12_logForged_n {V : Vt} {o : Nat} (h : fX12 V o) : V.2.2.1 (o + 17) = 400 := h.2.2.2.2.2.2.2.2.2.2.2.2.2.2.2.2.2.1.2.2.2
theorem fX12_logWhat {V : Vt} {o : Nat} (h : fX12 V o) : V.2.2.2 o 33 = some (o + 18) := h.2.2.2.2.2.2.2.2.2.2.2.2.2.2.2.2.2.2.1.1
theorem fX12_logWhat_l {V : Vt} {o : Nat} (h : fX12 V o) : o + 18 < V.1 := h.2.2.2.2.2.2.2.2.2.2.2.2.2.2.2.2.2.2.1.2.1
theorem fX12_logWhat_t {V : Vt} {o : Nat} (h : fX12 V o) : V.2.1 (o + 18) = 12 := h.2.2.2.2.2.2.2.2.2.2.2.2.2.2.2.2.2.2.1.2.2.1
theorem fX12_logWhat_n {V : Vt} {o : Nat} (h : fX12 V o) : V.2.2.1 (o + 18) = 400 := h.2.2.2.2.2.2.2.2.2.2.2.2.2.2.2.2.2.2.1.2.2.2
theorem fX12_logBank {V : Vt} {o : Nat} (h : fX12 V o) : V.2.2.2 o 34 = some (o + 19) := h.2.2.2.2.2.2.2.2.2.2.2.2.2.2.2.2.2.2.2.1.1
theorem fX12_logBank_l {V : Vt} {o : Nat} (h : fX12 V o) : o + 19 < V.1 := h.2.2.2.2.2.2.2.2.2.2.2.2.2.2.2.2.2.2.2.1.2.1
theorem fX12_logBank_t {V : Vt} {o : Nat} (h : fX12 V o) : V.2.1 (o + 19) = 12 := h.2.2.2.2.2.2.2.2.2.2.2.2.2.2.2.2.2.2.2.1.2.2.1
theorem fX12_logBank_n {V : Vt} {o : Nat} (h : fX12 V o) : V.2.2.1 (o + 19) = 400 := h.2.2.2.2.2.2.2.2.2.2.2.2.2.2.2.2.2.2.2.1.2.2.2
theorem fX12_logPlace {V : Vt} {o : Nat} (h : fX12 V o) : V.2.2.2 o 35 = some (o + 20) := h.2.2.2.2.2.2.2.2.2.2.2.2.2.2.2.2.2.2.2.2.1.1
theorem fX12_logPlace_l {V : Vt} {o : Nat} (h : fX12 V o) : o + 20 < V.1 := h.2.2.2.2.2.2.2.2.2.2.2.2.2.2.2.2.2.2.2.2.1.2.1
theorem fX12_logPlace_t {V : Vt} {o : Nat} (h : fX12 V o) : V.2.1 (o + 20) = 12 := h.2.2.2.2.2.2.2.2.2.2.2.2.2.2.2.2.2.2.2.2.1.2.2.1
theorem fX12_logPlace_n {V : Vt} {o : Nat} (h : fX12 V o) : V.2.2.1 (o + 20) = 400 := h.2.2.2.2.2.2.2.2.2.2.2.2.2.2.2.2.2.2.2.2.1.2.2.2
theorem fX12_logAsk {V : Vt} {o : Nat} (h : fX12 V o) : V.2.2.2 o 36 = some (o + 21) := h.2.2.2.2.2.2.2.2.2.2.2.2.2.2.2.2.2.2.2.2.2.1.1
theorem fX12_logAsk_l {V : Vt} {o : Nat} (h : fX12 V o) : o + 21 < V.1 := h.2.2.2.2.2.2.2.2.2.2.2.2.2.2.2.2.2.2.2.2.2.1.2.1
theorem fX12_logAsk_t {V : Vt} {o : Nat} (h : fX12 V o) : V.2.1 (o + 21) = 12 := h.2.2.2.2.2.2.2.2.2.2.2.2.2.2.2.2.2.2.2.2.2.1.2.2.1
theorem fX12_logAsk_n {V : Vt} {o : Nat} (h : fX12 V o) : V.2.2.1 (o + 21) = 400 := h.2.2.2.2.2.2.2.2.2.2.2.2.2.2.2.2.2.2.2.2.2.1.2.2.2
theorem fX12_row0 {V : Vt} {o : Nat} (h : fX12 V o) : V.2.2.2 o 38 = some (o + 22) := h.2.2.2.2.2.2.2.2.2.2.2.2.2.2.2.2.2.2.2.2.2.2.1.1
theorem fX12_row0_l {V : Vt} {o : Nat} (h : fX12 V o) : o + 22 < V.1 := h.2.2.2.2.2.2.2.2.2.2.2.2.2.2.2.2.2.2.2.2.2.2.1.2.1
theorem fX12_row0_t {V : Vt} {o : Nat} (h : fX12 V o) : V.2.1 (o + 22) = 12 := h.2.2.2.2.2.2.2.2.2.2.2.2.2.2.2.2.2.2.2.2.2.2.1.2.2.1
theorem fX12_row0_n {V : Vt} {o : Nat} (h : fX12 V o) : V.2.2.1 (o + 22) = 12 := h.2.2.2.2.2.2.2.2.2.2.2.2.2.2.2.2.2.2.2.2.2.2.1.2.2.2
theorem fX12_kept {V : Vt} {o : Nat} (h : fX12 V o) : V.2.2.2 o 43 = some (o + 23) := h.2.2.2.2.2.2.2.2.2.2.2.2.2.2.2.2.2.2.2.2.2.2.2.1.1
theorem fX12_kept_l {V : Vt} {o : Nat} (h : fX12 V o) : o + 23 < V.1 := h.2.2.2.2.2.2.2.2.2.2.2.2.2.2.2.2.2.2.2.2.2.2.2.1.2.1
theorem fX12_kept_t {V : Vt} {o : Nat} (h : fX12 V o) : V.2.1 (o + 23) = 12 := h.2.2.2.2.2.2.2.2.2.2.2.2.2.2.2.2.2.2.2.2.2.2.2.1.2.2.1
theorem fX12_kept_n {V : Vt} {o : Nat} (h : fX12 V o) : V.2.2.1 (o + 23) = 400 := h.2.2.2.2.2.2.2.2.2.2.2.2.2.2.2.2.2.2.2.2.2.2.2.1.2.2.2
theorem fX12_plain {V : Vt} {o : Nat} (h : fX12 V o) : V.2.2.2 o 44 = some (o + 24) := h.2.2.2.2.2.2.2.2.2.2.2.2.2.2.2.2.2.2.2.2.2.2.2.2.1.1
theorem fX12_plain_l {V : Vt} {o : Nat} (h : fX12 V o) : o + 24 < V.1 := h.2.2.2.2.2.2.2.2.2.2.2.2.2.2.2.2.2.2.2.2.2.2.2.2.1.2.1
theorem fX12_plain_t {V : Vt} {o : Nat} (h : fX12 V o) : V.2.1 (o + 24) = 12 := h.2.2.2.2.2.2.2.2.2.2.2.2.2.2.2.2.2.2.2.2.2.2.2.2.1.2.2.1
theorem fX12_plain_n {V : Vt} {o : Nat} (h : fX12 V o) : V.2.2.1 (o + 24) = 1024 := h.2.2.2.2.2.2.2.2.2.2.2.2.2.2.2.2.2.2.2.2.2.2.2.2.1.2.2.2
theorem fX12_shelf {V : Vt} {o : Nat} (h : fX12 V o) : V.2.2.2 o 45 = some (o + 25) := h.2.2.2.2.2.2.2.2.2.2.2.2.2.2.2.2.2.2.2.2.2.2.2.2.2.1.1
theorem fX12_shelf_l {V : Vt} {o : Nat} (h : fX12 V o) : o + 25 < V.1 := h.2.2.2.2.2.2.2.2.2.2.2.2.2.2.2.2.2.2.2.2.2.2.2.2.2.1.2.1
theorem fX12_shelf_t {V : Vt} {o : Nat} (h : fX12 V o) : V.2.1 (o + 25) = 12 := h.2.2.2.2.2.2.2.2.2.2.2.2.2.2.2.2.2.2.2.2.2.2.2.2.2.1.2.2.1
theorem fX12_shelf_n {V : Vt} {o : Nat} (h : fX12 V o) : V.2.2.1 (o + 25) = 8 := h.2.2.2.2.2.2.2.2.2.2.2.2.2.2.2.2.2.2.2.2.2.2.2.2.2.1.2.2.2
theorem fX12_shelfSize {V : Vt} {o : Nat} (h : fX12 V o) : V.2.2.2 o 46 = some (o + 26) := h.2.2.2.2.2.2.2.2.2.2.2.2.2.2.2.2.2.2.2.2.2.2.2.2.2.2.1.1
theorem fX12_shelfSize_l {V : Vt} {o : Nat} (h : fX12 V o) : o + 26 < V.1 := h.2.2.2.2.2.2.2.2.2.2.2.2.2.2.2.2.2.2.2.2.2.2.2.2.2.2.1.2.1
theorem fX12_shelfSize_t {V : Vt} {o : Nat} (h : fX12 V o) : V.2.1 (o + 26) = 12 := h.2.2.2.2.2.2.2.2.2.2.2.2.2.2.2.2.2.2.2.2.2.2.2.2.2.2.1.2.2.1
theorem fX12_shelfSize_n {V : Vt} {o : Nat} (h : fX12 V o) : V.2.2.1 (o + 26) = 8 := h.2.2.2.2.2.2.2.2.2.2.2.2.2.2.2.2.2.2.2.2.2.2.2.2.2.2.1.2.2.2
theorem fX12_shelfAsk {V : Vt} {o : Nat} (h : fX12 V o) : V.2.2.2 o 47 = some (o + 27) := h.2.2.2.2.2.2.2.2.2.2.2.2.2.2.2.2.2.2.2.2.2.2.2.2.2.2.2.1.1
theorem fX12_shelfAsk_l {V : Vt} {o : Nat} (h : fX12 V o) : o + 27 < V.1 := h.2.2.2.2.2.2.2.2.2.2.2.2.2.2.2.2.2.2.2.2.2.2.2.2.2.2.2.1.2.1
theorem fX12_shelfAsk_t {V : Vt} {o : Nat} (h : fX12 V o) : V.2.1 (o + 27) = 12 := h.2.2.2.2.2.2.2.2.2.2.2.2.2.2.2.2.2.2.2.2.2.2.2.2.2.2.2.1.2.2.1
theorem fX12_shelfAsk_n {V : Vt} {o : Nat} (h : fX12 V o) : V.2.2.1 (o + 27) = 8 := h.2.2.2.2.2.2.2.2.2.2.2.2.2.2.2.2.2.2.2.2.2.2.2.2.2.2.2.1.2.2.2
theorem fX12_shelfRow {V : Vt} {o : Nat} (h : fX12 V o) : V.2.2.2 o 48 = some (o + 28) := h.2.2.2.2.2.2.2.2.2.2.2.2.2.2.2.2.2.2.2.2.2.2.2.2.2.2.2.2.1.1
theorem fX12_shelfRow_l {V : Vt} {o : Nat} (h : fX12 V o) : o + 28 < V.1 := h.2.2.2.2.2.2.2.2.2.2.2.2.2.2.2.2.2.2.2.2.2.2.2.2.2.2.2.2.1.2.1
theorem fX12_shelfRow_t {V : Vt} {o : Nat} (h : fX12 V o) : V.2.1 (o + 28) = 12 := h.2.2.2.2.2.2.2.2.2.2.2.2.2.2.2.2.2.2.2.2.2.2.2.2.2.2.2.2.1.2.2.1
theorem fX12_shelfRow_n {V : Vt} {o : Nat} (h : fX12 V o) : V.2.2.1 (o + 28) = 480 := h.2.2.2.2.2.2.2.2.2.2.2.2.2.2.2.2.2.2.2.2.2.2.2.2.2.2.2.2.1.2.2.2
theorem fX12_between {V : Vt} {o : Nat} (h : fX12 V o) : V.2.2.2 o 49 = some (o + 29) := h.2.2.2.2.2.2.2.2.2.2.2.2.2.2.2.2.2.2.2.2.2.2.2.2.2.2.2.2.2.1
theorem fX12_between_l {V : Vt} {o : Nat} (h : fX12 V o) : o + 29 < V.1 := h.2.2.2.2.2.2.2.2.2.2.2.2.2.2.2.2.2.2.2.2.2.2.2.2.2.2.2.2.2.2.1
theorem fX12_between_t {V : Vt} {o : Nat} (h : fX12 V o) : V.2.1 (o + 29) = 12 := h.2.2.2.2.2.2.2.2.2.2.2.2.2.2.2.2.2.2.2.2.2.2.2.2.2.2.2.2.2.2.2.1
theorem fX12_between_n {V : Vt} {o : Nat} (h : fX12 V o) : V.2.2.1 (o + 29) = 60 := h.2.2.2.2.2.2.2.2.2.2.2.2.2.2.2.2.2.2.2.2.2.2.2.2.2.2.2.2.2.2.2.2
end
section
def B_X5_countedFrom_15 (V : Vt) (o : Nat) (x1 : Int) (x2 : Int) (x3 : Int) (w0 : Int) (S : Me) (Q : Int → Me → Prop) : Prop := ((x1 = 0 → ((w0 = 0 → Q (-1000) S) ∧ (¬ w0 = 0 → (0 ≤ x3 ∧ x3 < 4) ∧ Q (S.1 (o + 1) (Int.toNat x3)) S))) ∧ (x1 = 1 → ((¬ x2 = 1 → Q (-1000) S) ∧ (x2 = 1 → (0 ≤ x3 ∧ x3 < 4) ∧ Q (S.1 (o + 1) (Int.toNat x3)) S))) ∧ (x1 = 2 → ((¬ x2 = 0 → Q (-1000) S) ∧ (x2 = 0 → (0 ≤ x3 ∧ x3 < 4) ∧ Q (S.1 (o + 3) (Int.toNat x3)) S))) ∧ (x1 = 3 → ((¬ x2 = 1 → Q (-1000) S) ∧ (x2 = 1 → (0 ≤ x3 ∧ x3 < 4) ∧ Q (S.1 (o + 4) (Int.toNat x3)) S))) ∧ (x1 = 4 → ((¬ x2 = 1 → Q (-1000) S) ∧ (x2 = 1 → (0 ≤ x3 ∧ x3 < 4) ∧ Q (S.1 (o + 5) (Int.toNat x3)) S))) ∧ (x1 = 5 → ((w0 = 0 → Q (-1000) S) ∧ (¬ w0 = 0 → (0 ≤ (Int.tdiv x3 2) ∧ (Int.tdiv x3 2) < 2) ∧ Q (S.1 (o + 6) (Int.toNat (Int.tdiv x3 2))) S))) ∧ (x1 = 6 → ((w0 = 0 → Q (-1000) S) ∧ (¬ w0 = 0 → (rng (1 - (Int.tdiv x3 2))) ∧ (0 ≤ (1 - (Int.tdiv x3 2)) ∧ (1 - (Int.tdiv x3 2)) < 2) ∧ Q (S.1 (o + 6) (Int.toNat (1 - (Int.tdiv x3 2)))) S))) ∧ (x1 = 7 → ((¬ x2 = 3 → Q (-1000) S) ∧ (x2 = 3 → Q (S.1 o 9) S))) ∧ (x1 = 8 → ((¬ x2 = 2 → Q (-1000) S) ∧ (x2 = 2 → Q (S.1 o 10) S))) ∧ (x1 = 9 → ((¬ x2 = 0 → Q (-1000) S) ∧ (x2 = 0 → (0 ≤ x3 ∧ x3 < 4) ∧ Q (S.1 (o + 2) (Int.toNat x3)) S))) ∧ (x1 = 10 → ((¬ x2 = 0 → Q (-1000) S) ∧ (x2 = 0 → (0 ≤ (Int.tmod (S.1 o 7) 4) ∧ (Int.tmod (S.1 o 7) 4) < 4) ∧ Q (S.1 (o + 7) (Int.toNat (Int.tmod (S.1 o 7) 4))) S))) ∧ (x1 = 11 → Q (S.1 o 11) S) ∧ (x1 = 12 → ((¬ x2 = 4 → Q (-1000) S) ∧ (x2 = 4 → Q (S.1 o 8) S))) ∧ ((x1 < 0 ∨ 12 < x1) → Q (-1000) S))
def B_X5_countedFrom_10 (V : Vt) (o : Nat) (x1 : Int) (x2 : Int) (x3 : Int) (S : Me) (Q : Int → Me → Prop) : Prop := B_X5_countedFrom_15 V o x1 x2 x3 1 S Q
def PT_X5_countedFrom (V : Vt) (o : Nat) (x1 : Int) (x2 : Int) (x3 : Int) (S : Me) (Q : Int → Me → Prop) : Prop := ((x2 = 2 → B_X5_countedFrom_10 V o x1 x2 x3 S Q) ∧ (¬ x2 = 2 → ((¬ x2 = 3 → B_X5_countedFrom_15 V o x1 x2 x3 0 S Q) ∧ (x2 = 3 → B_X5_countedFrom_10 V o x1 x2 x3 S Q))))
theorem hd_X5_countedFrom : yX5_countedFrom.cls ≠ "java/lang/invoke/MethodHandle" ∧ yX5_countedFrom.cls ≠ "java/lang/invoke/VarHandle" ∧ (parseMethodDescriptor yX5_countedFrom.desc).map (fun d => d.parameters.length) = some 3 := by decide +kernel
set_option maxHeartbeats 4000000 in
set_option maxRecDepth 100000 in
theorem c_X5_countedFrom (l : Launch) (D : va_G) (cy : ClassId × ClassId × ClassId) (ad : Nat → Nat) {V : Vt} {S : Me} {o : Nat} {x1 : Int} {x2 : Int} {x3 : Int} (hV : fX5 V o) (rx1 : rng x1) (rx2 : rng x2) (rx3 : rng x3) {Q : Int → Me → Prop} (h : PT_X5_countedFrom V o x1 x2 x3 S Q) : KM l D cy yX5_countedFrom cX5_countedFrom 5 (Option.some Jvm.ClassFile.FieldType.int) 0 0 ad V S [.inr (some o), .inl x1, .inl x2, .inl x3] (qI Q) := by
  refine KM.of (by decide) rfl (Nat.le_of_ble_eq_true rfl) (own := RX5) (fun p e s m args below meth c A ls H locs eA C hret hml hmn hl G => ?_)
  have hl : lo ad ls [some (.inr (some o)), some (.inl x1), some (.inl x2), some (.inl x3), none] := hl
  have b15 : ∀ (w0 : Int) (S : Me) (H : Heap) (locs : List Loc) (ls : Array Slot), rng w0 → lo ad ls [some (.inr (some o)), some (.inl x1), some (.inl x2), some (.inl x3), none] → Gy D cy A s.heap ad V S H locs → B_X5_countedFrom_15 V o x1 x2 x3 w0 S Q → W p l e (rmx 0 0) s m args below meth c H locs 0 0 (qm below D cy ad V A args s (qI Q)) (F0 m 15 ls [vI w0]) := by
    intro w0 S H locs ls rw0 hl G h
    unfold B_X5_countedFrom_15 at h
    refine gx_istore C hl dX5_countedFrom_15 (Nat.le_of_ble_eq_true rfl) (PL' := [some (.inr (some o)), some (.inl x1), some (.inl x2), some (.inl x3), some (.inl w0)]) rfl (fun ls hl => ?_)
    refine gx_iload_n C hl dX5_countedFrom_17 rfl ?_
    by_cases c4 : x1 = 0
    · refine gx_tableIn (tgt := 84) C rx1 dX5_countedFrom_18 0 c4 (by decide) (by decide) rfl (by decide) ?_
      have h := h.1 c4
      refine gx_iload C hl dX5_countedFrom_84 rfl ?_
      refine gx_if_eq (tgt := 98) C rw0 dX5_countedFrom_86 (by decide) (fun c1 => ?_) (fun c1 => ?_)
      · have h := h.1 c1
        refine gx_sipush C dX5_countedFrom_98 (by decide) ?_
        exact gx_iret C G hret (show rng (-1000) by decide) h dX5_countedFrom_101
      · have h := h.2 c1
        refine gx_aload_n C hl dX5_countedFrom_89 rfl ?_
        refine gx_getF C G rfl (fX5_o hV) (fo4_0 (fX5_c hV)) (fX5_opens hV) uw_44 (fun _ h9 => h9) dX5_countedFrom_90 ?_
        refine gx_iload_n C hl dX5_countedFrom_93 rfl ?_
        obtain ⟨h2, h⟩ := h
        refine gx_iald C G rfl (fX5_opens_l hV) (fX5_opens_t hV) rx3 h2.1 (ixl (fX5_opens_n hV) h2.2) dX5_countedFrom_94 ?_
        have r3 := G.r (o + 1) (Int.toNat x3)
        refine gx_goto (tgt := 101) C dX5_countedFrom_95 (by decide) ?_
        exact gx_iret C G hret r3 h dX5_countedFrom_101
    · by_cases c8 : x1 = 1
      · refine gx_tableIn (tgt := 102) C rx1 dX5_countedFrom_18 1 c8 (by decide) (by decide) rfl (by decide) ?_
        have h := h.2.1 c8
        refine gx_iload_n C hl dX5_countedFrom_102 rfl ?_
        refine gx_iconst C dX5_countedFrom_103 ?_
        refine gx_icmp_ne (tgt := 116) C rx2 (show rng 1 by decide) dX5_countedFrom_104 (by decide) (fun c5 => ?_) (fun c5 => ?_)
        · have h := h.1 c5
          refine gx_sipush C dX5_countedFrom_116 (by decide) ?_
          exact gx_iret C G hret (show rng (-1000) by decide) h dX5_countedFrom_119
        · have h := h.2 c5
          refine gx_aload_n C hl dX5_countedFrom_107 rfl ?_
          refine gx_getF C G rfl (fX5_o hV) (fo4_0 (fX5_c hV)) (fX5_opens hV) uw_44 (fun _ h9 => h9) dX5_countedFrom_108 ?_
          refine gx_iload_n C hl dX5_countedFrom_111 rfl ?_
          obtain ⟨h6, h⟩ := h
          refine gx_iald C G rfl (fX5_opens_l hV) (fX5_opens_t hV) rx3 h6.1 (ixl (fX5_opens_n hV) h6.2) dX5_countedFrom_112 ?_
          have r7 := G.r (o + 1) (Int.toNat x3)
          refine gx_goto (tgt := 119) C dX5_countedFrom_113 (by decide) ?_
          exact gx_iret C G hret r7 h dX5_countedFrom_119
      · by_cases c12 : x1 = 2
        · refine gx_tableIn (tgt := 120) C rx1 dX5_countedFrom_18 2 c12 (by decide) (by decide) rfl (by decide) ?_
          have h := h.2.2.1 c12
          refine gx_iload_n C hl dX5_countedFrom_120 rfl ?_
          refine gx_if_ne (tgt := 133) C rx2 dX5_countedFrom_121 (by decide) (fun c9 => ?_) (fun c9 => ?_)
          · have h := h.1 c9
            refine gx_sipush C dX5_countedFrom_133 (by decide) ?_
            exact gx_iret C G hret (show rng (-1000) by decide) h dX5_countedFrom_136
          · have h := h.2 c9
            refine gx_aload_n C hl dX5_countedFrom_124 rfl ?_
            refine gx_getF C G rfl (fX5_o hV) (fo4_2 (fX5_c hV)) (fX5_shuts hV) uw_46 (fun _ h9 => h9) dX5_countedFrom_125 ?_
            refine gx_iload_n C hl dX5_countedFrom_128 rfl ?_
            obtain ⟨h10, h⟩ := h
            refine gx_iald C G rfl (fX5_shuts_l hV) (fX5_shuts_t hV) rx3 h10.1 (ixl (fX5_shuts_n hV) h10.2) dX5_countedFrom_129 ?_
            have r11 := G.r (o + 3) (Int.toNat x3)
            refine gx_goto (tgt := 136) C dX5_countedFrom_130 (by decide) ?_
            exact gx_iret C G hret r11 h dX5_countedFrom_136
        · by_cases c16 : x1 = 3
          · refine gx_tableIn (tgt := 137) C rx1 dX5_countedFrom_18 3 c16 (by decide) (by decide) rfl (by decide) ?_
            have h := h.2.2.2.1 c16
            refine gx_iload_n C hl dX5_countedFrom_137 rfl ?_
            refine gx_iconst C dX5_countedFrom_138 ?_
            refine gx_icmp_ne (tgt := 151) C rx2 (show rng 1 by decide) dX5_countedFrom_139 (by decide) (fun c13 => ?_) (fun c13 => ?_)
            · have h := h.1 c13
              refine gx_sipush C dX5_countedFrom_151 (by decide) ?_
              exact gx_iret C G hret (show rng (-1000) by decide) h dX5_countedFrom_154
            · have h := h.2 c13
              refine gx_aload_n C hl dX5_countedFrom_142 rfl ?_
              refine gx_getF C G rfl (fX5_o hV) (fo4_3 (fX5_c hV)) (fX5_reads hV) uw_47 (fun _ h9 => h9) dX5_countedFrom_143 ?_
              refine gx_iload_n C hl dX5_countedFrom_146 rfl ?_
              obtain ⟨h14, h⟩ := h
              refine gx_iald C G rfl (fX5_reads_l hV) (fX5_reads_t hV) rx3 h14.1 (ixl (fX5_reads_n hV) h14.2) dX5_countedFrom_147 ?_
              have r15 := G.r (o + 4) (Int.toNat x3)
              refine gx_goto (tgt := 154) C dX5_countedFrom_148 (by decide) ?_
              exact gx_iret C G hret r15 h dX5_countedFrom_154
          · by_cases c20 : x1 = 4
            · refine gx_tableIn (tgt := 155) C rx1 dX5_countedFrom_18 4 c20 (by decide) (by decide) rfl (by decide) ?_
              have h := h.2.2.2.2.1 c20
              refine gx_iload_n C hl dX5_countedFrom_155 rfl ?_
              refine gx_iconst C dX5_countedFrom_156 ?_
              refine gx_icmp_ne (tgt := 169) C rx2 (show rng 1 by decide) dX5_countedFrom_157 (by decide) (fun c17 => ?_) (fun c17 => ?_)
              · have h := h.1 c17
                refine gx_sipush C dX5_countedFrom_169 (by decide) ?_
                exact gx_iret C G hret (show rng (-1000) by decide) h dX5_countedFrom_172
              · have h := h.2 c17
                refine gx_aload_n C hl dX5_countedFrom_160 rfl ?_
                refine gx_getF C G rfl (fX5_o hV) (fo4_4 (fX5_c hV)) (fX5_writes hV) uw_48 (fun _ h9 => h9) dX5_countedFrom_161 ?_
                refine gx_iload_n C hl dX5_countedFrom_164 rfl ?_
                obtain ⟨h18, h⟩ := h
                refine gx_iald C G rfl (fX5_writes_l hV) (fX5_writes_t hV) rx3 h18.1 (ixl (fX5_writes_n hV) h18.2) dX5_countedFrom_165 ?_
                have r19 := G.r (o + 5) (Int.toNat x3)
                refine gx_goto (tgt := 172) C dX5_countedFrom_166 (by decide) ?_
                exact gx_iret C G hret r19 h dX5_countedFrom_172
            · by_cases c24 : x1 = 5
              · refine gx_tableIn (tgt := 173) C rx1 dX5_countedFrom_18 5 c24 (by decide) (by decide) rfl (by decide) ?_
                have h := h.2.2.2.2.2.1 c24
                refine gx_iload C hl dX5_countedFrom_173 rfl ?_
                refine gx_if_eq (tgt := 189) C rw0 dX5_countedFrom_175 (by decide) (fun c21 => ?_) (fun c21 => ?_)
                · have h := h.1 c21
                  refine gx_sipush C dX5_countedFrom_189 (by decide) ?_
                  exact gx_iret C G hret (show rng (-1000) by decide) h dX5_countedFrom_192
                · have h := h.2 c21
                  refine gx_aload_n C hl dX5_countedFrom_178 rfl ?_
                  refine gx_getF C G rfl (fX5_o hV) (fo4_5 (fX5_c hV)) (fX5_columnsOfGroups hV) uw_49 (fun _ h9 => h9) dX5_countedFrom_179 ?_
                  refine gx_iload_n C hl dX5_countedFrom_182 rfl ?_
                  refine gx_iconst C dX5_countedFrom_183 ?_
                  refine gx_idiv C rx3 (show rng 2 by decide) (by decide) dX5_countedFrom_184 ?_
                  obtain ⟨h22, h⟩ := h
                  refine gx_iald C G rfl (fX5_columnsOfGroups_l hV) (fX5_columnsOfGroups_t hV) (rg_dv rx3 (by decide)) h22.1 (ixl (fX5_columnsOfGroups_n hV) h22.2) dX5_countedFrom_185 ?_
                  have r23 := G.r (o + 6) (Int.toNat (Int.tdiv x3 2))
                  refine gx_goto (tgt := 192) C dX5_countedFrom_186 (by decide) ?_
                  exact gx_iret C G hret r23 h dX5_countedFrom_192
              · by_cases c29 : x1 = 6
                · refine gx_tableIn (tgt := 193) C rx1 dX5_countedFrom_18 6 c29 (by decide) (by decide) rfl (by decide) ?_
                  have h := h.2.2.2.2.2.2.1 c29
                  refine gx_iload C hl dX5_countedFrom_193 rfl ?_
                  refine gx_if_eq (tgt := 211) C rw0 dX5_countedFrom_195 (by decide) (fun c25 => ?_) (fun c25 => ?_)
                  · have h := h.1 c25
                    refine gx_sipush C dX5_countedFrom_211 (by decide) ?_
                    exact gx_iret C G hret (show rng (-1000) by decide) h dX5_countedFrom_214
                  · have h := h.2 c25
                    refine gx_aload_n C hl dX5_countedFrom_198 rfl ?_
                    refine gx_getF C G rfl (fX5_o hV) (fo4_5 (fX5_c hV)) (fX5_columnsOfGroups hV) uw_49 (fun _ h9 => h9) dX5_countedFrom_199 ?_
                    refine gx_iconst C dX5_countedFrom_202 ?_
                    refine gx_iload_n C hl dX5_countedFrom_203 rfl ?_
                    refine gx_iconst C dX5_countedFrom_204 ?_
                    refine gx_idiv C rx3 (show rng 2 by decide) (by decide) dX5_countedFrom_205 ?_
                    obtain ⟨h26, h⟩ := h
                    refine gx_isub C dX5_countedFrom_206 ?_
                    obtain ⟨h27, h⟩ := h
                    refine gx_iald C G rfl (fX5_columnsOfGroups_l hV) (fX5_columnsOfGroups_t hV) h26 h27.1 (ixl (fX5_columnsOfGroups_n hV) h27.2) dX5_countedFrom_207 ?_
                    have r28 := G.r (o + 6) (Int.toNat (1 - (Int.tdiv x3 2)))
                    refine gx_goto (tgt := 214) C dX5_countedFrom_208 (by decide) ?_
                    exact gx_iret C G hret r28 h dX5_countedFrom_214
                · by_cases c32 : x1 = 7
                  · refine gx_tableIn (tgt := 215) C rx1 dX5_countedFrom_18 7 c32 (by decide) (by decide) rfl (by decide) ?_
                    have h := h.2.2.2.2.2.2.2.1 c32
                    refine gx_iload_n C hl dX5_countedFrom_215 rfl ?_
                    refine gx_iconst C dX5_countedFrom_216 ?_
                    refine gx_icmp_ne (tgt := 227) C rx2 (show rng 3 by decide) dX5_countedFrom_217 (by decide) (fun c30 => ?_) (fun c30 => ?_)
                    · have h := h.1 c30
                      refine gx_sipush C dX5_countedFrom_227 (by decide) ?_
                      exact gx_iret C G hret (show rng (-1000) by decide) h dX5_countedFrom_230
                    · have h := h.2 c30
                      refine gx_aload_n C hl dX5_countedFrom_220 rfl ?_
                      refine gx_getI C G rfl (fX5_o hV) (fo4_9 (fX5_c hV)) uw_54 (fun _ h9 => h9) dX5_countedFrom_221 ?_
                      have r31 := G.r o 9
                      refine gx_goto (tgt := 230) C dX5_countedFrom_224 (by decide) ?_
                      exact gx_iret C G hret r31 h dX5_countedFrom_230
                  · by_cases c35 : x1 = 8
                    · refine gx_tableIn (tgt := 231) C rx1 dX5_countedFrom_18 8 c35 (by decide) (by decide) rfl (by decide) ?_
                      have h := h.2.2.2.2.2.2.2.2.1 c35
                      refine gx_iload_n C hl dX5_countedFrom_231 rfl ?_
                      refine gx_iconst C dX5_countedFrom_232 ?_
                      refine gx_icmp_ne (tgt := 243) C rx2 (show rng 2 by decide) dX5_countedFrom_233 (by decide) (fun c33 => ?_) (fun c33 => ?_)
                      · have h := h.1 c33
                        refine gx_sipush C dX5_countedFrom_243 (by decide) ?_
                        exact gx_iret C G hret (show rng (-1000) by decide) h dX5_countedFrom_246
                      · have h := h.2 c33
                        refine gx_aload_n C hl dX5_countedFrom_236 rfl ?_
                        refine gx_getI C G rfl (fX5_o hV) (fo4_10 (fX5_c hV)) uw_55 (fun _ h9 => h9) dX5_countedFrom_237 ?_
                        have r34 := G.r o 10
                        refine gx_goto (tgt := 246) C dX5_countedFrom_240 (by decide) ?_
                        exact gx_iret C G hret r34 h dX5_countedFrom_246
                    · by_cases c39 : x1 = 9
                      · refine gx_tableIn (tgt := 247) C rx1 dX5_countedFrom_18 9 c39 (by decide) (by decide) rfl (by decide) ?_
                        have h := h.2.2.2.2.2.2.2.2.2.1 c39
                        refine gx_iload_n C hl dX5_countedFrom_247 rfl ?_
                        refine gx_if_ne (tgt := 260) C rx2 dX5_countedFrom_248 (by decide) (fun c36 => ?_) (fun c36 => ?_)
                        · have h := h.1 c36
                          refine gx_sipush C dX5_countedFrom_260 (by decide) ?_
                          exact gx_iret C G hret (show rng (-1000) by decide) h dX5_countedFrom_263
                        · have h := h.2 c36
                          refine gx_aload_n C hl dX5_countedFrom_251 rfl ?_
                          refine gx_getF C G rfl (fX5_o hV) (fo4_1 (fX5_c hV)) (fX5_opensBeside hV) uw_45 (fun _ h9 => h9) dX5_countedFrom_252 ?_
                          refine gx_iload_n C hl dX5_countedFrom_255 rfl ?_
                          obtain ⟨h37, h⟩ := h
                          refine gx_iald C G rfl (fX5_opensBeside_l hV) (fX5_opensBeside_t hV) rx3 h37.1 (ixl (fX5_opensBeside_n hV) h37.2) dX5_countedFrom_256 ?_
                          have r38 := G.r (o + 2) (Int.toNat x3)
                          refine gx_goto (tgt := 263) C dX5_countedFrom_257 (by decide) ?_
                          exact gx_iret C G hret r38 h dX5_countedFrom_263
                      · by_cases c44 : x1 = 10
                        · refine gx_tableIn (tgt := 264) C rx1 dX5_countedFrom_18 10 c44 (by decide) (by decide) rfl (by decide) ?_
                          have h := h.2.2.2.2.2.2.2.2.2.2.1 c44
                          refine gx_iload_n C hl dX5_countedFrom_264 rfl ?_
                          refine gx_if_ne (tgt := 282) C rx2 dX5_countedFrom_265 (by decide) (fun c40 => ?_) (fun c40 => ?_)
                          · have h := h.1 c40
                            refine gx_sipush C dX5_countedFrom_282 (by decide) ?_
                            exact gx_iret C G hret (show rng (-1000) by decide) h dX5_countedFrom_285
                          · have h := h.2 c40
                            refine gx_aload_n C hl dX5_countedFrom_268 rfl ?_
                            refine gx_getF C G rfl (fX5_o hV) (fo4_6 (fX5_c hV)) (fX5_fourOpens hV) uw_50 (fun _ h9 => h9) dX5_countedFrom_269 ?_
                            refine gx_aload_n C hl dX5_countedFrom_272 rfl ?_
                            refine gx_getI C G rfl (fX5_o hV) (fo4_7 (fX5_c hV)) uw_51 (fun _ h9 => h9) dX5_countedFrom_273 ?_
                            have r41 := G.r o 7
                            refine gx_iconst C dX5_countedFrom_276 ?_
                            refine gx_irem C r41 (show rng 4 by decide) (by decide) dX5_countedFrom_277 ?_
                            obtain ⟨h42, h⟩ := h
                            refine gx_iald C G rfl (fX5_fourOpens_l hV) (fX5_fourOpens_t hV) (rg_md r41) h42.1 (ixl (fX5_fourOpens_n hV) h42.2) dX5_countedFrom_278 ?_
                            have r43 := G.r (o + 7) (Int.toNat (Int.tmod (S.1 o 7) 4))
                            refine gx_goto (tgt := 285) C dX5_countedFrom_279 (by decide) ?_
                            exact gx_iret C G hret r43 h dX5_countedFrom_285
                        · by_cases c46 : x1 = 11
                          · refine gx_tableIn (tgt := 286) C rx1 dX5_countedFrom_18 11 c46 (by decide) (by decide) rfl (by decide) ?_
                            have h := h.2.2.2.2.2.2.2.2.2.2.2.1 c46
                            refine gx_aload_n C hl dX5_countedFrom_286 rfl ?_
                            refine gx_getI C G rfl (fX5_o hV) (fo4_11 (fX5_c hV)) uw_56 (fun _ h9 => h9) dX5_countedFrom_287 ?_
                            have r45 := G.r o 11
                            exact gx_iret C G hret r45 h dX5_countedFrom_290
                          · by_cases c49 : x1 = 12
                            · refine gx_tableIn (tgt := 291) C rx1 dX5_countedFrom_18 12 c49 (by decide) (by decide) rfl (by decide) ?_
                              have h := h.2.2.2.2.2.2.2.2.2.2.2.2.1 c49
                              refine gx_iload_n C hl dX5_countedFrom_291 rfl ?_
                              refine gx_iconst C dX5_countedFrom_292 ?_
                              refine gx_icmp_ne (tgt := 303) C rx2 (show rng 4 by decide) dX5_countedFrom_293 (by decide) (fun c47 => ?_) (fun c47 => ?_)
                              · have h := h.1 c47
                                refine gx_sipush C dX5_countedFrom_303 (by decide) ?_
                                exact gx_iret C G hret (show rng (-1000) by decide) h dX5_countedFrom_306
                              · have h := h.2 c47
                                refine gx_aload_n C hl dX5_countedFrom_296 rfl ?_
                                refine gx_getI C G rfl (fX5_o hV) (fo4_8 (fX5_c hV)) uw_53 (fun _ h9 => h9) dX5_countedFrom_297 ?_
                                have r48 := G.r o 8
                                refine gx_goto (tgt := 306) C dX5_countedFrom_300 (by decide) ?_
                                exact gx_iret C G hret r48 h dX5_countedFrom_306
                            · have c50 : x1 < 0 ∨ 12 < x1 := by omega
                              refine gx_tableOut (tgt := 307) C rx1 dX5_countedFrom_18 c50 (by decide) ?_
                              have h := h.2.2.2.2.2.2.2.2.2.2.2.2.2 c50
                              refine gx_sipush C dX5_countedFrom_307 (by decide) ?_
                              exact gx_iret C G hret (show rng (-1000) by decide) h dX5_countedFrom_310
  have b10 : ∀ (S : Me) (H : Heap) (locs : List Loc) (ls : Array Slot), lo ad ls [some (.inr (some o)), some (.inl x1), some (.inl x2), some (.inl x3), none] → Gy D cy A s.heap ad V S H locs → B_X5_countedFrom_10 V o x1 x2 x3 S Q → W p l e (rmx 0 0) s m args below meth c H locs 0 0 (qm below D cy ad V A args s (qI Q)) (F0 m 10 ls []) := by
    intro S H locs ls hl G h
    unfold B_X5_countedFrom_10 at h
    refine gx_iconst C dX5_countedFrom_10 ?_
    refine gx_goto (tgt := 15) C dX5_countedFrom_11 (by decide) ?_
    exact b15 1 S H locs ls (show rng 1 by decide) hl G h
  clear eA
  unfold PT_X5_countedFrom at h
  refine gx_iload_n C hl dX5_countedFrom_0 rfl ?_
  refine gx_iconst C dX5_countedFrom_1 ?_
  refine gx_icmp_eq (tgt := 10) C rx2 (show rng 2 by decide) dX5_countedFrom_2 (by decide) (fun c51 => ?_) (fun c51 => ?_)
  · have h := h.1 c51
    exact b10 S H locs ls hl G h
  · have h := h.2 c51
    refine gx_iload_n C hl dX5_countedFrom_5 rfl ?_
    refine gx_iconst C dX5_countedFrom_6 ?_
    refine gx_icmp_ne (tgt := 14) C rx2 (show rng 3 by decide) dX5_countedFrom_7 (by decide) (fun c52 => ?_) (fun c52 => ?_)
    · have h := h.1 c52
      refine gx_iconst C dX5_countedFrom_14 ?_
      exact b15 0 S H locs ls (show rng 0 by decide) hl G h
    · have h := h.2 c52
      exact b10 S H locs ls hl G h
def B_X5_leastTick_6 (V : Vt) (o : Nat) (x1 : Option Nat) (x2 : Int) (x3 : Int) (Q : Int → Me → Prop) : Nat → Int → Int → Me → Prop
  | 0, _, _, _ => False
  | n + 1, y4, y5, S => ∃ z1 : Nat, x1 = some z1 ∧ V.2.1 z1 = 12 ∧ (((V.2.2.1 z1 : Int) ≤ y5 → Q y4 S) ∧ (¬ (V.2.2.1 z1 : Int) ≤ y5 → PT_X5_countedFrom V o y5 x2 x3 S (fun t5 S4 => (0 ≤ y5 ∧ y5 < (V.2.2.1 z1 : Int)) ∧ (rng (t5 + (S4.1 z1 (Int.toNat y5)))) ∧ (rng (y5 + 1)) ∧ B_X5_leastTick_6 V o x1 x2 x3 Q n (if y4 < (t5 + (S4.1 z1 (Int.toNat y5))) then (t5 + (S4.1 z1 (Int.toNat y5))) else y4) (y5 + 1) S4)))
def PT_X5_leastTick (V : Vt) (o : Nat) (x1 : Option Nat) (x2 : Int) (x3 : Int) (S : Me) (Q : Int → Me → Prop) : Prop := (∃ n : Nat, B_X5_leastTick_6 V o x1 x2 x3 Q n 1 0 S)
theorem hd_X5_leastTick : yX5_leastTick.cls ≠ "java/lang/invoke/MethodHandle" ∧ yX5_leastTick.cls ≠ "java/lang/invoke/VarHandle" ∧ (parseMethodDescriptor yX5_leastTick.desc).map (fun d => d.parameters.length) = some 3 := by decide +kernel
set_option maxHeartbeats 4000000 in
set_option maxRecDepth 100000 in
theorem c_X5_leastTick (l : Launch) (D : va_G) (cy : ClassId × ClassId × ClassId) (ad : Nat → Nat) {V : Vt} {S : Me} {o : Nat} {x1 : Option Nat} {x2 : Int} {x3 : Int} (hV : fX5 V o) (vx1 : ∀ z, x1 = some z → z < V.1) (rx2 : rng x2) (rx3 : rng x3) {Q : Int → Me → Prop} (h : PT_X5_leastTick V o x1 x2 x3 S Q) : KM l D cy yX5_leastTick cX5_leastTick 6 (Option.some Jvm.ClassFile.FieldType.int) 1 24 ad V S [.inr (some o), .inr x1, .inl x2, .inl x3] (qI Q) := by
  refine KM.of (by decide) rfl (Nat.le_of_ble_eq_true rfl) (own := RX5) (fun p e s m args below meth c A ls H locs eA C hret hml hmn hl G => ?_)
  have hl : lo ad ls [some (.inr (some o)), some (.inr x1), some (.inl x2), some (.inl x3), none, none] := hl
  have b6 : ∀ (n : Nat) (y4 : Int) (y5 : Int) (S : Me) (H : Heap) (locs : List Loc) (ls : Array Slot), rng y4 → rng y5 → lo ad ls [some (.inr (some o)), some (.inr x1), some (.inl x2), some (.inl x3), some (.inl y4), some (.inl y5)] → Gy D cy A s.heap ad V S H locs → B_X5_leastTick_6 V o x1 x2 x3 Q n y4 y5 S → W p l e (rmx 1 24) s m args below meth c H locs 0 0 (qm below D cy ad V A args s (qI Q)) (F0 m 6 ls []) := by
    intro n
    induction n with
    | zero =>
      intro y4 y5 S H locs ls ry4 ry5 hl G h
      exact absurd h id
    | succ n ih =>
      intro y4 y5 S H locs ls ry4 ry5 hl G h
      rw [B_X5_leastTick_6] at h
      refine gx_iload C hl dX5_leastTick_6 rfl ?_
      refine gx_aload_n C hl dX5_leastTick_8 rfl ?_
      obtain ⟨z1, hz1, tz1, h⟩ := h
      have lz1 := (vx1 z1 hz1)
      refine gx_alen C G hz1 lz1 tz1 dX5_leastTick_9 ?_
      have r2 := G.l z1
      refine gx_icmp_ge (tgt := 39) C ry5 r2 dX5_leastTick_10 (by decide) (fun c3 => ?_) (fun c3 => ?_)
      · have h := h.1 c3
        refine gx_iload C hl dX5_leastTick_39 rfl ?_
        exact gx_iret C G hret ry4 h dX5_leastTick_41
      · have h := h.2 c3
        refine gx_iload C hl dX5_leastTick_13 rfl ?_
        refine gx_aload_n C hl dX5_leastTick_15 rfl ?_
        refine gx_iload C hl dX5_leastTick_16 rfl ?_
        refine gx_iload_n C hl dX5_leastTick_18 rfl ?_
        refine gx_iload_n C hl dX5_leastTick_19 rfl ?_
        refine gx_callV C G hl hml (c_X5_countedFrom l D cy ad hV ry5 rx2 rx3 h) rfl (fX5_o hV) (by rw [(fX5_c hV)]; rfl) (by rw [(fX5_c hV)]; decide) rfl uw_545 uw_542 uw_544 up_8 uw_2 hd_X5_countedFrom ⟨Nat.le_of_ble_eq_true rfl, Nat.le_of_ble_eq_true rfl⟩ ⟨Nat.zero_le _, Nat.zero_le _⟩ rfl rfl (hw_le ad [.inl y4] rfl (Nat.le_of_ble_eq_true rfl)) dX5_leastTick_20 (kkI (fun t5 S4 H locs rt5 h G => ?_))
        refine gx_aload_n C hl dX5_leastTick_23 rfl ?_
        refine gx_iload C hl dX5_leastTick_24 rfl ?_
        obtain ⟨h6, h⟩ := h
        refine gx_iald C G hz1 lz1 tz1 ry5 h6.1 h6.2 dX5_leastTick_26 ?_
        have r7 := G.r z1 (Int.toNat y5)
        obtain ⟨h8, h⟩ := h
        refine gx_iadd C dX5_leastTick_27 ?_
        refine gx_max C hl hml ry4 h8 uw_546 ⟨Nat.le_of_ble_eq_true rfl, Nat.le_of_ble_eq_true rfl⟩ ⟨Nat.zero_le _, Nat.zero_le _⟩ (hw_le ad [] rfl (Nat.le_of_ble_eq_true rfl)) dX5_leastTick_28 ?_
        refine gx_istore C hl dX5_leastTick_31 (Nat.le_of_ble_eq_true rfl) (PL' := [some (.inr (some o)), some (.inr x1), some (.inl x2), some (.inl x3), some (.inl (if y4 < (t5 + (S4.1 z1 (Int.toNat y5))) then (t5 + (S4.1 z1 (Int.toNat y5))) else y4)), some (.inl y5)]) rfl (fun ls hl => ?_)
        obtain ⟨h9, h⟩ := h
        refine gx_iinc C hl dX5_leastTick_33 rfl (PL' := [some (.inr (some o)), some (.inr x1), some (.inl x2), some (.inl x3), some (.inl (if y4 < (t5 + (S4.1 z1 (Int.toNat y5))) then (t5 + (S4.1 z1 (Int.toNat y5))) else y4)), some (.inl (y5 + 1))]) rfl (fun ls hl => ?_)
        refine gx_goto (tgt := 6) C dX5_leastTick_36 (by decide) ?_
        exact ih (if y4 < (t5 + (S4.1 z1 (Int.toNat y5))) then (t5 + (S4.1 z1 (Int.toNat y5))) else y4) (y5 + 1) S4 H locs ls (rg_mx ry4 h8) h9 hl G h
  clear eA
  unfold PT_X5_leastTick at h
  refine gx_iconst C dX5_leastTick_0 ?_
  refine gx_istore C hl dX5_leastTick_1 (Nat.le_of_ble_eq_true rfl) (PL' := [some (.inr (some o)), some (.inr x1), some (.inl x2), some (.inl x3), some (.inl 1), none]) rfl (fun ls hl => ?_)
  refine gx_iconst C dX5_leastTick_3 ?_
  refine gx_istore C hl dX5_leastTick_4 (Nat.le_of_ble_eq_true rfl) (PL' := [some (.inr (some o)), some (.inr x1), some (.inl x2), some (.inl x3), some (.inl 1), some (.inl 0)]) rfl (fun ls hl => ?_)
  obtain ⟨n9, h⟩ := h
  exact b6 n9 1 0 S H locs ls (show rng 1 by decide) (show rng 0 by decide) hl G h
def B_X5_leastBroken_3 (V : Vt) (o : Nat) (x1 : Option Nat) (x2 : Int) (x3 : Int) (x4 : Int) (Q : Int → Me → Prop) : Nat → Int → Me → Prop
  | 0, _, _ => False
  | n + 1, y5, S => ∃ z1 : Nat, x1 = some z1 ∧ V.2.1 z1 = 12 ∧ (((V.2.2.1 z1 : Int) ≤ y5 → Q (-2) S) ∧ (¬ (V.2.2.1 z1 : Int) ≤ y5 → PT_X5_countedFrom V o y5 x2 x3 S (fun t5 S4 => (0 ≤ y5 ∧ y5 < (V.2.2.1 z1 : Int)) ∧ (rng (t5 + (S4.1 z1 (Int.toNat y5)))) ∧ (((t5 + (S4.1 z1 (Int.toNat y5))) ≤ x4 → (rng (y5 + 1)) ∧ B_X5_leastBroken_3 V o x1 x2 x3 x4 Q n (y5 + 1) S4) ∧ (¬ (t5 + (S4.1 z1 (Int.toNat y5))) ≤ x4 → Q y5 S4)))))
def PT_X5_leastBroken (V : Vt) (o : Nat) (x1 : Option Nat) (x2 : Int) (x3 : Int) (x4 : Int) (S : Me) (Q : Int → Me → Prop) : Prop := (∃ n : Nat, B_X5_leastBroken_3 V o x1 x2 x3 x4 Q n 0 S)
theorem hd_X5_leastBroken : yX5_leastBroken.cls ≠ "java/lang/invoke/MethodHandle" ∧ yX5_leastBroken.cls ≠ "java/lang/invoke/VarHandle" ∧ (parseMethodDescriptor yX5_leastBroken.desc).map (fun d => d.parameters.length) = some 4 := by decide +kernel
set_option maxHeartbeats 4000000 in
set_option maxRecDepth 100000 in
theorem c_X5_leastBroken (l : Launch) (D : va_G) (cy : ClassId × ClassId × ClassId) (ad : Nat → Nat) {V : Vt} {S : Me} {o : Nat} {x1 : Option Nat} {x2 : Int} {x3 : Int} {x4 : Int} (hV : fX5 V o) (vx1 : ∀ z, x1 = some z → z < V.1) (rx2 : rng x2) (rx3 : rng x3) (rx4 : rng x4) {Q : Int → Me → Prop} (h : PT_X5_leastBroken V o x1 x2 x3 x4 S Q) : KM l D cy yX5_leastBroken cX5_leastBroken 6 (Option.some Jvm.ClassFile.FieldType.int) 1 24 ad V S [.inr (some o), .inr x1, .inl x2, .inl x3, .inl x4] (qI Q) := by
  refine KM.of (by decide) rfl (Nat.le_of_ble_eq_true rfl) (own := RX5) (fun p e s m args below meth c A ls H locs eA C hret hml hmn hl G => ?_)
  have hl : lo ad ls [some (.inr (some o)), some (.inr x1), some (.inl x2), some (.inl x3), some (.inl x4), none] := hl
  have b3 : ∀ (n : Nat) (y5 : Int) (S : Me) (H : Heap) (locs : List Loc) (ls : Array Slot), rng y5 → lo ad ls [some (.inr (some o)), some (.inr x1), some (.inl x2), some (.inl x3), some (.inl x4), some (.inl y5)] → Gy D cy A s.heap ad V S H locs → B_X5_leastBroken_3 V o x1 x2 x3 x4 Q n y5 S → W p l e (rmx 1 24) s m args below meth c H locs 0 0 (qm below D cy ad V A args s (qI Q)) (F0 m 3 ls []) := by
    intro n
    induction n with
    | zero =>
      intro y5 S H locs ls ry5 hl G h
      exact absurd h id
    | succ n ih =>
      intro y5 S H locs ls ry5 hl G h
      rw [B_X5_leastBroken_3] at h
      refine gx_iload C hl dX5_leastBroken_3 rfl ?_
      refine gx_aload_n C hl dX5_leastBroken_5 rfl ?_
      obtain ⟨z1, hz1, tz1, h⟩ := h
      have lz1 := (vx1 z1 hz1)
      refine gx_alen C G hz1 lz1 tz1 dX5_leastBroken_6 ?_
      have r2 := G.l z1
      refine gx_icmp_ge (tgt := 37) C ry5 r2 dX5_leastBroken_7 (by decide) (fun c3 => ?_) (fun c3 => ?_)
      · have h := h.1 c3
        refine gx_bipush C dX5_leastBroken_37 (by decide) ?_
        exact gx_iret C G hret (show rng (-2) by decide) h dX5_leastBroken_39
      · have h := h.2 c3
        refine gx_iload C hl dX5_leastBroken_10 rfl ?_
        refine gx_aload_n C hl dX5_leastBroken_12 rfl ?_
        refine gx_iload C hl dX5_leastBroken_13 rfl ?_
        refine gx_iload_n C hl dX5_leastBroken_15 rfl ?_
        refine gx_iload_n C hl dX5_leastBroken_16 rfl ?_
        refine gx_callV C G hl hml (c_X5_countedFrom l D cy ad hV ry5 rx2 rx3 h) rfl (fX5_o hV) (by rw [(fX5_c hV)]; rfl) (by rw [(fX5_c hV)]; decide) rfl uw_545 uw_542 uw_544 up_8 uw_2 hd_X5_countedFrom ⟨Nat.le_of_ble_eq_true rfl, Nat.le_of_ble_eq_true rfl⟩ ⟨Nat.zero_le _, Nat.zero_le _⟩ rfl rfl (hw_le ad [.inl x4] rfl (Nat.le_of_ble_eq_true rfl)) dX5_leastBroken_17 (kkI (fun t5 S4 H locs rt5 h G => ?_))
        refine gx_aload_n C hl dX5_leastBroken_20 rfl ?_
        refine gx_iload C hl dX5_leastBroken_21 rfl ?_
        obtain ⟨h6, h⟩ := h
        refine gx_iald C G hz1 lz1 tz1 ry5 h6.1 h6.2 dX5_leastBroken_23 ?_
        have r7 := G.r z1 (Int.toNat y5)
        obtain ⟨h8, h⟩ := h
        refine gx_iadd C dX5_leastBroken_24 ?_
        refine gx_icmp_ge (tgt := 31) C rx4 h8 dX5_leastBroken_25 (by decide) (fun c9 => ?_) (fun c9 => ?_)
        · have h := h.1 c9
          obtain ⟨h10, h⟩ := h
          refine gx_iinc C hl dX5_leastBroken_31 rfl (PL' := [some (.inr (some o)), some (.inr x1), some (.inl x2), some (.inl x3), some (.inl x4), some (.inl (y5 + 1))]) rfl (fun ls hl => ?_)
          refine gx_goto (tgt := 3) C dX5_leastBroken_34 (by decide) ?_
          exact ih (y5 + 1) S4 H locs ls h10 hl G h
        · have h := h.2 c9
          refine gx_iload C hl dX5_leastBroken_28 rfl ?_
          exact gx_iret C G hret ry5 h dX5_leastBroken_30
  clear eA
  unfold PT_X5_leastBroken at h
  refine gx_iconst C dX5_leastBroken_0 ?_
  refine gx_istore C hl dX5_leastBroken_1 (Nat.le_of_ble_eq_true rfl) (PL' := [some (.inr (some o)), some (.inr x1), some (.inl x2), some (.inl x3), some (.inl x4), some (.inl 0)]) rfl (fun ls hl => ?_)
  obtain ⟨n9, h⟩ := h
  exact b3 n9 0 S H locs ls (show rng 0 by decide) hl G h
def PT_X4_rowOf (V : Vt) (x1 : Int) (S : Me) (Q : Int → Me → Prop) : Prop := Q (Int.tdiv x1 64) S
theorem hd_X4_rowOf : yX4_rowOf.cls ≠ "java/lang/invoke/MethodHandle" ∧ yX4_rowOf.cls ≠ "java/lang/invoke/VarHandle" ∧ (parseMethodDescriptor yX4_rowOf.desc).map (fun d => d.parameters.length) = some 1 := by decide +kernel
set_option maxHeartbeats 4000000 in
set_option maxRecDepth 100000 in
theorem c_X4_rowOf (l : Launch) (D : va_G) (cy : ClassId × ClassId × ClassId) (ad : Nat → Nat) {V : Vt} {S : Me} {x1 : Int} (rx1 : rng x1) {Q : Int → Me → Prop} (h : PT_X4_rowOf V x1 S Q) : KM l D cy yX4_rowOf cX4_rowOf 1 (Option.some Jvm.ClassFile.FieldType.int) 0 0 ad V S [.inl x1] (qI Q) := by
  refine KM.of (by decide) rfl (Nat.le_of_ble_eq_true rfl) (own := RX4) (fun p e s m args below meth c A ls H locs eA C hret hml hmn hl G => ?_)
  have hl : lo ad ls [some (.inl x1)] := hl
  clear eA
  unfold PT_X4_rowOf at h
  refine gx_iload_n C hl dX4_rowOf_0 rfl ?_
  refine gx_bipush C dX4_rowOf_1 (by decide) ?_
  refine gx_idiv C rx1 (show rng 64 by decide) (by decide) dX4_rowOf_3 ?_
  exact gx_iret C G hret (rg_dv rx1 (by decide)) h dX4_rowOf_4
def PT_X11_isWithin (V : Vt) (x1 : Int) (x2 : Int) (x3 : Int) (S : Me) (Q : Int → Me → Prop) : Prop := ((x1 < x2 → Q 0 S) ∧ (¬ x1 < x2 → ((x3 < x1 → Q 0 S) ∧ (¬ x3 < x1 → Q 1 S))))
theorem hd_X11_isWithin : yX11_isWithin.cls ≠ "java/lang/invoke/MethodHandle" ∧ yX11_isWithin.cls ≠ "java/lang/invoke/VarHandle" ∧ (parseMethodDescriptor yX11_isWithin.desc).map (fun d => d.parameters.length) = some 3 := by decide +kernel
set_option maxHeartbeats 4000000 in
set_option maxRecDepth 100000 in
theorem c_X11_isWithin (l : Launch) (D : va_G) (cy : ClassId × ClassId × ClassId) (ad : Nat → Nat) {V : Vt} {S : Me} {x1 : Int} {x2 : Int} {x3 : Int} (rx1 : rng x1) (rx2 : rng x2) (rx3 : rng x3) {Q : Int → Me → Prop} (h : PT_X11_isWithin V x1 x2 x3 S Q) : KM l D cy yX11_isWithin cX11_isWithin 3 (Option.some Jvm.ClassFile.FieldType.boolean) 0 0 ad V S [.inl x1, .inl x2, .inl x3] (qI Q) := by
  refine KM.of (by decide) rfl (Nat.le_of_ble_eq_true rfl) (own := RX11) (fun p e s m args below meth c A ls H locs eA C hret hml hmn hl G => ?_)
  have hl : lo ad ls [some (.inl x1), some (.inl x2), some (.inl x3)] := hl
  clear eA
  unfold PT_X11_isWithin at h
  refine gx_iload_n C hl dX11_isWithin_0 rfl ?_
  refine gx_iload_n C hl dX11_isWithin_1 rfl ?_
  refine gx_icmp_lt (tgt := 14) C rx1 rx2 dX11_isWithin_2 (by decide) (fun c1 => ?_) (fun c1 => ?_)
  · have h := h.1 c1
    refine gx_iconst C dX11_isWithin_14 ?_
    exact gx_zret C G hret (Or.inl rfl) h dX11_isWithin_15
  · have h := h.2 c1
    refine gx_iload_n C hl dX11_isWithin_5 rfl ?_
    refine gx_iload_n C hl dX11_isWithin_6 rfl ?_
    refine gx_icmp_gt (tgt := 14) C rx1 rx3 dX11_isWithin_7 (by decide) (fun c2 => ?_) (fun c2 => ?_)
    · have h := h.1 c2
      refine gx_iconst C dX11_isWithin_14 ?_
      exact gx_zret C G hret (Or.inl rfl) h dX11_isWithin_15
    · have h := h.2 c2
      refine gx_iconst C dX11_isWithin_10 ?_
      refine gx_goto (tgt := 15) C dX11_isWithin_11 (by decide) ?_
      exact gx_zret C G hret (Or.inr rfl) h dX11_isWithin_15
def PT_X12_time (V : Vt) (o : Nat) (x1 : Int) (x2 : Int) (S : Me) (Q : Int → Me → Prop) : Prop := ∀ S1 : Me, S1 = sI S o 0 0 → (((isin x1 0 12) = 0 → Q (-1) S1) ∧ (¬ (isin x1 0 12) = 0 → ((¬ (isin x2 1 30) = 0 → (0 ≤ x1 ∧ x1 < 13) ∧ (0 ≤ x1 ∧ x1 < 13) ∧ ∀ S7 : Me, S7 = sI S1 (o + 1) (Int.toNat x1) x2 → Q (S1.1 (o + 1) (Int.toNat x1)) S7) ∧ ((isin x2 1 30) = 0 → Q (-1) S1))))
theorem hd_X12_time : yX12_time.cls ≠ "java/lang/invoke/MethodHandle" ∧ yX12_time.cls ≠ "java/lang/invoke/VarHandle" ∧ (parseMethodDescriptor yX12_time.desc).map (fun d => d.parameters.length) = some 2 := by decide +kernel
set_option maxHeartbeats 4000000 in
set_option maxRecDepth 100000 in
theorem c_X12_time (l : Launch) (D : va_G) (cy : ClassId × ClassId × ClassId) (ad : Nat → Nat) {V : Vt} {S : Me} {o : Nat} {x1 : Int} {x2 : Int} (hV : fX12 V o) (rx1 : rng x1) (rx2 : rng x2) {Q : Int → Me → Prop} (h : PT_X12_time V o x1 x2 S Q) : KM l D cy yX12_time cX12_time 4 (Option.some Jvm.ClassFile.FieldType.int) 1 25 ad V S [.inr (some o), .inl x1, .inl x2] (qI Q) := by
  refine KM.of (by decide) rfl (Nat.le_of_ble_eq_true rfl) (own := RX12) (fun p e s m args below meth c A ls H locs eA C hret hml hmn hl G => ?_)
  have hl : lo ad ls [some (.inr (some o)), some (.inl x1), some (.inl x2), none] := hl
  clear eA
  unfold PT_X12_time at h
  refine gx_aload_n C hl dX12_time_0 rfl ?_
  refine gx_iconst C dX12_time_1 ?_
  refine gx_putI C G rfl (fX12_o hV) (fo11_0 (fX12_c hV)) (show rng 0 by decide) uw_956 (fun _ h9 => h9) dX12_time_2 (fun H locs G => ?_)
  obtain ⟨S1, eS1⟩ : ∃ q9 : Me, q9 = sI S o 0 0 := ⟨_, rfl⟩
  have h := h S1 eS1
  rw [← eS1] at G
  refine gx_iload_n C hl dX12_time_5 rfl ?_
  refine gx_i2l C rx1 dX12_time_6 ?_
  refine gx_lconst (x := 0) C (by decide) dX12_time_7 ?_
  refine gx_ldc2 (n := 12) C uw_1115 dX12_time_8 ?_
  refine gx_isIn C G hl hml rx1 (show rng 0 by decide) (show rng 12 by decide) uw_1116 ⟨Nat.le_of_ble_eq_true rfl, Nat.le_of_ble_eq_true rfl⟩ ⟨Nat.zero_le _, Nat.zero_le _⟩ (hw_le ad [] rfl (Nat.le_of_ble_eq_true rfl)) dX12_time_11 ?_
  refine gx_if_eq (tgt := 29) C (isin_r _ _ _) dX12_time_14 (by decide) (fun c2 => ?_) (fun c2 => ?_)
  · have h := h.1 c2
    refine gx_iconst C dX12_time_29 ?_
    exact gx_iret C G hret (show rng (-1) by decide) h dX12_time_30
  · have h := h.2 c2
    refine gx_iload_n C hl dX12_time_17 rfl ?_
    refine gx_i2l C rx2 dX12_time_18 ?_
    refine gx_lconst (x := 1) C (by decide) dX12_time_19 ?_
    refine gx_ldc2 (n := 30) C uw_1119 dX12_time_20 ?_
    refine gx_isIn C G hl hml rx2 (show rng 1 by decide) (show rng 30 by decide) uw_1116 ⟨Nat.le_of_ble_eq_true rfl, Nat.le_of_ble_eq_true rfl⟩ ⟨Nat.zero_le _, Nat.zero_le _⟩ (hw_le ad [] rfl (Nat.le_of_ble_eq_true rfl)) dX12_time_23 ?_
    refine gx_if_ne (tgt := 31) C (isin_r _ _ _) dX12_time_26 (by decide) (fun c3 => ?_) (fun c3 => ?_)
    · have h := h.1 c3
      refine gx_aload_n C hl dX12_time_31 rfl ?_
      refine gx_getF C G rfl (fX12_o hV) (fo11_1 (fX12_c hV)) (fX12_time hV) uw_957 (fun _ h9 => h9) dX12_time_32 ?_
      refine gx_iload_n C hl dX12_time_35 rfl ?_
      obtain ⟨h4, h⟩ := h
      refine gx_iald C G rfl (fX12_time_l hV) (fX12_time_t hV) rx1 h4.1 (ixl (fX12_time_n hV) h4.2) dX12_time_36 ?_
      have r5 := G.r (o + 1) (Int.toNat x1)
      refine gx_istore_n C hl dX12_time_37 (Nat.le_of_ble_eq_true rfl) (PL' := [some (.inr (some o)), some (.inl x1), some (.inl x2), some (.inl (S1.1 (o + 1) (Int.toNat x1)))]) rfl (fun ls hl => ?_)
      refine gx_aload_n C hl dX12_time_38 rfl ?_
      refine gx_getF C G rfl (fX12_o hV) (fo11_1 (fX12_c hV)) (fX12_time hV) uw_957 (fun _ h9 => h9) dX12_time_39 ?_
      refine gx_iload_n C hl dX12_time_42 rfl ?_
      refine gx_iload_n C hl dX12_time_43 rfl ?_
      obtain ⟨h6, h⟩ := h
      refine gx_iast C G rfl (fX12_time_l hV) (fX12_time_t hV) rx1 rx2 h6.1 (ixl (fX12_time_n hV) h6.2) dX12_time_44 (fun H locs G => ?_)
      obtain ⟨S7, eS7⟩ : ∃ q9 : Me, q9 = sI S1 (o + 1) (Int.toNat x1) x2 := ⟨_, rfl⟩
      have h := h S7 eS7
      rw [← eS7] at G
      refine gx_iload_n C hl dX12_time_45 rfl ?_
      exact gx_iret C G hret r5 h dX12_time_46
    · have h := h.2 c3
      refine gx_iconst C dX12_time_29 ?_
      exact gx_iret C G hret (show rng (-1) by decide) h dX12_time_30
end
