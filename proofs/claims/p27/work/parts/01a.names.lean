-- ===== PART A: goes FIRST, ahead of the names: the tables' words, and 'selects' of the private methods out of them =====
/-- a private method of a class that the tables say can be made, by its rows of tables_1 -/
def lw_okq (q : MethodName × Nat) : Prop := (q.1.cls ≠ "java/lang/invoke/MethodHandle" ∧ q.1.cls ≠ "java/lang/invoke/VarHandle") ∧ Cond.instantiable q.1.cls q.2 ∈ tables_1 ∧ Cond.privateMethod q.1 ∈ tables_1 ∧ Cond.instanceMethod q.1 ∈ tables_1
theorem lw_p0 : lw_okq (⟨"OnlyDifferences$Claims", "clear", "()V"⟩, 7) := ⟨⟨by decide +kernel, by decide +kernel⟩, List.mem_of_getElem? (i := 62) (by decide +kernel), List.mem_of_getElem? (i := 68) (by decide +kernel), List.mem_of_getElem? (i := 69) (by decide +kernel)⟩
theorem lw_p1 : lw_okq (⟨"OnlyDifferences$Bounds", "tellAll", "(LOnlyDifferences$Claims;I)V"⟩, 4) := ⟨⟨by decide +kernel, by decide +kernel⟩, List.mem_of_getElem? (i := 104) (by decide +kernel), List.mem_of_getElem? (i := 283) (by decide +kernel), List.mem_of_getElem? (i := 284) (by decide +kernel)⟩
theorem lw_p2 : lw_okq (⟨"OnlyDifferences$Bounds", "tellBothSides", "(LOnlyDifferences$Claims;I)V"⟩, 4) := ⟨⟨by decide +kernel, by decide +kernel⟩, List.mem_of_getElem? (i := 104) (by decide +kernel), List.mem_of_getElem? (i := 291) (by decide +kernel), List.mem_of_getElem? (i := 292) (by decide +kernel)⟩
theorem lw_p3 : lw_okq (⟨"OnlyDifferences$Bounds", "tell", "(III)V"⟩, 4) := ⟨⟨by decide +kernel, by decide +kernel⟩, List.mem_of_getElem? (i := 104) (by decide +kernel), List.mem_of_getElem? (i := 295) (by decide +kernel), List.mem_of_getElem? (i := 296) (by decide +kernel)⟩
theorem lw_p4 : lw_okq (⟨"OnlyDifferences$Bounds", "goBy", "(I)V"⟩, 4) := ⟨⟨by decide +kernel, by decide +kernel⟩, List.mem_of_getElem? (i := 104) (by decide +kernel), List.mem_of_getElem? (i := 305) (by decide +kernel), List.mem_of_getElem? (i := 306) (by decide +kernel)⟩
theorem lw_p5 : lw_okq (⟨"OnlyDifferences$Bounds", "isNoneBelowItself", "()Z"⟩, 4) := ⟨⟨by decide +kernel, by decide +kernel⟩, List.mem_of_getElem? (i := 104) (by decide +kernel), List.mem_of_getElem? (i := 309) (by decide +kernel), List.mem_of_getElem? (i := 310) (by decide +kernel)⟩
theorem lw_p6 : lw_okq (⟨"OnlyDifferences$LawReader", "readRule", "()V"⟩, 2) := ⟨⟨by decide +kernel, by decide +kernel⟩, List.mem_of_getElem? (i := 138) (by decide +kernel), List.mem_of_getElem? (i := 395) (by decide +kernel), List.mem_of_getElem? (i := 396) (by decide +kernel)⟩
theorem lw_p7 : lw_okq (⟨"OnlyDifferences$LawReader", "readSum", "(I)V"⟩, 2) := ⟨⟨by decide +kernel, by decide +kernel⟩, List.mem_of_getElem? (i := 138) (by decide +kernel), List.mem_of_getElem? (i := 411) (by decide +kernel), List.mem_of_getElem? (i := 412) (by decide +kernel)⟩
theorem lw_p8 : lw_okq (⟨"OnlyDifferences$LawReader", "readTerm", "(I)V"⟩, 2) := ⟨⟨by decide +kernel, by decide +kernel⟩, List.mem_of_getElem? (i := 138) (by decide +kernel), List.mem_of_getElem? (i := 415) (by decide +kernel), List.mem_of_getElem? (i := 416) (by decide +kernel)⟩
theorem lw_p9 : lw_okq (⟨"OnlyDifferences$LawReader", "readFactor", "(I)V"⟩, 2) := ⟨⟨by decide +kernel, by decide +kernel⟩, List.mem_of_getElem? (i := 138) (by decide +kernel), List.mem_of_getElem? (i := 419) (by decide +kernel), List.mem_of_getElem? (i := 420) (by decide +kernel)⟩
theorem lw_p10 : lw_okq (⟨"OnlyDifferences$LawReader", "open", "(I)I"⟩, 2) := ⟨⟨by decide +kernel, by decide +kernel⟩, List.mem_of_getElem? (i := 138) (by decide +kernel), List.mem_of_getElem? (i := 423) (by decide +kernel), List.mem_of_getElem? (i := 424) (by decide +kernel)⟩
theorem lw_p11 : lw_okq (⟨"OnlyDifferences$LawReader", "readLetter", "()V"⟩, 2) := ⟨⟨by decide +kernel, by decide +kernel⟩, List.mem_of_getElem? (i := 138) (by decide +kernel), List.mem_of_getElem? (i := 450) (by decide +kernel), List.mem_of_getElem? (i := 451) (by decide +kernel)⟩
theorem lw_p12 : lw_okq (⟨"OnlyDifferences$LawReader", "readChoice", "(I)V"⟩, 2) := ⟨⟨by decide +kernel, by decide +kernel⟩, List.mem_of_getElem? (i := 138) (by decide +kernel), List.mem_of_getElem? (i := 497) (by decide +kernel), List.mem_of_getElem? (i := 498) (by decide +kernel)⟩
theorem lw_p13 : lw_okq (⟨"OnlyDifferences$LawReader", "readPart", "(I)V"⟩, 2) := ⟨⟨by decide +kernel, by decide +kernel⟩, List.mem_of_getElem? (i := 138) (by decide +kernel), List.mem_of_getElem? (i := 501) (by decide +kernel), List.mem_of_getElem? (i := 502) (by decide +kernel)⟩
theorem lw_p14 : lw_okq (⟨"OnlyDifferences$LawReader", "readTest", "(I)V"⟩, 2) := ⟨⟨by decide +kernel, by decide +kernel⟩, List.mem_of_getElem? (i := 138) (by decide +kernel), List.mem_of_getElem? (i := 505) (by decide +kernel), List.mem_of_getElem? (i := 506) (by decide +kernel)⟩
theorem lw_p15 : lw_okq (⟨"OnlyDifferences$Claims", "readLine", "(LOnlyDifferences$Tape;)V"⟩, 7) := ⟨⟨by decide +kernel, by decide +kernel⟩, List.mem_of_getElem? (i := 62) (by decide +kernel), List.mem_of_getElem? (i := 540) (by decide +kernel), List.mem_of_getElem? (i := 541) (by decide +kernel)⟩
def lw_privs_1 : List (MethodName × Nat) := [(⟨"OnlyDifferences$Claims", "clear", "()V"⟩, 7), (⟨"OnlyDifferences$Bounds", "tellAll", "(LOnlyDifferences$Claims;I)V"⟩, 4), (⟨"OnlyDifferences$Bounds", "tellBothSides", "(LOnlyDifferences$Claims;I)V"⟩, 4), (⟨"OnlyDifferences$Bounds", "tell", "(III)V"⟩, 4), (⟨"OnlyDifferences$Bounds", "goBy", "(I)V"⟩, 4), (⟨"OnlyDifferences$Bounds", "isNoneBelowItself", "()Z"⟩, 4), (⟨"OnlyDifferences$LawReader", "readRule", "()V"⟩, 2), (⟨"OnlyDifferences$LawReader", "readSum", "(I)V"⟩, 2), (⟨"OnlyDifferences$LawReader", "readTerm", "(I)V"⟩, 2), (⟨"OnlyDifferences$LawReader", "readFactor", "(I)V"⟩, 2), (⟨"OnlyDifferences$LawReader", "open", "(I)I"⟩, 2), (⟨"OnlyDifferences$LawReader", "readLetter", "()V"⟩, 2), (⟨"OnlyDifferences$LawReader", "readChoice", "(I)V"⟩, 2), (⟨"OnlyDifferences$LawReader", "readPart", "(I)V"⟩, 2), (⟨"OnlyDifferences$LawReader", "readTest", "(I)V"⟩, 2), (⟨"OnlyDifferences$Claims", "readLine", "(LOnlyDifferences$Tape;)V"⟩, 7)]
theorem lw_r1 : ∀ q ∈ lw_privs_1, lw_okq q := List.forall_mem_cons.mpr ⟨lw_p0, List.forall_mem_cons.mpr ⟨lw_p1, List.forall_mem_cons.mpr ⟨lw_p2, List.forall_mem_cons.mpr ⟨lw_p3, List.forall_mem_cons.mpr ⟨lw_p4, List.forall_mem_cons.mpr ⟨lw_p5, List.forall_mem_cons.mpr ⟨lw_p6, List.forall_mem_cons.mpr ⟨lw_p7, List.forall_mem_cons.mpr ⟨lw_p8, List.forall_mem_cons.mpr ⟨lw_p9, List.forall_mem_cons.mpr ⟨lw_p10, List.forall_mem_cons.mpr ⟨lw_p11, List.forall_mem_cons.mpr ⟨lw_p12, List.forall_mem_cons.mpr ⟨lw_p13, List.forall_mem_cons.mpr ⟨lw_p14, List.forall_mem_cons.mpr ⟨lw_p15, fun _ h => absurd h List.not_mem_nil⟩⟩⟩⟩⟩⟩⟩⟩⟩⟩⟩⟩⟩⟩⟩⟩
theorem lw_p16 : lw_okq (⟨"OnlyDifferences$Claims", "add", "(IIII)V"⟩, 7) := ⟨⟨by decide +kernel, by decide +kernel⟩, List.mem_of_getElem? (i := 62) (by decide +kernel), List.mem_of_getElem? (i := 557) (by decide +kernel), List.mem_of_getElem? (i := 558) (by decide +kernel)⟩
theorem lw_p17 : lw_okq (⟨"OnlyDifferences$Claims", "join", "(III)Z"⟩, 7) := ⟨⟨by decide +kernel, by decide +kernel⟩, List.mem_of_getElem? (i := 62) (by decide +kernel), List.mem_of_getElem? (i := 561) (by decide +kernel), List.mem_of_getElem? (i := 562) (by decide +kernel)⟩
theorem lw_p18 : lw_okq (⟨"OnlyDifferences$Market", "forgetStalls", "()V"⟩, 10) := ⟨⟨by decide +kernel, by decide +kernel⟩, List.mem_of_getElem? (i := 206) (by decide +kernel), List.mem_of_getElem? (i := 575) (by decide +kernel), List.mem_of_getElem? (i := 576) (by decide +kernel)⟩
theorem lw_p19 : lw_okq (⟨"OnlyDifferences$Market", "readStall", "(LOnlyDifferences$Tape;)V"⟩, 10) := ⟨⟨by decide +kernel, by decide +kernel⟩, List.mem_of_getElem? (i := 206) (by decide +kernel), List.mem_of_getElem? (i := 581) (by decide +kernel), List.mem_of_getElem? (i := 582) (by decide +kernel)⟩
theorem lw_p20 : lw_okq (⟨"OnlyDifferences$Market", "addStalls", "(LOnlyDifferences$Market;)V"⟩, 10) := ⟨⟨by decide +kernel, by decide +kernel⟩, List.mem_of_getElem? (i := 206) (by decide +kernel), List.mem_of_getElem? (i := 610) (by decide +kernel), List.mem_of_getElem? (i := 611) (by decide +kernel)⟩
theorem lw_p21 : lw_okq (⟨"OnlyDifferences$RingSearch", "stepsBack", "([IIII)I"⟩, 2) := ⟨⟨by decide +kernel, by decide +kernel⟩, List.mem_of_getElem? (i := 125) (by decide +kernel), List.mem_of_getElem? (i := 657) (by decide +kernel), List.mem_of_getElem? (i := 658) (by decide +kernel)⟩
theorem lw_p22 : lw_okq (⟨"OnlyDifferences$RingSearch", "step", "([II)V"⟩, 2) := ⟨⟨by decide +kernel, by decide +kernel⟩, List.mem_of_getElem? (i := 125) (by decide +kernel), List.mem_of_getElem? (i := 663) (by decide +kernel), List.mem_of_getElem? (i := 664) (by decide +kernel)⟩
theorem lw_p23 : lw_okq (⟨"OnlyDifferences$Bounds", "ordersByLast", "(I[I)I"⟩, 4) := ⟨⟨by decide +kernel, by decide +kernel⟩, List.mem_of_getElem? (i := 104) (by decide +kernel), List.mem_of_getElem? (i := 743) (by decide +kernel), List.mem_of_getElem? (i := 744) (by decide +kernel)⟩
theorem lw_p24 : lw_okq (⟨"OnlyDifferences$Triangles", "put", "(III)I"⟩, 4) := ⟨⟨by decide +kernel, by decide +kernel⟩, List.mem_of_getElem? (i := 258) (by decide +kernel), List.mem_of_getElem? (i := 838) (by decide +kernel), List.mem_of_getElem? (i := 839) (by decide +kernel)⟩
theorem lw_p25 : lw_okq (⟨"OnlyDifferences$Triangles", "countThis", "()V"⟩, 4) := ⟨⟨by decide +kernel, by decide +kernel⟩, List.mem_of_getElem? (i := 258) (by decide +kernel), List.mem_of_getElem? (i := 844) (by decide +kernel), List.mem_of_getElem? (i := 845) (by decide +kernel)⟩
theorem lw_p26 : lw_okq (⟨"OnlyDifferences$Market", "draw", "()I"⟩, 10) := ⟨⟨by decide +kernel, by decide +kernel⟩, List.mem_of_getElem? (i := 206) (by decide +kernel), List.mem_of_getElem? (i := 954) (by decide +kernel), List.mem_of_getElem? (i := 955) (by decide +kernel)⟩
theorem lw_p27 : lw_okq (⟨"OnlyDifferences$Market", "open", "(ILOnlyDifferences$Law;I)V"⟩, 10) := ⟨⟨by decide +kernel, by decide +kernel⟩, List.mem_of_getElem? (i := 206) (by decide +kernel), List.mem_of_getElem? (i := 959) (by decide +kernel), List.mem_of_getElem? (i := 960) (by decide +kernel)⟩
theorem lw_p28 : lw_okq (⟨"OnlyDifferences$Law", "run", "(II)I"⟩, 11) := ⟨⟨by decide +kernel, by decide +kernel⟩, List.mem_of_getElem? (i := 151) (by decide +kernel), List.mem_of_getElem? (i := 980) (by decide +kernel), List.mem_of_getElem? (i := 981) (by decide +kernel)⟩
theorem lw_p29 : lw_okq (⟨"OnlyDifferences$Law", "pop", "()I"⟩, 11) := ⟨⟨by decide +kernel, by decide +kernel⟩, List.mem_of_getElem? (i := 151) (by decide +kernel), List.mem_of_getElem? (i := 987) (by decide +kernel), List.mem_of_getElem? (i := 988) (by decide +kernel)⟩
theorem lw_p30 : lw_okq (⟨"OnlyDifferences$Law", "push", "(I)V"⟩, 11) := ⟨⟨by decide +kernel, by decide +kernel⟩, List.mem_of_getElem? (i := 151) (by decide +kernel), List.mem_of_getElem? (i := 991) (by decide +kernel), List.mem_of_getElem? (i := 992) (by decide +kernel)⟩
theorem lw_p31 : lw_okq (⟨"OnlyDifferences$Market", "sellOut", "(ILOnlyDifferences$Law;I)V"⟩, 10) := ⟨⟨by decide +kernel, by decide +kernel⟩, List.mem_of_getElem? (i := 206) (by decide +kernel), List.mem_of_getElem? (i := 1006) (by decide +kernel), List.mem_of_getElem? (i := 1007) (by decide +kernel)⟩
def lw_privs_2 : List (MethodName × Nat) := [(⟨"OnlyDifferences$Claims", "add", "(IIII)V"⟩, 7), (⟨"OnlyDifferences$Claims", "join", "(III)Z"⟩, 7), (⟨"OnlyDifferences$Market", "forgetStalls", "()V"⟩, 10), (⟨"OnlyDifferences$Market", "readStall", "(LOnlyDifferences$Tape;)V"⟩, 10), (⟨"OnlyDifferences$Market", "addStalls", "(LOnlyDifferences$Market;)V"⟩, 10), (⟨"OnlyDifferences$RingSearch", "stepsBack", "([IIII)I"⟩, 2), (⟨"OnlyDifferences$RingSearch", "step", "([II)V"⟩, 2), (⟨"OnlyDifferences$Bounds", "ordersByLast", "(I[I)I"⟩, 4), (⟨"OnlyDifferences$Triangles", "put", "(III)I"⟩, 4), (⟨"OnlyDifferences$Triangles", "countThis", "()V"⟩, 4), (⟨"OnlyDifferences$Market", "draw", "()I"⟩, 10), (⟨"OnlyDifferences$Market", "open", "(ILOnlyDifferences$Law;I)V"⟩, 10), (⟨"OnlyDifferences$Law", "run", "(II)I"⟩, 11), (⟨"OnlyDifferences$Law", "pop", "()I"⟩, 11), (⟨"OnlyDifferences$Law", "push", "(I)V"⟩, 11), (⟨"OnlyDifferences$Market", "sellOut", "(ILOnlyDifferences$Law;I)V"⟩, 10)]
theorem lw_r2 : ∀ q ∈ lw_privs_2, lw_okq q := List.forall_mem_cons.mpr ⟨lw_p16, List.forall_mem_cons.mpr ⟨lw_p17, List.forall_mem_cons.mpr ⟨lw_p18, List.forall_mem_cons.mpr ⟨lw_p19, List.forall_mem_cons.mpr ⟨lw_p20, List.forall_mem_cons.mpr ⟨lw_p21, List.forall_mem_cons.mpr ⟨lw_p22, List.forall_mem_cons.mpr ⟨lw_p23, List.forall_mem_cons.mpr ⟨lw_p24, List.forall_mem_cons.mpr ⟨lw_p25, List.forall_mem_cons.mpr ⟨lw_p26, List.forall_mem_cons.mpr ⟨lw_p27, List.forall_mem_cons.mpr ⟨lw_p28, List.forall_mem_cons.mpr ⟨lw_p29, List.forall_mem_cons.mpr ⟨lw_p30, List.forall_mem_cons.mpr ⟨lw_p31, fun _ h => absurd h List.not_mem_nil⟩⟩⟩⟩⟩⟩⟩⟩⟩⟩⟩⟩⟩⟩⟩⟩
theorem lw_p32 : lw_okq (⟨"OnlyDifferences", "canBeTried", "(I)Z"⟩, 15) := ⟨⟨by decide +kernel, by decide +kernel⟩, List.mem_of_getElem? (i := 21) (by decide +kernel), List.mem_of_getElem? (i := 1014) (by decide +kernel), List.mem_of_getElem? (i := 1015) (by decide +kernel)⟩
theorem lw_p33 : lw_okq (⟨"OnlyDifferencesModel", "types", "(I)V"⟩, 67) := ⟨⟨by decide +kernel, by decide +kernel⟩, List.mem_of_getElem? (i := 1074) (by decide +kernel), List.mem_of_getElem? (i := 1288) (by decide +kernel), List.mem_of_getElem? (i := 1289) (by decide +kernel)⟩
theorem lw_p34 : lw_okq (⟨"OnlyDifferencesModel", "beginsText", "(I)V"⟩, 67) := ⟨⟨by decide +kernel, by decide +kernel⟩, List.mem_of_getElem? (i := 1074) (by decide +kernel), List.mem_of_getElem? (i := 1299) (by decide +kernel), List.mem_of_getElem? (i := 1300) (by decide +kernel)⟩
theorem lw_p35 : lw_okq (⟨"OnlyDifferencesModel", "readsRule", "()Z"⟩, 67) := ⟨⟨by decide +kernel, by decide +kernel⟩, List.mem_of_getElem? (i := 1074) (by decide +kernel), List.mem_of_getElem? (i := 1303) (by decide +kernel), List.mem_of_getElem? (i := 1304) (by decide +kernel)⟩
theorem lw_p36 : lw_okq (⟨"OnlyDifferencesModel", "here", "()I"⟩, 67) := ⟨⟨by decide +kernel, by decide +kernel⟩, List.mem_of_getElem? (i := 1074) (by decide +kernel), List.mem_of_getElem? (i := 1307) (by decide +kernel), List.mem_of_getElem? (i := 1308) (by decide +kernel)⟩
theorem lw_p37 : lw_okq (⟨"OnlyDifferencesModel", "wrongAt", "(II)Z"⟩, 67) := ⟨⟨by decide +kernel, by decide +kernel⟩, List.mem_of_getElem? (i := 1074) (by decide +kernel), List.mem_of_getElem? (i := 1311) (by decide +kernel), List.mem_of_getElem? (i := 1312) (by decide +kernel)⟩
theorem lw_p38 : lw_okq (⟨"OnlyDifferencesModel", "readsSum", "()Z"⟩, 67) := ⟨⟨by decide +kernel, by decide +kernel⟩, List.mem_of_getElem? (i := 1074) (by decide +kernel), List.mem_of_getElem? (i := 1315) (by decide +kernel), List.mem_of_getElem? (i := 1316) (by decide +kernel)⟩
theorem lw_p39 : lw_okq (⟨"OnlyDifferencesModel", "readsFactor", "()Z"⟩, 67) := ⟨⟨by decide +kernel, by decide +kernel⟩, List.mem_of_getElem? (i := 1074) (by decide +kernel), List.mem_of_getElem? (i := 1319) (by decide +kernel), List.mem_of_getElem? (i := 1320) (by decide +kernel)⟩
theorem lw_p40 : lw_okq (⟨"OnlyDifferencesModel", "opens", "(I)Z"⟩, 67) := ⟨⟨by decide +kernel, by decide +kernel⟩, List.mem_of_getElem? (i := 1074) (by decide +kernel), List.mem_of_getElem? (i := 1323) (by decide +kernel), List.mem_of_getElem? (i := 1324) (by decide +kernel)⟩
theorem lw_p41 : lw_okq (⟨"OnlyDifferencesModel", "isDigit", "()Z"⟩, 67) := ⟨⟨by decide +kernel, by decide +kernel⟩, List.mem_of_getElem? (i := 1074) (by decide +kernel), List.mem_of_getElem? (i := 1328) (by decide +kernel), List.mem_of_getElem? (i := 1329) (by decide +kernel)⟩
theorem lw_p42 : lw_okq (⟨"OnlyDifferencesModel", "readsNumber", "()Z"⟩, 67) := ⟨⟨by decide +kernel, by decide +kernel⟩, List.mem_of_getElem? (i := 1074) (by decide +kernel), List.mem_of_getElem? (i := 1332) (by decide +kernel), List.mem_of_getElem? (i := 1333) (by decide +kernel)⟩
theorem lw_p43 : lw_okq (⟨"OnlyDifferencesModel", "notes", "(II)V"⟩, 67) := ⟨⟨by decide +kernel, by decide +kernel⟩, List.mem_of_getElem? (i := 1074) (by decide +kernel), List.mem_of_getElem? (i := 1336) (by decide +kernel), List.mem_of_getElem? (i := 1337) (by decide +kernel)⟩
theorem lw_p44 : lw_okq (⟨"OnlyDifferencesModel", "closesSums", "(Z)V"⟩, 67) := ⟨⟨by decide +kernel, by decide +kernel⟩, List.mem_of_getElem? (i := 1074) (by decide +kernel), List.mem_of_getElem? (i := 1346) (by decide +kernel), List.mem_of_getElem? (i := 1347) (by decide +kernel)⟩
theorem lw_p45 : lw_okq (⟨"OnlyDifferencesModel", "waitTop", "()I"⟩, 67) := ⟨⟨by decide +kernel, by decide +kernel⟩, List.mem_of_getElem? (i := 1074) (by decide +kernel), List.mem_of_getElem? (i := 1350) (by decide +kernel), List.mem_of_getElem? (i := 1351) (by decide +kernel)⟩
theorem lw_p46 : lw_okq (⟨"OnlyDifferencesModel", "hasOpenSum", "(I)Z"⟩, 67) := ⟨⟨by decide +kernel, by decide +kernel⟩, List.mem_of_getElem? (i := 1074) (by decide +kernel), List.mem_of_getElem? (i := 1354) (by decide +kernel), List.mem_of_getElem? (i := 1355) (by decide +kernel)⟩
theorem lw_p47 : lw_okq (⟨"OnlyDifferencesModel", "readsCondition", "()Z"⟩, 67) := ⟨⟨by decide +kernel, by decide +kernel⟩, List.mem_of_getElem? (i := 1074) (by decide +kernel), List.mem_of_getElem? (i := 1358) (by decide +kernel), List.mem_of_getElem? (i := 1359) (by decide +kernel)⟩
def lw_privs_3 : List (MethodName × Nat) := [(⟨"OnlyDifferences", "canBeTried", "(I)Z"⟩, 15), (⟨"OnlyDifferencesModel", "types", "(I)V"⟩, 67), (⟨"OnlyDifferencesModel", "beginsText", "(I)V"⟩, 67), (⟨"OnlyDifferencesModel", "readsRule", "()Z"⟩, 67), (⟨"OnlyDifferencesModel", "here", "()I"⟩, 67), (⟨"OnlyDifferencesModel", "wrongAt", "(II)Z"⟩, 67), (⟨"OnlyDifferencesModel", "readsSum", "()Z"⟩, 67), (⟨"OnlyDifferencesModel", "readsFactor", "()Z"⟩, 67), (⟨"OnlyDifferencesModel", "opens", "(I)Z"⟩, 67), (⟨"OnlyDifferencesModel", "isDigit", "()Z"⟩, 67), (⟨"OnlyDifferencesModel", "readsNumber", "()Z"⟩, 67), (⟨"OnlyDifferencesModel", "notes", "(II)V"⟩, 67), (⟨"OnlyDifferencesModel", "closesSums", "(Z)V"⟩, 67), (⟨"OnlyDifferencesModel", "waitTop", "()I"⟩, 67), (⟨"OnlyDifferencesModel", "hasOpenSum", "(I)Z"⟩, 67), (⟨"OnlyDifferencesModel", "readsCondition", "()Z"⟩, 67)]
theorem lw_r3 : ∀ q ∈ lw_privs_3, lw_okq q := List.forall_mem_cons.mpr ⟨lw_p32, List.forall_mem_cons.mpr ⟨lw_p33, List.forall_mem_cons.mpr ⟨lw_p34, List.forall_mem_cons.mpr ⟨lw_p35, List.forall_mem_cons.mpr ⟨lw_p36, List.forall_mem_cons.mpr ⟨lw_p37, List.forall_mem_cons.mpr ⟨lw_p38, List.forall_mem_cons.mpr ⟨lw_p39, List.forall_mem_cons.mpr ⟨lw_p40, List.forall_mem_cons.mpr ⟨lw_p41, List.forall_mem_cons.mpr ⟨lw_p42, List.forall_mem_cons.mpr ⟨lw_p43, List.forall_mem_cons.mpr ⟨lw_p44, List.forall_mem_cons.mpr ⟨lw_p45, List.forall_mem_cons.mpr ⟨lw_p46, List.forall_mem_cons.mpr ⟨lw_p47, fun _ h => absurd h List.not_mem_nil⟩⟩⟩⟩⟩⟩⟩⟩⟩⟩⟩⟩⟩⟩⟩⟩
theorem lw_p48 : lw_okq (⟨"OnlyDifferencesModel", "readsCompared", "()Z"⟩, 67) := ⟨⟨by decide +kernel, by decide +kernel⟩, List.mem_of_getElem? (i := 1074) (by decide +kernel), List.mem_of_getElem? (i := 1362) (by decide +kernel), List.mem_of_getElem? (i := 1363) (by decide +kernel)⟩
theorem lw_p49 : lw_okq (⟨"OnlyDifferencesModel", "endsPiece", "()V"⟩, 67) := ⟨⟨by decide +kernel, by decide +kernel⟩, List.mem_of_getElem? (i := 1074) (by decide +kernel), List.mem_of_getElem? (i := 1366) (by decide +kernel), List.mem_of_getElem? (i := 1367) (by decide +kernel)⟩
theorem lw_p50 : lw_okq (⟨"OnlyDifferencesModel", "lands", "(Z)V"⟩, 67) := ⟨⟨by decide +kernel, by decide +kernel⟩, List.mem_of_getElem? (i := 1074) (by decide +kernel), List.mem_of_getElem? (i := 1370) (by decide +kernel), List.mem_of_getElem? (i := 1371) (by decide +kernel)⟩
theorem lw_p51 : lw_okq (⟨"OnlyDifferencesModel", "jumps", "(I)V"⟩, 67) := ⟨⟨by decide +kernel, by decide +kernel⟩, List.mem_of_getElem? (i := 1074) (by decide +kernel), List.mem_of_getElem? (i := 1374) (by decide +kernel), List.mem_of_getElem? (i := 1375) (by decide +kernel)⟩
theorem lw_p52 : lw_okq (⟨"OnlyDifferencesModel", "takes", "(I)Z"⟩, 67) := ⟨⟨by decide +kernel, by decide +kernel⟩, List.mem_of_getElem? (i := 1074) (by decide +kernel), List.mem_of_getElem? (i := 1378) (by decide +kernel), List.mem_of_getElem? (i := 1379) (by decide +kernel)⟩
theorem lw_p53 : lw_okq (⟨"OnlyDifferencesModel", "readsClaim", "()Z"⟩, 67) := ⟨⟨by decide +kernel, by decide +kernel⟩, List.mem_of_getElem? (i := 1074) (by decide +kernel), List.mem_of_getElem? (i := 1386) (by decide +kernel), List.mem_of_getElem? (i := 1387) (by decide +kernel)⟩
theorem lw_p54 : lw_okq (⟨"OnlyDifferencesModel", "readsAmount", "()Z"⟩, 67) := ⟨⟨by decide +kernel, by decide +kernel⟩, List.mem_of_getElem? (i := 1074) (by decide +kernel), List.mem_of_getElem? (i := 1396) (by decide +kernel), List.mem_of_getElem? (i := 1397) (by decide +kernel)⟩
theorem lw_p55 : lw_okq (⟨"OnlyDifferencesModel", "canBeToo", "(I)Z"⟩, 67) := ⟨⟨by decide +kernel, by decide +kernel⟩, List.mem_of_getElem? (i := 1074) (by decide +kernel), List.mem_of_getElem? (i := 1400) (by decide +kernel), List.mem_of_getElem? (i := 1401) (by decide +kernel)⟩
theorem lw_p56 : lw_okq (⟨"OnlyDifferencesModel", "laysKnown", "([I[I[I[II)V"⟩, 67) := ⟨⟨by decide +kernel, by decide +kernel⟩, List.mem_of_getElem? (i := 1074) (by decide +kernel), List.mem_of_getElem? (i := 1404) (by decide +kernel), List.mem_of_getElem? (i := 1405) (by decide +kernel)⟩
theorem lw_p57 : lw_okq (⟨"OnlyDifferencesModel", "joins", "(III)V"⟩, 67) := ⟨⟨by decide +kernel, by decide +kernel⟩, List.mem_of_getElem? (i := 1074) (by decide +kernel), List.mem_of_getElem? (i := 1408) (by decide +kernel), List.mem_of_getElem? (i := 1409) (by decide +kernel)⟩
theorem lw_p58 : lw_okq (⟨"OnlyDifferencesModel", "groupOf", "(I)I"⟩, 67) := ⟨⟨by decide +kernel, by decide +kernel⟩, List.mem_of_getElem? (i := 1074) (by decide +kernel), List.mem_of_getElem? (i := 1426) (by decide +kernel), List.mem_of_getElem? (i := 1427) (by decide +kernel)⟩
theorem lw_p59 : lw_okq (⟨"OnlyDifferencesModel", "laysMost", "(I)V"⟩, 67) := ⟨⟨by decide +kernel, by decide +kernel⟩, List.mem_of_getElem? (i := 1074) (by decide +kernel), List.mem_of_getElem? (i := 1440) (by decide +kernel), List.mem_of_getElem? (i := 1441) (by decide +kernel)⟩
theorem lw_p60 : lw_okq (⟨"OnlyDifferencesModel", "laysTold", "(I)V"⟩, 67) := ⟨⟨by decide +kernel, by decide +kernel⟩, List.mem_of_getElem? (i := 1074) (by decide +kernel), List.mem_of_getElem? (i := 1444) (by decide +kernel), List.mem_of_getElem? (i := 1445) (by decide +kernel)⟩
theorem lw_p61 : lw_okq (⟨"OnlyDifferencesModel", "tells", "(III)V"⟩, 67) := ⟨⟨by decide +kernel, by decide +kernel⟩, List.mem_of_getElem? (i := 1074) (by decide +kernel), List.mem_of_getElem? (i := 1449) (by decide +kernel), List.mem_of_getElem? (i := 1450) (by decide +kernel)⟩
theorem lw_p62 : lw_okq (⟨"OnlyDifferencesModel", "canBeSo", "()Z"⟩, 67) := ⟨⟨by decide +kernel, by decide +kernel⟩, List.mem_of_getElem? (i := 1074) (by decide +kernel), List.mem_of_getElem? (i := 1459) (by decide +kernel), List.mem_of_getElem? (i := 1460) (by decide +kernel)⟩
theorem lw_p63 : lw_okq (⟨"OnlyDifferencesModel", "most", "(II)I"⟩, 67) := ⟨⟨by decide +kernel, by decide +kernel⟩, List.mem_of_getElem? (i := 1074) (by decide +kernel), List.mem_of_getElem? (i := 1463) (by decide +kernel), List.mem_of_getElem? (i := 1464) (by decide +kernel)⟩
def lw_privs_4 : List (MethodName × Nat) := [(⟨"OnlyDifferencesModel", "readsCompared", "()Z"⟩, 67), (⟨"OnlyDifferencesModel", "endsPiece", "()V"⟩, 67), (⟨"OnlyDifferencesModel", "lands", "(Z)V"⟩, 67), (⟨"OnlyDifferencesModel", "jumps", "(I)V"⟩, 67), (⟨"OnlyDifferencesModel", "takes", "(I)Z"⟩, 67), (⟨"OnlyDifferencesModel", "readsClaim", "()Z"⟩, 67), (⟨"OnlyDifferencesModel", "readsAmount", "()Z"⟩, 67), (⟨"OnlyDifferencesModel", "canBeToo", "(I)Z"⟩, 67), (⟨"OnlyDifferencesModel", "laysKnown", "([I[I[I[II)V"⟩, 67), (⟨"OnlyDifferencesModel", "joins", "(III)V"⟩, 67), (⟨"OnlyDifferencesModel", "groupOf", "(I)I"⟩, 67), (⟨"OnlyDifferencesModel", "laysMost", "(I)V"⟩, 67), (⟨"OnlyDifferencesModel", "laysTold", "(I)V"⟩, 67), (⟨"OnlyDifferencesModel", "tells", "(III)V"⟩, 67), (⟨"OnlyDifferencesModel", "canBeSo", "()Z"⟩, 67), (⟨"OnlyDifferencesModel", "most", "(II)I"⟩, 67)]
theorem lw_r4 : ∀ q ∈ lw_privs_4, lw_okq q := List.forall_mem_cons.mpr ⟨lw_p48, List.forall_mem_cons.mpr ⟨lw_p49, List.forall_mem_cons.mpr ⟨lw_p50, List.forall_mem_cons.mpr ⟨lw_p51, List.forall_mem_cons.mpr ⟨lw_p52, List.forall_mem_cons.mpr ⟨lw_p53, List.forall_mem_cons.mpr ⟨lw_p54, List.forall_mem_cons.mpr ⟨lw_p55, List.forall_mem_cons.mpr ⟨lw_p56, List.forall_mem_cons.mpr ⟨lw_p57, List.forall_mem_cons.mpr ⟨lw_p58, List.forall_mem_cons.mpr ⟨lw_p59, List.forall_mem_cons.mpr ⟨lw_p60, List.forall_mem_cons.mpr ⟨lw_p61, List.forall_mem_cons.mpr ⟨lw_p62, List.forall_mem_cons.mpr ⟨lw_p63, fun _ h => absurd h List.not_mem_nil⟩⟩⟩⟩⟩⟩⟩⟩⟩⟩⟩⟩⟩⟩⟩⟩
theorem lw_p64 : lw_okq (⟨"OnlyDifferencesModel", "leastRing", "()I"⟩, 67) := ⟨⟨by decide +kernel, by decide +kernel⟩, List.mem_of_getElem? (i := 1074) (by decide +kernel), List.mem_of_getElem? (i := 1471) (by decide +kernel), List.mem_of_getElem? (i := 1472) (by decide +kernel)⟩
theorem lw_p65 : lw_okq (⟨"OnlyDifferencesModel", "laysRings", "()V"⟩, 67) := ⟨⟨by decide +kernel, by decide +kernel⟩, List.mem_of_getElem? (i := 1074) (by decide +kernel), List.mem_of_getElem? (i := 1475) (by decide +kernel), List.mem_of_getElem? (i := 1476) (by decide +kernel)⟩
theorem lw_p66 : lw_okq (⟨"OnlyDifferencesModel", "sumBy", "(II)I"⟩, 67) := ⟨⟨by decide +kernel, by decide +kernel⟩, List.mem_of_getElem? (i := 1074) (by decide +kernel), List.mem_of_getElem? (i := 1479) (by decide +kernel), List.mem_of_getElem? (i := 1480) (by decide +kernel)⟩
theorem lw_p67 : lw_okq (⟨"OnlyDifferencesModel", "told", "(II)I"⟩, 67) := ⟨⟨by decide +kernel, by decide +kernel⟩, List.mem_of_getElem? (i := 1074) (by decide +kernel), List.mem_of_getElem? (i := 1483) (by decide +kernel), List.mem_of_getElem? (i := 1484) (by decide +kernel)⟩
theorem lw_p68 : lw_okq (⟨"OnlyDifferencesModel", "isRing", "(I)Z"⟩, 67) := ⟨⟨by decide +kernel, by decide +kernel⟩, List.mem_of_getElem? (i := 1074) (by decide +kernel), List.mem_of_getElem? (i := 1490) (by decide +kernel), List.mem_of_getElem? (i := 1491) (by decide +kernel)⟩
theorem lw_p69 : lw_okq (⟨"OnlyDifferencesModel", "isIdle", "(I)Z"⟩, 67) := ⟨⟨by decide +kernel, by decide +kernel⟩, List.mem_of_getElem? (i := 1074) (by decide +kernel), List.mem_of_getElem? (i := 1498) (by decide +kernel), List.mem_of_getElem? (i := 1499) (by decide +kernel)⟩
theorem lw_p70 : lw_okq (⟨"OnlyDifferencesModel", "moreThan", "(I)I"⟩, 67) := ⟨⟨by decide +kernel, by decide +kernel⟩, List.mem_of_getElem? (i := 1074) (by decide +kernel), List.mem_of_getElem? (i := 1506) (by decide +kernel), List.mem_of_getElem? (i := 1507) (by decide +kernel)⟩
theorem lw_p71 : lw_okq (⟨"OnlyDifferencesModel", "lessThan", "(I)I"⟩, 67) := ⟨⟨by decide +kernel, by decide +kernel⟩, List.mem_of_getElem? (i := 1074) (by decide +kernel), List.mem_of_getElem? (i := 1510) (by decide +kernel), List.mem_of_getElem? (i := 1511) (by decide +kernel)⟩
theorem lw_p72 : lw_okq (⟨"OnlyDifferencesModel", "claimHolds", "(I)Z"⟩, 67) := ⟨⟨by decide +kernel, by decide +kernel⟩, List.mem_of_getElem? (i := 1074) (by decide +kernel), List.mem_of_getElem? (i := 1534) (by decide +kernel), List.mem_of_getElem? (i := 1535) (by decide +kernel)⟩
theorem lw_p73 : lw_okq (⟨"OnlyDifferencesModel", "octet", "(I)I"⟩, 67) := ⟨⟨by decide +kernel, by decide +kernel⟩, List.mem_of_getElem? (i := 1074) (by decide +kernel), List.mem_of_getElem? (i := 1543) (by decide +kernel), List.mem_of_getElem? (i := 1544) (by decide +kernel)⟩
theorem lw_p74 : lw_okq (⟨"OnlyDifferencesModel", "areAlike", "(I)Z"⟩, 67) := ⟨⟨by decide +kernel, by decide +kernel⟩, List.mem_of_getElem? (i := 1074) (by decide +kernel), List.mem_of_getElem? (i := 1547) (by decide +kernel), List.mem_of_getElem? (i := 1548) (by decide +kernel)⟩
theorem lw_p75 : lw_okq (⟨"OnlyDifferencesModel", "signed", "(I)I"⟩, 67) := ⟨⟨by decide +kernel, by decide +kernel⟩, List.mem_of_getElem? (i := 1074) (by decide +kernel), List.mem_of_getElem? (i := 1555) (by decide +kernel), List.mem_of_getElem? (i := 1556) (by decide +kernel)⟩
theorem lw_p76 : lw_okq (⟨"OnlyDifferencesModel", "ringOf", "(I)I"⟩, 67) := ⟨⟨by decide +kernel, by decide +kernel⟩, List.mem_of_getElem? (i := 1074) (by decide +kernel), List.mem_of_getElem? (i := 1563) (by decide +kernel), List.mem_of_getElem? (i := 1564) (by decide +kernel)⟩
theorem lw_p77 : lw_okq (⟨"OnlyDifferencesModel", "begins", "([II)V"⟩, 67) := ⟨⟨by decide +kernel, by decide +kernel⟩, List.mem_of_getElem? (i := 1074) (by decide +kernel), List.mem_of_getElem? (i := 1567) (by decide +kernel), List.mem_of_getElem? (i := 1568) (by decide +kernel)⟩
theorem lw_p78 : lw_okq (⟨"OnlyDifferencesModel", "aheadOf", "(II)I"⟩, 67) := ⟨⟨by decide +kernel, by decide +kernel⟩, List.mem_of_getElem? (i := 1074) (by decide +kernel), List.mem_of_getElem? (i := 1580) (by decide +kernel), List.mem_of_getElem? (i := 1581) (by decide +kernel)⟩
theorem lw_p79 : lw_okq (⟨"OnlyDifferencesModel", "isTriangle", "(III)Z"⟩, 67) := ⟨⟨by decide +kernel, by decide +kernel⟩, List.mem_of_getElem? (i := 1074) (by decide +kernel), List.mem_of_getElem? (i := 1588) (by decide +kernel), List.mem_of_getElem? (i := 1589) (by decide +kernel)⟩
def lw_privs_5 : List (MethodName × Nat) := [(⟨"OnlyDifferencesModel", "leastRing", "()I"⟩, 67), (⟨"OnlyDifferencesModel", "laysRings", "()V"⟩, 67), (⟨"OnlyDifferencesModel", "sumBy", "(II)I"⟩, 67), (⟨"OnlyDifferencesModel", "told", "(II)I"⟩, 67), (⟨"OnlyDifferencesModel", "isRing", "(I)Z"⟩, 67), (⟨"OnlyDifferencesModel", "isIdle", "(I)Z"⟩, 67), (⟨"OnlyDifferencesModel", "moreThan", "(I)I"⟩, 67), (⟨"OnlyDifferencesModel", "lessThan", "(I)I"⟩, 67), (⟨"OnlyDifferencesModel", "claimHolds", "(I)Z"⟩, 67), (⟨"OnlyDifferencesModel", "octet", "(I)I"⟩, 67), (⟨"OnlyDifferencesModel", "areAlike", "(I)Z"⟩, 67), (⟨"OnlyDifferencesModel", "signed", "(I)I"⟩, 67), (⟨"OnlyDifferencesModel", "ringOf", "(I)I"⟩, 67), (⟨"OnlyDifferencesModel", "begins", "([II)V"⟩, 67), (⟨"OnlyDifferencesModel", "aheadOf", "(II)I"⟩, 67), (⟨"OnlyDifferencesModel", "isTriangle", "(III)Z"⟩, 67)]
theorem lw_r5 : ∀ q ∈ lw_privs_5, lw_okq q := List.forall_mem_cons.mpr ⟨lw_p64, List.forall_mem_cons.mpr ⟨lw_p65, List.forall_mem_cons.mpr ⟨lw_p66, List.forall_mem_cons.mpr ⟨lw_p67, List.forall_mem_cons.mpr ⟨lw_p68, List.forall_mem_cons.mpr ⟨lw_p69, List.forall_mem_cons.mpr ⟨lw_p70, List.forall_mem_cons.mpr ⟨lw_p71, List.forall_mem_cons.mpr ⟨lw_p72, List.forall_mem_cons.mpr ⟨lw_p73, List.forall_mem_cons.mpr ⟨lw_p74, List.forall_mem_cons.mpr ⟨lw_p75, List.forall_mem_cons.mpr ⟨lw_p76, List.forall_mem_cons.mpr ⟨lw_p77, List.forall_mem_cons.mpr ⟨lw_p78, List.forall_mem_cons.mpr ⟨lw_p79, fun _ h => absurd h List.not_mem_nil⟩⟩⟩⟩⟩⟩⟩⟩⟩⟩⟩⟩⟩⟩⟩⟩
theorem lw_p80 : lw_okq (⟨"OnlyDifferencesModel", "laysHeights", "(I)V"⟩, 67) := ⟨⟨by decide +kernel, by decide +kernel⟩, List.mem_of_getElem? (i := 1074) (by decide +kernel), List.mem_of_getElem? (i := 1600) (by decide +kernel), List.mem_of_getElem? (i := 1601) (by decide +kernel)⟩
theorem lw_p81 : lw_okq (⟨"OnlyDifferencesModel", "unlikeBy", "(II)I"⟩, 67) := ⟨⟨by decide +kernel, by decide +kernel⟩, List.mem_of_getElem? (i := 1074) (by decide +kernel), List.mem_of_getElem? (i := 1616) (by decide +kernel), List.mem_of_getElem? (i := 1617) (by decide +kernel)⟩
theorem lw_p82 : lw_okq (⟨"OnlyDifferencesModel", "unsteady", "(I)I"⟩, 67) := ⟨⟨by decide +kernel, by decide +kernel⟩, List.mem_of_getElem? (i := 1074) (by decide +kernel), List.mem_of_getElem? (i := 1624) (by decide +kernel), List.mem_of_getElem? (i := 1625) (by decide +kernel)⟩
theorem lw_p83 : lw_okq (⟨"OnlyDifferencesModel", "steadyBy", "(II)I"⟩, 67) := ⟨⟨by decide +kernel, by decide +kernel⟩, List.mem_of_getElem? (i := 1074) (by decide +kernel), List.mem_of_getElem? (i := 1628) (by decide +kernel), List.mem_of_getElem? (i := 1629) (by decide +kernel)⟩
theorem lw_p84 : lw_okq (⟨"OnlyDifferencesModel", "areUnlike", "(I)Z"⟩, 67) := ⟨⟨by decide +kernel, by decide +kernel⟩, List.mem_of_getElem? (i := 1074) (by decide +kernel), List.mem_of_getElem? (i := 1639) (by decide +kernel), List.mem_of_getElem? (i := 1640) (by decide +kernel)⟩
theorem lw_p85 : lw_okq (⟨"OnlyDifferencesModel", "readsStall", "()Z"⟩, 67) := ⟨⟨by decide +kernel, by decide +kernel⟩, List.mem_of_getElem? (i := 1074) (by decide +kernel), List.mem_of_getElem? (i := 1651) (by decide +kernel), List.mem_of_getElem? (i := 1652) (by decide +kernel)⟩
theorem lw_p86 : lw_okq (⟨"OnlyDifferencesModel", "daysGo", "(I)V"⟩, 67) := ⟨⟨by decide +kernel, by decide +kernel⟩, List.mem_of_getElem? (i := 1074) (by decide +kernel), List.mem_of_getElem? (i := 1659) (by decide +kernel), List.mem_of_getElem? (i := 1660) (by decide +kernel)⟩
theorem lw_p87 : lw_okq (⟨"OnlyDifferencesModel", "dayGoes", "()V"⟩, 67) := ⟨⟨by decide +kernel, by decide +kernel⟩, List.mem_of_getElem? (i := 1074) (by decide +kernel), List.mem_of_getElem? (i := 1663) (by decide +kernel), List.mem_of_getElem? (i := 1664) (by decide +kernel)⟩
theorem lw_p88 : lw_okq (⟨"OnlyDifferencesModel", "isStall", "(I)Z"⟩, 67) := ⟨⟨by decide +kernel, by decide +kernel⟩, List.mem_of_getElem? (i := 1074) (by decide +kernel), List.mem_of_getElem? (i := 1667) (by decide +kernel), List.mem_of_getElem? (i := 1668) (by decide +kernel)⟩
theorem lw_p89 : lw_okq (⟨"OnlyDifferencesModel", "sells", "(I)V"⟩, 67) := ⟨⟨by decide +kernel, by decide +kernel⟩, List.mem_of_getElem? (i := 1074) (by decide +kernel), List.mem_of_getElem? (i := 1671) (by decide +kernel), List.mem_of_getElem? (i := 1672) (by decide +kernel)⟩
theorem lw_p90 : lw_okq (⟨"OnlyDifferencesModel", "between", "(I)I"⟩, 67) := ⟨⟨by decide +kernel, by decide +kernel⟩, List.mem_of_getElem? (i := 1074) (by decide +kernel), List.mem_of_getElem? (i := 1676) (by decide +kernel), List.mem_of_getElem? (i := 1677) (by decide +kernel)⟩
theorem lw_p91 : lw_okq (⟨"OnlyDifferencesModel", "feels", "(II)V"⟩, 67) := ⟨⟨by decide +kernel, by decide +kernel⟩, List.mem_of_getElem? (i := 1074) (by decide +kernel), List.mem_of_getElem? (i := 1680) (by decide +kernel), List.mem_of_getElem? (i := 1681) (by decide +kernel)⟩
theorem lw_p92 : lw_okq (⟨"OnlyDifferencesModel", "othersMore", "(I)I"⟩, 67) := ⟨⟨by decide +kernel, by decide +kernel⟩, List.mem_of_getElem? (i := 1074) (by decide +kernel), List.mem_of_getElem? (i := 1684) (by decide +kernel), List.mem_of_getElem? (i := 1685) (by decide +kernel)⟩
theorem lw_p93 : lw_okq (⟨"OnlyDifferencesModel", "holdsAny", "(I)Z"⟩, 67) := ⟨⟨by decide +kernel, by decide +kernel⟩, List.mem_of_getElem? (i := 1074) (by decide +kernel), List.mem_of_getElem? (i := 1688) (by decide +kernel), List.mem_of_getElem? (i := 1689) (by decide +kernel)⟩
theorem lw_p94 : lw_okq (⟨"OnlyDifferencesModel", "reckonsTo", "(II)I"⟩, 67) := ⟨⟨by decide +kernel, by decide +kernel⟩, List.mem_of_getElem? (i := 1074) (by decide +kernel), List.mem_of_getElem? (i := 1692) (by decide +kernel), List.mem_of_getElem? (i := 1693) (by decide +kernel)⟩
theorem lw_p95 : lw_okq (⟨"OnlyDifferencesModel", "byLaw", "(III)I"⟩, 67) := ⟨⟨by decide +kernel, by decide +kernel⟩, List.mem_of_getElem? (i := 1074) (by decide +kernel), List.mem_of_getElem? (i := 1699) (by decide +kernel), List.mem_of_getElem? (i := 1700) (by decide +kernel)⟩
def lw_privs_6 : List (MethodName × Nat) := [(⟨"OnlyDifferencesModel", "laysHeights", "(I)V"⟩, 67), (⟨"OnlyDifferencesModel", "unlikeBy", "(II)I"⟩, 67), (⟨"OnlyDifferencesModel", "unsteady", "(I)I"⟩, 67), (⟨"OnlyDifferencesModel", "steadyBy", "(II)I"⟩, 67), (⟨"OnlyDifferencesModel", "areUnlike", "(I)Z"⟩, 67), (⟨"OnlyDifferencesModel", "readsStall", "()Z"⟩, 67), (⟨"OnlyDifferencesModel", "daysGo", "(I)V"⟩, 67), (⟨"OnlyDifferencesModel", "dayGoes", "()V"⟩, 67), (⟨"OnlyDifferencesModel", "isStall", "(I)Z"⟩, 67), (⟨"OnlyDifferencesModel", "sells", "(I)V"⟩, 67), (⟨"OnlyDifferencesModel", "between", "(I)I"⟩, 67), (⟨"OnlyDifferencesModel", "feels", "(II)V"⟩, 67), (⟨"OnlyDifferencesModel", "othersMore", "(I)I"⟩, 67), (⟨"OnlyDifferencesModel", "holdsAny", "(I)Z"⟩, 67), (⟨"OnlyDifferencesModel", "reckonsTo", "(II)I"⟩, 67), (⟨"OnlyDifferencesModel", "byLaw", "(III)I"⟩, 67)]
theorem lw_r6 : ∀ q ∈ lw_privs_6, lw_okq q := List.forall_mem_cons.mpr ⟨lw_p80, List.forall_mem_cons.mpr ⟨lw_p81, List.forall_mem_cons.mpr ⟨lw_p82, List.forall_mem_cons.mpr ⟨lw_p83, List.forall_mem_cons.mpr ⟨lw_p84, List.forall_mem_cons.mpr ⟨lw_p85, List.forall_mem_cons.mpr ⟨lw_p86, List.forall_mem_cons.mpr ⟨lw_p87, List.forall_mem_cons.mpr ⟨lw_p88, List.forall_mem_cons.mpr ⟨lw_p89, List.forall_mem_cons.mpr ⟨lw_p90, List.forall_mem_cons.mpr ⟨lw_p91, List.forall_mem_cons.mpr ⟨lw_p92, List.forall_mem_cons.mpr ⟨lw_p93, List.forall_mem_cons.mpr ⟨lw_p94, List.forall_mem_cons.mpr ⟨lw_p95, fun _ h => absurd h List.not_mem_nil⟩⟩⟩⟩⟩⟩⟩⟩⟩⟩⟩⟩⟩⟩⟩⟩
theorem lw_p96 : lw_okq (⟨"OnlyDifferencesModel", "moneyOfAll", "()I"⟩, 67) := ⟨⟨by decide +kernel, by decide +kernel⟩, List.mem_of_getElem? (i := 1074) (by decide +kernel), List.mem_of_getElem? (i := 1711) (by decide +kernel), List.mem_of_getElem? (i := 1712) (by decide +kernel)⟩
theorem lw_p97 : lw_okq (⟨"OnlyDifferencesModel", "thingsInClaims", "()I"⟩, 67) := ⟨⟨by decide +kernel, by decide +kernel⟩, List.mem_of_getElem? (i := 1074) (by decide +kernel), List.mem_of_getElem? (i := 1748) (by decide +kernel), List.mem_of_getElem? (i := 1749) (by decide +kernel)⟩
theorem lw_p98 : lw_okq (⟨"OnlyDifferencesModel", "betweenInAll", "()I"⟩, 67) := ⟨⟨by decide +kernel, by decide +kernel⟩, List.mem_of_getElem? (i := 1074) (by decide +kernel), List.mem_of_getElem? (i := 1752) (by decide +kernel), List.mem_of_getElem? (i := 1753) (by decide +kernel)⟩
def lw_privs_7 : List (MethodName × Nat) := [(⟨"OnlyDifferencesModel", "moneyOfAll", "()I"⟩, 67), (⟨"OnlyDifferencesModel", "thingsInClaims", "()I"⟩, 67), (⟨"OnlyDifferencesModel", "betweenInAll", "()I"⟩, 67)]
theorem lw_r7 : ∀ q ∈ lw_privs_7, lw_okq q := List.forall_mem_cons.mpr ⟨lw_p96, List.forall_mem_cons.mpr ⟨lw_p97, List.forall_mem_cons.mpr ⟨lw_p98, fun _ h => absurd h List.not_mem_nil⟩⟩⟩
def lw_privs : List (MethodName × Nat) := lw_privs_1 ++ (lw_privs_2 ++ (lw_privs_3 ++ (lw_privs_4 ++ (lw_privs_5 ++ (lw_privs_6 ++ (lw_privs_7))))))
def lw_tbl : List Cond := k2_sels lw_privs ++ tables_1
theorem lw_privs_ok : ∀ q ∈ lw_privs, lw_okq q := by
  show ∀ q ∈ lw_privs_1 ++ (lw_privs_2 ++ (lw_privs_3 ++ (lw_privs_4 ++ (lw_privs_5 ++ (lw_privs_6 ++ (lw_privs_7)))))), lw_okq q
  exact List.forall_mem_append.mpr ⟨lw_r1, List.forall_mem_append.mpr ⟨lw_r2, List.forall_mem_append.mpr ⟨lw_r3, List.forall_mem_append.mpr ⟨lw_r4, List.forall_mem_append.mpr ⟨lw_r5, List.forall_mem_append.mpr ⟨lw_r6, lw_r7⟩⟩⟩⟩⟩⟩
-- ===== end of PART A; then your names; then what follows =====
/-! ===== BEGIN words of one list among another's, by their places ===== -/
theorem goodIn_r {big : List Cond} (ws : List Cond) (ps : List Nat) (hp : ws = ps.filterMap (fun i => big[i]?)) (h : ws.all goodWord = true) : GoodIn big ws := by
  intro w hw
  have h1 := List.all_eq_true.mp h w hw
  rw [hp] at hw
  obtain ⟨i, -, hi⟩ := List.mem_filterMap.mp hw
  have hm : w ∈ big := by first | exact List.mem_of_getElem? hi | exact List.getElem?_mem hi
  exact ⟨hm, good_of_word h1⟩
theorem goodIn_app {big a b : List Cond} (ha : GoodIn big a) (hb : GoodIn big b) : GoodIn big (a ++ b) := fun w h => (List.mem_append.mp h).elim (ha w) (hb w)
theorem goodIn_ca {big a b : List Cond} {c : Cond} (ha : GoodIn big (c :: a)) (hb : GoodIn big b) : GoodIn big (c :: (a ++ b)) := fun w h => (List.mem_cons.mp h).elim (fun e => ha w (List.mem_cons.mpr (Or.inl e))) (fun h => (List.mem_append.mp h).elim (fun h => ha w (List.mem_cons.mpr (Or.inr h))) (hb w))
theorem goodIn_sub {big ws : List Cond} (hm : ∀ w ∈ ws, w ∈ big) (h : ws.all goodWord = true) : GoodIn big ws := fun w hw => ⟨hm w hw, good_of_word (List.all_eq_true.mp h w hw)⟩
/-! ===== END ===== -/

/-! ===== BEGIN printed: names, fields, word lists, decode rows ===== -/
def RX0 : String := "OnlyDifferences$Bounds"
def TX0 : u_T := fun k => match k with
  | 0 => ("OnlyDifferences$Bounds", "direct", "[I", true)
  | 1 => ("OnlyDifferences$Bounds", "byAll", "[I", true)
  | 2 => ("OnlyDifferences$Bounds", "more", "[I", true)
  | _ => ("OnlyDifferences$Bounds", "canHold", "Z", false)
def tyX0 : Nat → FieldType := fun k => match k with
  | 0 => .array .int
  | 1 => .array .int
  | 2 => .array .int
  | _ => .boolean
abbrev wsX00 : List Cond := u_ws RX0 TX0 4
theorem nmX0 : ∀ a, a < 4 → ∀ b, b < 4 → a ≠ b → (TX0 a).2.1 ≠ (TX0 b).2.1 := by decide +kernel
theorem tyX0_ok : ∀ k, k < 4 → parseFieldDescriptor (TX0 k).2.2.1 = some (tyX0 k) := by decide +kernel
abbrev cX0_init : ByteArray := prog_2_method_1_code
def yX0_init : MethodName := ⟨RX0, "<init>", "()V"⟩
abbrev cX0_follow : ByteArray := prog_2_method_2_code
def yX0_follow : MethodName := ⟨RX0, "follow", "(LOnlyDifferences$Claims;I)V"⟩
abbrev cX0_tellAll : ByteArray := prog_2_method_3_code
def yX0_tellAll : MethodName := ⟨RX0, "tellAll", "(LOnlyDifferences$Claims;I)V"⟩
abbrev cX0_tellBothSides : ByteArray := prog_2_method_4_code
def yX0_tellBothSides : MethodName := ⟨RX0, "tellBothSides", "(LOnlyDifferences$Claims;I)V"⟩
abbrev cX0_tell : ByteArray := prog_2_method_5_code
def yX0_tell : MethodName := ⟨RX0, "tell", "(III)V"⟩
abbrev cX0_goBy : ByteArray := prog_2_method_6_code
def yX0_goBy : MethodName := ⟨RX0, "goBy", "(I)V"⟩
abbrev cX0_isNoneBelowItself : ByteArray := prog_2_method_7_code
def yX0_isNoneBelowItself : MethodName := ⟨RX0, "isNoneBelowItself", "()Z"⟩
abbrev cX0_most : ByteArray := prog_2_method_8_code
def yX0_most : MethodName := ⟨RX0, "most", "(II)I"⟩
abbrev cX0_isLike : ByteArray := prog_2_method_9_code
def yX0_isLike : MethodName := ⟨RX0, "isLike", "(LOnlyDifferences$Bounds;)Z"⟩
abbrev cX0_moreThan : ByteArray := prog_2_method_10_code
def yX0_moreThan : MethodName := ⟨RX0, "moreThan", "(I)I"⟩
abbrev cX0_lessThan : ByteArray := prog_2_method_11_code
def yX0_lessThan : MethodName := ⟨RX0, "lessThan", "(I)I"⟩
abbrev cX0_leastWeight : ByteArray := prog_2_method_12_code
def yX0_leastWeight : MethodName := ⟨RX0, "leastWeight", "(I)I"⟩
abbrev cX0_chainsFrom : ByteArray := prog_2_method_13_code
def yX0_chainsFrom : MethodName := ⟨RX0, "chainsFrom", "([I)V"⟩
abbrev cX0_ordersOf : ByteArray := prog_2_method_14_code
def yX0_ordersOf : MethodName := ⟨RX0, "ordersOf", "(I[I)I"⟩
abbrev cX0_ordersByLast : ByteArray := prog_2_method_15_code
def yX0_ordersByLast : MethodName := ⟨RX0, "ordersByLast", "(I[I)I"⟩
abbrev cX0_waysToWeigh : ByteArray := prog_2_method_16_code
def yX0_waysToWeigh : MethodName := ⟨RX0, "waysToWeigh", "([I[IIII)I"⟩
abbrev cX0_fits : ByteArray := prog_2_method_17_code
def yX0_fits : MethodName := ⟨RX0, "fits", "([I[III)Z"⟩
def RX1 : String := "OnlyDifferences$Claims"
def TX1 : u_T := fun k => match k with
  | 0 => ("OnlyDifferences$Claims", "size", "I", false)
  | 1 => ("OnlyDifferences$Claims", "first", "[I", true)
  | 2 => ("OnlyDifferences$Claims", "second", "[I", true)
  | 3 => ("OnlyDifferences$Claims", "kind", "[I", true)
  | 4 => ("OnlyDifferences$Claims", "number", "[I", true)
  | 5 => ("OnlyDifferences$Claims", "group", "[I", true)
  | _ => ("OnlyDifferences$Claims", "over", "[I", true)
def tyX1 : Nat → FieldType := fun k => match k with
  | 0 => .int
  | 1 => .array .int
  | 2 => .array .int
  | 3 => .array .int
  | 4 => .array .int
  | 5 => .array .int
  | _ => .array .int
abbrev wsX10 : List Cond := u_ws RX1 TX1 7
theorem nmX1 : ∀ a, a < 7 → ∀ b, b < 7 → a ≠ b → (TX1 a).2.1 ≠ (TX1 b).2.1 := by decide +kernel
theorem tyX1_ok : ∀ k, k < 7 → parseFieldDescriptor (TX1 k).2.2.1 = some (tyX1 k) := by decide +kernel
abbrev cX1_init : ByteArray := prog_3_method_1_code
def yX1_init : MethodName := ⟨RX1, "<init>", "()V"⟩
abbrev cX1_clear : ByteArray := prog_3_method_2_code
def yX1_clear : MethodName := ⟨RX1, "clear", "()V"⟩
abbrev cX1_read : ByteArray := prog_3_method_3_code
def yX1_read : MethodName := ⟨RX1, "read", "(LOnlyDifferences$Tape;I)I"⟩
abbrev cX1_readLine : ByteArray := prog_3_method_4_code
def yX1_readLine : MethodName := ⟨RX1, "readLine", "(LOnlyDifferences$Tape;)V"⟩
abbrev cX1_readKind : ByteArray := prog_3_method_5_code
def yX1_readKind : MethodName := ⟨RX1, "readKind", "(LOnlyDifferences$Tape;)I"⟩
abbrev cX1_add : ByteArray := prog_3_method_6_code
def yX1_add : MethodName := ⟨RX1, "add", "(IIII)V"⟩
abbrev cX1_join : ByteArray := prog_3_method_7_code
def yX1_join : MethodName := ⟨RX1, "join", "(III)Z"⟩
abbrev cX1_hasNumber : ByteArray := prog_3_method_8_code
def yX1_hasNumber : MethodName := ⟨RX1, "hasNumber", "(I)Z"⟩
abbrev cX1_difference : ByteArray := prog_3_method_9_code
def yX1_difference : MethodName := ⟨RX1, "difference", "(II)I"⟩
abbrev cX1_groupOf : ByteArray := prog_3_method_10_code
def yX1_groupOf : MethodName := ⟨RX1, "groupOf", "(I)I"⟩
abbrev cX1_groupCount : ByteArray := prog_3_method_11_code
def yX1_groupCount : MethodName := ⟨RX1, "groupCount", "()I"⟩
abbrev cX1_things : ByteArray := prog_3_method_12_code
def yX1_things : MethodName := ⟨RX1, "things", "()I"⟩
def RX2 : String := "OnlyDifferences$Law"
def TX2 : u_T := fun k => match k with
  | 0 => ("OnlyDifferences$Law", "size", "I", false)
  | 1 => ("OnlyDifferences$Law", "letter", "[I", true)
  | 2 => ("OnlyDifferences$Law", "valueAt", "[I", true)
  | 3 => ("OnlyDifferences$Law", "testAt", "[I", true)
  | 4 => ("OnlyDifferences$Law", "endAt", "[I", true)
  | 5 => ("OnlyDifferences$Law", "length", "I", false)
  | 6 => ("OnlyDifferences$Law", "sign", "[I", true)
  | 7 => ("OnlyDifferences$Law", "beside", "[I", true)
  | 8 => ("OnlyDifferences$Law", "seen", "[I", true)
  | 9 => ("OnlyDifferences$Law", "stack", "[I", true)
  | _ => ("OnlyDifferences$Law", "height", "I", false)
def tyX2 : Nat → FieldType := fun k => match k with
  | 0 => .int
  | 1 => .array .int
  | 2 => .array .int
  | 3 => .array .int
  | 4 => .array .int
  | 5 => .int
  | 6 => .array .int
  | 7 => .array .int
  | 8 => .array .int
  | 9 => .array .int
  | _ => .int
abbrev wsX20 : List Cond := u_ws RX2 TX2 11
theorem nmX2 : ∀ a, a < 11 → ∀ b, b < 11 → a ≠ b → (TX2 a).2.1 ≠ (TX2 b).2.1 := by decide +kernel
theorem tyX2_ok : ∀ k, k < 11 → parseFieldDescriptor (TX2 k).2.2.1 = some (tyX2 k) := by decide +kernel
abbrev cX2_init : ByteArray := prog_4_method_1_code
def yX2_init : MethodName := ⟨RX2, "<init>", "()V"⟩
abbrev cX2_clear : ByteArray := prog_4_method_2_code
def yX2_clear : MethodName := ⟨RX2, "clear", "()V"⟩
abbrev cX2_add : ByteArray := prog_4_method_3_code
def yX2_add : MethodName := ⟨RX2, "add", "(II)I"⟩
abbrev cX2_goOnHere : ByteArray := prog_4_method_4_code
def yX2_goOnHere : MethodName := ⟨RX2, "goOnHere", "(I)V"⟩
abbrev cX2_addRule : ByteArray := prog_4_method_5_code
def yX2_addRule : MethodName := ⟨RX2, "addRule", "(III)V"⟩
abbrev cX2_look : ByteArray := prog_4_method_6_code
def yX2_look : MethodName := ⟨RX2, "look", "(LOnlyDifferences$Market;II)V"⟩
abbrev cX2_shuts : ByteArray := prog_4_method_7_code
def yX2_shuts : MethodName := ⟨RX2, "shuts", "()Z"⟩
abbrev cX2_ask : ByteArray := prog_4_method_8_code
def yX2_ask : MethodName := ⟨RX2, "ask", "(III)I"⟩
abbrev cX2_run : ByteArray := prog_4_method_9_code
def yX2_run : MethodName := ⟨RX2, "run", "(II)I"⟩
abbrev cX2_isPushed : ByteArray := prog_4_method_10_code
def yX2_isPushed : MethodName := ⟨RX2, "isPushed", "(I)Z"⟩
abbrev cX2_reckon : ByteArray := prog_4_method_11_code
def yX2_reckon : MethodName := ⟨RX2, "reckon", "(III)I"⟩
abbrev cX2_push : ByteArray := prog_4_method_12_code
def yX2_push : MethodName := ⟨RX2, "push", "(I)V"⟩
abbrev cX2_pop : ByteArray := prog_4_method_13_code
def yX2_pop : MethodName := ⟨RX2, "pop", "()I"⟩
def RX3 : String := "OnlyDifferences$LawReader"
def TX3 : u_T := fun k => match k with
  | 0 => ("OnlyDifferences$LawReader", "tape", "LOnlyDifferences$Tape;", true)
  | _ => ("OnlyDifferences$LawReader", "law", "LOnlyDifferences$Law;", false)
def tyX3 : Nat → FieldType := fun k => match k with
  | 0 => .object "OnlyDifferences$Tape"
  | _ => .object "OnlyDifferences$Law"
abbrev wsX30 : List Cond := u_ws RX3 TX3 2
theorem nmX3 : ∀ a, a < 2 → ∀ b, b < 2 → a ≠ b → (TX3 a).2.1 ≠ (TX3 b).2.1 := by decide +kernel
theorem tyX3_ok : ∀ k, k < 2 → parseFieldDescriptor (TX3 k).2.2.1 = some (tyX3 k) := by decide +kernel
abbrev cX3_init : ByteArray := prog_5_method_1_code
def yX3_init : MethodName := ⟨RX3, "<init>", "(LOnlyDifferences$Tape;)V"⟩
abbrev cX3_read : ByteArray := prog_5_method_2_code
def yX3_read : MethodName := ⟨RX3, "read", "(LOnlyDifferences$Law;I)I"⟩
abbrev cX3_readRule : ByteArray := prog_5_method_3_code
def yX3_readRule : MethodName := ⟨RX3, "readRule", "()V"⟩
abbrev cX3_readChoice : ByteArray := prog_5_method_4_code
def yX3_readChoice : MethodName := ⟨RX3, "readChoice", "(I)V"⟩
abbrev cX3_readPart : ByteArray := prog_5_method_5_code
def yX3_readPart : MethodName := ⟨RX3, "readPart", "(I)V"⟩
abbrev cX3_readTest : ByteArray := prog_5_method_6_code
def yX3_readTest : MethodName := ⟨RX3, "readTest", "(I)V"⟩
abbrev cX3_open : ByteArray := prog_5_method_7_code
def yX3_open : MethodName := ⟨RX3, "open", "(I)I"⟩
abbrev cX3_readSum : ByteArray := prog_5_method_8_code
def yX3_readSum : MethodName := ⟨RX3, "readSum", "(I)V"⟩
abbrev cX3_readTerm : ByteArray := prog_5_method_9_code
def yX3_readTerm : MethodName := ⟨RX3, "readTerm", "(I)V"⟩
abbrev cX3_isOfTerm : ByteArray := prog_5_method_10_code
def yX3_isOfTerm : MethodName := ⟨RX3, "isOfTerm", "(I)Z"⟩
abbrev cX3_readFactor : ByteArray := prog_5_method_11_code
def yX3_readFactor : MethodName := ⟨RX3, "readFactor", "(I)V"⟩
abbrev cX3_readLetter : ByteArray := prog_5_method_12_code
def yX3_readLetter : MethodName := ⟨RX3, "readLetter", "()V"⟩
def RX4 : String := "OnlyDifferences$Market"
def TX4 : u_T := fun k => match k with
  | 0 => ("OnlyDifferences$Market", "told", "I", false)
  | 1 => ("OnlyDifferences$Market", "upper", "[I", true)
  | 2 => ("OnlyDifferences$Market", "lower", "[I", true)
  | 3 => ("OnlyDifferences$Market", "money", "[I", true)
  | 4 => ("OnlyDifferences$Market", "soldOut", "[I", true)
  | 5 => ("OnlyDifferences$Market", "day", "I", false)
  | 6 => ("OnlyDifferences$Market", "x", "I", false)
  | 7 => ("OnlyDifferences$Market", "sales", "I", false)
  | 8 => ("OnlyDifferences$Market", "timesSoldOut", "I", false)
  | _ => ("OnlyDifferences$Market", "soldOutToday", "I", false)
def tyX4 : Nat → FieldType := fun k => match k with
  | 0 => .int
  | 1 => .array .int
  | 2 => .array .int
  | 3 => .array .int
  | 4 => .array .int
  | 5 => .int
  | 6 => .int
  | 7 => .int
  | 8 => .int
  | _ => .int
abbrev wsX40 : List Cond := u_ws RX4 TX4 10
theorem nmX4 : ∀ a, a < 10 → ∀ b, b < 10 → a ≠ b → (TX4 a).2.1 ≠ (TX4 b).2.1 := by decide +kernel
theorem tyX4_ok : ∀ k, k < 10 → parseFieldDescriptor (TX4 k).2.2.1 = some (tyX4 k) := by decide +kernel
abbrev cX4_init : ByteArray := prog_6_method_1_code
def yX4_init : MethodName := ⟨RX4, "<init>", "()V"⟩
abbrev cX4_readStock : ByteArray := prog_6_method_2_code
def yX4_readStock : MethodName := ⟨RX4, "readStock", "(LOnlyDifferences$Tape;I)I"⟩
abbrev cX4_readStall : ByteArray := prog_6_method_3_code
def yX4_readStall : MethodName := ⟨RX4, "readStall", "(LOnlyDifferences$Tape;)V"⟩
abbrev cX4_forgetStalls : ByteArray := prog_6_method_4_code
def yX4_forgetStalls : MethodName := ⟨RX4, "forgetStalls", "()V"⟩
abbrev cX4_takeStalls : ByteArray := prog_6_method_5_code
def yX4_takeStalls : MethodName := ⟨RX4, "takeStalls", "(LOnlyDifferences$Market;)V"⟩
abbrev cX4_takeAll : ByteArray := prog_6_method_6_code
def yX4_takeAll : MethodName := ⟨RX4, "takeAll", "(LOnlyDifferences$Market;)V"⟩
abbrev cX4_takeBack : ByteArray := prog_6_method_7_code
def yX4_takeBack : MethodName := ⟨RX4, "takeBack", "(LOnlyDifferences$Market;)V"⟩
abbrev cX4_addStalls : ByteArray := prog_6_method_8_code
def yX4_addStalls : MethodName := ⟨RX4, "addStalls", "(LOnlyDifferences$Market;)V"⟩
abbrev cX4_isTold : ByteArray := prog_6_method_9_code
def yX4_isTold : MethodName := ⟨RX4, "isTold", "(I)Z"⟩
abbrev cX4_between : ByteArray := prog_6_method_10_code
def yX4_between : MethodName := ⟨RX4, "between", "(I)I"⟩
abbrev cX4_betweenInAll : ByteArray := prog_6_method_11_code
def yX4_betweenInAll : MethodName := ⟨RX4, "betweenInAll", "()I"⟩
abbrev cX4_moneyOfAll : ByteArray := prog_6_method_12_code
def yX4_moneyOfAll : MethodName := ⟨RX4, "moneyOfAll", "()I"⟩
abbrev cX4_othersWithMore : ByteArray := prog_6_method_13_code
def yX4_othersWithMore : MethodName := ⟨RX4, "othersWithMore", "(I)I"⟩
abbrev cX4_countAnew : ByteArray := prog_6_method_14_code
def yX4_countAnew : MethodName := ⟨RX4, "countAnew", "()V"⟩
abbrev cX4_passDay : ByteArray := prog_6_method_15_code
def yX4_passDay : MethodName := ⟨RX4, "passDay", "(LOnlyDifferences$Law;)Z"⟩
abbrev cX4_draw : ByteArray := prog_6_method_16_code
def yX4_draw : MethodName := ⟨RX4, "draw", "()I"⟩
abbrev cX4_open : ByteArray := prog_6_method_17_code
def yX4_open : MethodName := ⟨RX4, "open", "(ILOnlyDifferences$Law;I)V"⟩
abbrev cX4_sellOut : ByteArray := prog_6_method_18_code
def yX4_sellOut : MethodName := ⟨RX4, "sellOut", "(ILOnlyDifferences$Law;I)V"⟩
def RX5 : String := "OnlyDifferences$RingSearch"
def TX5 : u_T := fun k => match k with
  | 0 => ("OnlyDifferences$RingSearch", "here", "[I", true)
  | _ => ("OnlyDifferences$RingSearch", "next", "[I", true)
def tyX5 : Nat → FieldType := fun k => match k with
  | 0 => .array .int
  | _ => .array .int
abbrev wsX50 : List Cond := u_ws RX5 TX5 2
theorem nmX5 : ∀ a, a < 2 → ∀ b, b < 2 → a ≠ b → (TX5 a).2.1 ≠ (TX5 b).2.1 := by decide +kernel
theorem tyX5_ok : ∀ k, k < 2 → parseFieldDescriptor (TX5 k).2.2.1 = some (tyX5 k) := by decide +kernel
abbrev cX5_init : ByteArray := prog_7_method_1_code
def yX5_init : MethodName := ⟨RX5, "<init>", "()V"⟩
abbrev cX5_fewest : ByteArray := prog_7_method_2_code
def yX5_fewest : MethodName := ⟨RX5, "fewest", "([I)I"⟩
abbrev cX5_leastThings : ByteArray := prog_7_method_3_code
def yX5_leastThings : MethodName := ⟨RX5, "leastThings", "([II)I"⟩
abbrev cX5_stepsBack : ByteArray := prog_7_method_4_code
def yX5_stepsBack : MethodName := ⟨RX5, "stepsBack", "([IIII)I"⟩
abbrev cX5_step : ByteArray := prog_7_method_5_code
def yX5_step : MethodName := ⟨RX5, "step", "([II)V"⟩
def RX6 : String := "OnlyDifferences$Rows"
def TX6 : u_T := fun k => match k with
  | _ => ("", "", "", false)
def tyX6 : Nat → FieldType := fun k => match k with
  | _ => .int
abbrev wsX60 : List Cond := u_ws RX6 TX6 0
theorem nmX6 : ∀ a, a < 0 → ∀ b, b < 0 → a ≠ b → (TX6 a).2.1 ≠ (TX6 b).2.1 := by decide +kernel
theorem tyX6_ok : ∀ k, k < 0 → parseFieldDescriptor (TX6 k).2.2.1 = some (tyX6 k) := by decide +kernel
abbrev cX6_depth : ByteArray := prog_8_method_2_code
def yX6_depth : MethodName := ⟨RX6, "depth", "([II)I"⟩
abbrev cX6_goesOn : ByteArray := prog_8_method_3_code
def yX6_goesOn : MethodName := ⟨RX6, "goesOn", "([II)J"⟩
abbrev cX6_areAlike : ByteArray := prog_8_method_4_code
def yX6_areAlike : MethodName := ⟨RX6, "areAlike", "([II)Z"⟩
abbrev cX6_takeDifferences : ByteArray := prog_8_method_5_code
def yX6_takeDifferences : MethodName := ⟨RX6, "takeDifferences", "([II)V"⟩
abbrev cX6_placeOfWalk : ByteArray := prog_8_method_6_code
def yX6_placeOfWalk : MethodName := ⟨RX6, "placeOfWalk", "([III)I"⟩
abbrev cX6_turns : ByteArray := prog_8_method_7_code
def yX6_turns : MethodName := ⟨RX6, "turns", "([II)I"⟩
abbrev cX6_packed : ByteArray := prog_8_method_8_code
def yX6_packed : MethodName := ⟨RX6, "packed", "([II)J"⟩
abbrev cX6_nextRow : ByteArray := prog_8_method_9_code
def yX6_nextRow : MethodName := ⟨RX6, "nextRow", "(JI)J"⟩
abbrev cX6_after : ByteArray := prog_8_method_10_code
def yX6_after : MethodName := ⟨RX6, "after", "(JII)J"⟩
abbrev cX6_rowsAheadOfRing : ByteArray := prog_8_method_11_code
def yX6_rowsAheadOfRing : MethodName := ⟨RX6, "rowsAheadOfRing", "(JI)I"⟩
abbrev cX6_rowsInRing : ByteArray := prog_8_method_12_code
def yX6_rowsInRing : MethodName := ⟨RX6, "rowsInRing", "(JI)I"⟩
abbrev cX6_bestRiseOf : ByteArray := prog_8_method_13_code
def yX6_bestRiseOf : MethodName := ⟨RX6, "bestRiseOf", "([III)I"⟩
abbrev cX6_narrowestOf : ByteArray := prog_8_method_14_code
def yX6_narrowestOf : MethodName := ⟨RX6, "narrowestOf", "([III)I"⟩
abbrev cX6_twosApart : ByteArray := prog_8_method_15_code
def yX6_twosApart : MethodName := ⟨RX6, "twosApart", "([III)I"⟩
abbrev cX6_pairedOf : ByteArray := prog_8_method_16_code
def yX6_pairedOf : MethodName := ⟨RX6, "pairedOf", "([IIZ)I"⟩
abbrev cX6_sort : ByteArray := prog_8_method_17_code
def yX6_sort : MethodName := ⟨RX6, "sort", "([II)V"⟩
abbrev cX6_leastBitsOfSums : ByteArray := prog_8_method_18_code
def yX6_leastBitsOfSums : MethodName := ⟨RX6, "leastBitsOfSums", "([II[I)V"⟩
abbrev cX6_evenestSum : ByteArray := prog_8_method_19_code
def yX6_evenestSum : MethodName := ⟨RX6, "evenestSum", "([II)I"⟩
abbrev cX6_longestSteady : ByteArray := prog_8_method_20_code
def yX6_longestSteady : MethodName := ⟨RX6, "longestSteady", "([II)I"⟩
abbrev cX6_steadyBy : ByteArray := prog_8_method_21_code
def yX6_steadyBy : MethodName := ⟨RX6, "steadyBy", "([IIII)I"⟩
abbrev cX6_longestUnsteady : ByteArray := prog_8_method_22_code
def yX6_longestUnsteady : MethodName := ⟨RX6, "longestUnsteady", "([II)I"⟩
abbrev cX6_writtenOf : ByteArray := prog_8_method_23_code
def yX6_writtenOf : MethodName := ⟨RX6, "writtenOf", "([II)I"⟩
abbrev cX6_commonMeasure : ByteArray := prog_8_method_24_code
def yX6_commonMeasure : MethodName := ⟨RX6, "commonMeasure", "(II)I"⟩
abbrev cX6_countRests : ByteArray := prog_8_method_25_code
def yX6_countRests : MethodName := ⟨RX6, "countRests", "([III[I)V"⟩
abbrev cX6_leastRest : ByteArray := prog_8_method_26_code
def yX6_leastRest : MethodName := ⟨RX6, "leastRest", "([II)I"⟩
abbrev cX6_mostRest : ByteArray := prog_8_method_27_code
def yX6_mostRest : MethodName := ⟨RX6, "mostRest", "([II)I"⟩
abbrev cX6_sum : ByteArray := prog_8_method_28_code
def yX6_sum : MethodName := ⟨RX6, "sum", "([II)I"⟩
abbrev cX6_least : ByteArray := prog_8_method_29_code
def yX6_least : MethodName := ⟨RX6, "least", "([II)I"⟩
abbrev cX6_greatest : ByteArray := prog_8_method_30_code
def yX6_greatest : MethodName := ⟨RX6, "greatest", "([II)I"⟩
abbrev cX6_hasTwoAlike : ByteArray := prog_8_method_31_code
def yX6_hasTwoAlike : MethodName := ⟨RX6, "hasTwoAlike", "([II)Z"⟩
def RX7 : String := "OnlyDifferences$Tape"
def TX7 : u_T := fun k => match k with
  | 0 => ("OnlyDifferences$Tape", "bytes", "[I", true)
  | 1 => ("OnlyDifferences$Tape", "taken", "[I", true)
  | 2 => ("OnlyDifferences$Tape", "length", "I", false)
  | 3 => ("OnlyDifferences$Tape", "end", "I", false)
  | 4 => ("OnlyDifferences$Tape", "at", "I", false)
  | 5 => ("OnlyDifferences$Tape", "fault", "I", false)
  | _ => ("OnlyDifferences$Tape", "faultAt", "I", false)
def tyX7 : Nat → FieldType := fun k => match k with
  | 0 => .array .int
  | 1 => .array .int
  | 2 => .int
  | 3 => .int
  | 4 => .int
  | 5 => .int
  | _ => .int
abbrev wsX70 : List Cond := u_ws RX7 TX7 7
theorem nmX7 : ∀ a, a < 7 → ∀ b, b < 7 → a ≠ b → (TX7 a).2.1 ≠ (TX7 b).2.1 := by decide +kernel
theorem tyX7_ok : ∀ k, k < 7 → parseFieldDescriptor (TX7 k).2.2.1 = some (tyX7 k) := by decide +kernel
abbrev cX7_init : ByteArray := prog_9_method_1_code
def yX7_init : MethodName := ⟨RX7, "<init>", "()V"⟩
abbrev cX7_hasRoomFor : ByteArray := prog_9_method_2_code
def yX7_hasRoomFor : MethodName := ⟨RX7, "hasRoomFor", "(I)Z"⟩
abbrev cX7_has : ByteArray := prog_9_method_3_code
def yX7_has : MethodName := ⟨RX7, "has", "(III)Z"⟩
abbrev cX7_write : ByteArray := prog_9_method_4_code
def yX7_write : MethodName := ⟨RX7, "write", "(I)V"⟩
abbrev cX7_empty : ByteArray := prog_9_method_5_code
def yX7_empty : MethodName := ⟨RX7, "empty", "()V"⟩
abbrev cX7_take : ByteArray := prog_9_method_6_code
def yX7_take : MethodName := ⟨RX7, "take", "(I)[I"⟩
abbrev cX7_takeDoubles : ByteArray := prog_9_method_7_code
def yX7_takeDoubles : MethodName := ⟨RX7, "takeDoubles", "(I)[I"⟩
abbrev cX7_begin : ByteArray := prog_9_method_8_code
def yX7_begin : MethodName := ⟨RX7, "begin", "(I)V"⟩
abbrev cX7_sign : ByteArray := prog_9_method_9_code
def yX7_sign : MethodName := ⟨RX7, "sign", "()I"⟩
abbrev cX7_isOver : ByteArray := prog_9_method_10_code
def yX7_isOver : MethodName := ⟨RX7, "isOver", "()Z"⟩
abbrev cX7_hasFailed : ByteArray := prog_9_method_11_code
def yX7_hasFailed : MethodName := ⟨RX7, "hasFailed", "()Z"⟩
abbrev cX7_step : ByteArray := prog_9_method_12_code
def yX7_step : MethodName := ⟨RX7, "step", "()V"⟩
abbrev cX7_pass : ByteArray := prog_9_method_13_code
def yX7_pass : MethodName := ⟨RX7, "pass", "(I)V"⟩
abbrev cX7_fail : ByteArray := prog_9_method_14_code
def yX7_fail : MethodName := ⟨RX7, "fail", "(II)V"⟩
abbrev cX7_oneOf : ByteArray := prog_9_method_15_code
def yX7_oneOf : MethodName := ⟨RX7, "oneOf", "(II)I"⟩
abbrev cX7_isDigit : ByteArray := prog_9_method_16_code
def yX7_isDigit : MethodName := ⟨RX7, "isDigit", "(I)Z"⟩
abbrev cX7_number : ByteArray := prog_9_method_17_code
def yX7_number : MethodName := ⟨RX7, "number", "(I)I"⟩
abbrev cX7_answer : ByteArray := prog_9_method_18_code
def yX7_answer : MethodName := ⟨RX7, "answer", "(I)I"⟩
def RX8 : String := "OnlyDifferences$Triangles"
def TX8 : u_T := fun k => match k with
  | 0 => ("OnlyDifferences$Triangles", "lines", "I", false)
  | 1 => ("OnlyDifferences$Triangles", "many", "I", false)
  | 2 => ("OnlyDifferences$Triangles", "least", "[I", true)
  | _ => ("OnlyDifferences$Triangles", "edges", "[I", true)
def tyX8 : Nat → FieldType := fun k => match k with
  | 0 => .int
  | 1 => .int
  | 2 => .array .int
  | _ => .array .int
abbrev wsX80 : List Cond := u_ws RX8 TX8 4
theorem nmX8 : ∀ a, a < 4 → ∀ b, b < 4 → a ≠ b → (TX8 a).2.1 ≠ (TX8 b).2.1 := by decide +kernel
theorem tyX8_ok : ∀ k, k < 4 → parseFieldDescriptor (TX8 k).2.2.1 = some (tyX8 k) := by decide +kernel
abbrev cX8_init : ByteArray := prog_10_method_1_code
def yX8_init : MethodName := ⟨RX8, "<init>", "()V"⟩
abbrev cX8_find : ByteArray := prog_10_method_2_code
def yX8_find : MethodName := ⟨RX8, "find", "(I)V"⟩
abbrev cX8_grow : ByteArray := prog_10_method_3_code
def yX8_grow : MethodName := ⟨RX8, "grow", "(LOnlyDifferences$Triangles;II)V"⟩
abbrev cX8_put : ByteArray := prog_10_method_4_code
def yX8_put : MethodName := ⟨RX8, "put", "(III)I"⟩
abbrev cX8_countThis : ByteArray := prog_10_method_5_code
def yX8_countThis : MethodName := ⟨RX8, "countThis", "()V"⟩
def RX9 : String := "OnlyDifferences"
def TX9 : u_T := fun k => match k with
  | 0 => ("OnlyDifferences", "tape", "LOnlyDifferences$Tape;", true)
  | 1 => ("OnlyDifferences", "claims", "LOnlyDifferences$Claims;", false)
  | 2 => ("OnlyDifferences", "nextClaims", "LOnlyDifferences$Claims;", false)
  | 3 => ("OnlyDifferences", "bounds", "LOnlyDifferences$Bounds;", true)
  | 4 => ("OnlyDifferences", "otherBounds", "LOnlyDifferences$Bounds;", true)
  | 5 => ("OnlyDifferences", "ringSearch", "LOnlyDifferences$RingSearch;", true)
  | 6 => ("OnlyDifferences", "lawReader", "LOnlyDifferences$LawReader;", true)
  | 7 => ("OnlyDifferences", "rules", "LOnlyDifferences$Law;", false)
  | 8 => ("OnlyDifferences", "nextRules", "LOnlyDifferences$Law;", false)
  | 9 => ("OnlyDifferences", "market", "LOnlyDifferences$Market;", true)
  | 10 => ("OnlyDifferences", "trial", "LOnlyDifferences$Market;", true)
  | 11 => ("OnlyDifferences", "kept", "LOnlyDifferences$Market;", true)
  | 12 => ("OnlyDifferences", "hasKept", "Z", false)
  | 13 => ("OnlyDifferences", "triangles", "LOnlyDifferences$Triangles;", true)
  | _ => ("OnlyDifferences", "table", "[I", true)
def tyX9 : Nat → FieldType := fun k => match k with
  | 0 => .object "OnlyDifferences$Tape"
  | 1 => .object "OnlyDifferences$Claims"
  | 2 => .object "OnlyDifferences$Claims"
  | 3 => .object "OnlyDifferences$Bounds"
  | 4 => .object "OnlyDifferences$Bounds"
  | 5 => .object "OnlyDifferences$RingSearch"
  | 6 => .object "OnlyDifferences$LawReader"
  | 7 => .object "OnlyDifferences$Law"
  | 8 => .object "OnlyDifferences$Law"
  | 9 => .object "OnlyDifferences$Market"
  | 10 => .object "OnlyDifferences$Market"
  | 11 => .object "OnlyDifferences$Market"
  | 12 => .boolean
  | 13 => .object "OnlyDifferences$Triangles"
  | _ => .array .int
abbrev wsX90 : List Cond := u_ws RX9 TX9 15
theorem nmX9 : ∀ a, a < 15 → ∀ b, b < 15 → a ≠ b → (TX9 a).2.1 ≠ (TX9 b).2.1 := by decide +kernel
theorem tyX9_ok : ∀ k, k < 15 → parseFieldDescriptor (TX9 k).2.2.1 = some (tyX9 k) := by decide +kernel
abbrev cX9_init : ByteArray := prog_1_method_1_code
def yX9_init : MethodName := ⟨RX9, "<init>", "()V"⟩
abbrev cX9_feed : ByteArray := prog_1_method_2_code
def yX9_feed : MethodName := ⟨RX9, "feed", "(IIIII)I"⟩
abbrev cX9_law : ByteArray := prog_1_method_3_code
def yX9_law : MethodName := ⟨RX9, "law", "(I)I"⟩
abbrev cX9_claims : ByteArray := prog_1_method_4_code
def yX9_claims : MethodName := ⟨RX9, "claims", "(I)I"⟩
abbrev cX9_stock : ByteArray := prog_1_method_5_code
def yX9_stock : MethodName := ⟨RX9, "stock", "(I)I"⟩
abbrev cX9_known : ByteArray := prog_1_method_6_code
def yX9_known : MethodName := ⟨RX9, "known", "(II)I"⟩
abbrev cX9_groups : ByteArray := prog_1_method_7_code
def yX9_groups : MethodName := ⟨RX9, "groups", "(I)I"⟩
abbrev cX9_bound : ByteArray := prog_1_method_8_code
def yX9_bound : MethodName := ⟨RX9, "bound", "(II)I"⟩
abbrev cX9_canBe : ByteArray := prog_1_method_9_code
def yX9_canBe : MethodName := ⟨RX9, "canBe", "(I)I"⟩
abbrev cX9_idle : ByteArray := prog_1_method_10_code
def yX9_idle : MethodName := ⟨RX9, "idle", "(I)I"⟩
abbrev cX9_surely : ByteArray := prog_1_method_11_code
def yX9_surely : MethodName := ⟨RX9, "surely", "(II)I"⟩
abbrev cX9_lightest : ByteArray := prog_1_method_12_code
def yX9_lightest : MethodName := ⟨RX9, "lightest", "(I)I"⟩
abbrev cX9_slack : ByteArray := prog_1_method_13_code
def yX9_slack : MethodName := ⟨RX9, "slack", "(I)I"⟩
abbrev cX9_chain : ByteArray := prog_1_method_14_code
def yX9_chain : MethodName := ⟨RX9, "chain", "(I)I"⟩
abbrev cX9_orders : ByteArray := prog_1_method_15_code
def yX9_orders : MethodName := ⟨RX9, "orders", "(I)I"⟩
abbrev cX9_weighings : ByteArray := prog_1_method_16_code
def yX9_weighings : MethodName := ⟨RX9, "weighings", "(II)I"⟩
abbrev cX9_claimIs : ByteArray := prog_1_method_17_code
def yX9_claimIs : MethodName := ⟨RX9, "claimIs", "(II)I"⟩
abbrev cX9_row : ByteArray := prog_1_method_18_code
def yX9_row : MethodName := ⟨RX9, "row", "(II)J"⟩
abbrev cX9_walk : ByteArray := prog_1_method_19_code
def yX9_walk : MethodName := ⟨RX9, "walk", "(II)I"⟩
abbrev cX9_round : ByteArray := prog_1_method_20_code
def yX9_round : MethodName := ⟨RX9, "round", "(II)I"⟩
abbrev cX9_triangle : ByteArray := prog_1_method_21_code
def yX9_triangle : MethodName := ⟨RX9, "triangle", "(II)I"⟩
abbrev cX9_bestRise : ByteArray := prog_1_method_22_code
def yX9_bestRise : MethodName := ⟨RX9, "bestRise", "(II)I"⟩
abbrev cX9_narrowest : ByteArray := prog_1_method_23_code
def yX9_narrowest : MethodName := ⟨RX9, "narrowest", "(II)I"⟩
abbrev cX9_twos : ByteArray := prog_1_method_24_code
def yX9_twos : MethodName := ⟨RX9, "twos", "(II)I"⟩
abbrev cX9_paired : ByteArray := prog_1_method_25_code
def yX9_paired : MethodName := ⟨RX9, "paired", "(II)I"⟩
abbrev cX9_halves : ByteArray := prog_1_method_26_code
def yX9_halves : MethodName := ⟨RX9, "halves", "(II)I"⟩
abbrev cX9_steady : ByteArray := prog_1_method_27_code
def yX9_steady : MethodName := ⟨RX9, "steady", "(II)I"⟩
abbrev cX9_comes : ByteArray := prog_1_method_28_code
def yX9_comes : MethodName := ⟨RX9, "comes", "(II)I"⟩
abbrev cX9_rests : ByteArray := prog_1_method_29_code
def yX9_rests : MethodName := ⟨RX9, "rests", "(III)I"⟩
abbrev cX9_days : ByteArray := prog_1_method_30_code
def yX9_days : MethodName := ⟨RX9, "days", "(I)I"⟩
abbrev cX9_tried : ByteArray := prog_1_method_31_code
def yX9_tried : MethodName := ⟨RX9, "tried", "(II)I"⟩
abbrev cX9_stallIs : ByteArray := prog_1_method_32_code
def yX9_stallIs : MethodName := ⟨RX9, "stallIs", "(II)I"⟩
abbrev cX9_soonest : ByteArray := prog_1_method_33_code
def yX9_soonest : MethodName := ⟨RX9, "soonest", "(II)I"⟩
abbrev cX9_richest : ByteArray := prog_1_method_34_code
def yX9_richest : MethodName := ⟨RX9, "richest", "()I"⟩
abbrev cX9_seed : ByteArray := prog_1_method_35_code
def yX9_seed : MethodName := ⟨RX9, "seed", "(I)Z"⟩
abbrev cX9_keep : ByteArray := prog_1_method_36_code
def yX9_keep : MethodName := ⟨RX9, "keep", "()I"⟩
abbrev cX9_undo : ByteArray := prog_1_method_37_code
def yX9_undo : MethodName := ⟨RX9, "undo", "()Z"⟩
abbrev cX9_check : ByteArray := prog_1_method_38_code
def yX9_check : MethodName := ⟨RX9, "check", "(I)I"⟩
abbrev cX9_count : ByteArray := prog_1_method_39_code
def yX9_count : MethodName := ⟨RX9, "count", "(I)I"⟩
abbrev cX9_canBeTried : ByteArray := prog_1_method_40_code
def yX9_canBeTried : MethodName := ⟨RX9, "canBeTried", "(I)Z"⟩
abbrev cX9_isThing : ByteArray := prog_1_method_41_code
def yX9_isThing : MethodName := ⟨RX9, "isThing", "(I)Z"⟩
abbrev cX9_isFrom : ByteArray := prog_1_method_42_code
def yX9_isFrom : MethodName := ⟨RX9, "isFrom", "(III)Z"⟩
abbrev cX9_isIn : ByteArray := prog_1_method_43_code
def yX9_isIn : MethodName := ⟨RX9, "isIn", "(II)Z"⟩
abbrev cX9_lowestIn : ByteArray := prog_1_method_44_code
def yX9_lowestIn : MethodName := ⟨RX9, "lowestIn", "(I)I"⟩
def RX10 : String := "OnlyDifferencesModel"
def TX10 : u_T := fun k => match k with
  | 0 => ("OnlyDifferencesModel", "now", "[I", true)
  | 1 => ("OnlyDifferencesModel", "aside", "[I", true)
  | 2 => ("OnlyDifferencesModel", "kept", "[I", true)
  | 3 => ("OnlyDifferencesModel", "oneOf", "[I", true)
  | 4 => ("OnlyDifferencesModel", "otherOf", "[I", true)
  | 5 => ("OnlyDifferencesModel", "signOf", "[I", true)
  | 6 => ("OnlyDifferencesModel", "byOf", "[I", true)
  | 7 => ("OnlyDifferencesModel", "stalls", "I", false)
  | 8 => ("OnlyDifferencesModel", "claimMany", "I", false)
  | 9 => ("OnlyDifferencesModel", "tape", "[B", true)
  | 10 => ("OnlyDifferencesModel", "taped", "I", false)
  | 11 => ("OnlyDifferencesModel", "place0", "I", false)
  | 12 => ("OnlyDifferencesModel", "length0", "I", false)
  | 13 => ("OnlyDifferencesModel", "fault", "I", false)
  | 14 => ("OnlyDifferencesModel", "number0", "I", false)
  | 15 => ("OnlyDifferencesModel", "open", "I", false)
  | 16 => ("OnlyDifferencesModel", "codeMany", "I", false)
  | 17 => ("OnlyDifferencesModel", "waiting", "I", false)
  | 18 => ("OnlyDifferencesModel", "saidMany", "I", false)
  | 19 => ("OnlyDifferencesModel", "clauses", "I", false)
  | 20 => ("OnlyDifferencesModel", "said", "[I", true)
  | 21 => ("OnlyDifferencesModel", "waitsAt", "[I", true)
  | 22 => ("OnlyDifferencesModel", "saidLetter", "[I", true)
  | 23 => ("OnlyDifferencesModel", "saidFrom", "[I", true)
  | 24 => ("OnlyDifferencesModel", "saidHalf", "[I", true)
  | 25 => ("OnlyDifferencesModel", "saidTo", "[I", true)
  | 26 => ("OnlyDifferencesModel", "codes", "[I", true)
  | 27 => ("OnlyDifferencesModel", "clauseOf", "[I", true)
  | 28 => ("OnlyDifferencesModel", "codeFrom", "[I", true)
  | 29 => ("OnlyDifferencesModel", "codeHalf", "[I", true)
  | 30 => ("OnlyDifferencesModel", "codeTo", "[I", true)
  | 31 => ("OnlyDifferencesModel", "stack", "[I", true)
  | 32 => ("OnlyDifferencesModel", "facts", "[I", true)
  | 33 => ("OnlyDifferencesModel", "newOne", "[I", true)
  | 34 => ("OnlyDifferencesModel", "newOther", "[I", true)
  | 35 => ("OnlyDifferencesModel", "newSign", "[I", true)
  | 36 => ("OnlyDifferencesModel", "newBy", "[I", true)
  | 37 => ("OnlyDifferencesModel", "newMany", "I", false)
  | 38 => ("OnlyDifferencesModel", "moreOf", "[I", true)
  | 39 => ("OnlyDifferencesModel", "firstOf", "[I", true)
  | 40 => ("OnlyDifferencesModel", "toldOf", "[I", true)
  | 41 => ("OnlyDifferencesModel", "mostOf", "[I", true)
  | 42 => ("OnlyDifferencesModel", "mostThen", "[I", true)
  | 43 => ("OnlyDifferencesModel", "sumTo", "[I", true)
  | 44 => ("OnlyDifferencesModel", "rowFrom", "[I", true)
  | 45 => ("OnlyDifferencesModel", "ordersOf", "[I", true)
  | 46 => ("OnlyDifferencesModel", "lessOf", "[I", true)
  | 47 => ("OnlyDifferencesModel", "weightOf", "[I", true)
  | 48 => ("OnlyDifferencesModel", "rowNow", "[J", true)
  | 49 => ("OnlyDifferencesModel", "slowRow", "[I", true)
  | 50 => ("OnlyDifferencesModel", "fastRow", "[I", true)
  | 51 => ("OnlyDifferencesModel", "lineNow", "[I", true)
  | 52 => ("OnlyDifferencesModel", "firstLine", "[I", true)
  | 53 => ("OnlyDifferencesModel", "freeBy", "[I", true)
  | 54 => ("OnlyDifferencesModel", "heldBy", "[I", true)
  | 55 => ("OnlyDifferencesModel", "heightOf", "[I", true)
  | 56 => ("OnlyDifferencesModel", "upTo", "[I", true)
  | 57 => ("OnlyDifferencesModel", "downTo", "[I", true)
  | 58 => ("OnlyDifferencesModel", "oftenOf", "[I", true)
  | 59 => ("OnlyDifferencesModel", "newUpper", "[I", true)
  | 60 => ("OnlyDifferencesModel", "newLower", "[I", true)
  | 61 => ("OnlyDifferencesModel", "newStalls", "I", false)
  | 62 => ("OnlyDifferencesModel", "lines", "I", false)
  | 63 => ("OnlyDifferencesModel", "salesNow", "I", false)
  | 64 => ("OnlyDifferencesModel", "outNow", "I", false)
  | 65 => ("OnlyDifferencesModel", "isKept", "Z", false)
  | _ => ("OnlyDifferencesModel", "keptStalls", "I", false)
def tyX10 : Nat → FieldType := fun k => match k with
  | 0 => .array .int
  | 1 => .array .int
  | 2 => .array .int
  | 3 => .array .int
  | 4 => .array .int
  | 5 => .array .int
  | 6 => .array .int
  | 7 => .int
  | 8 => .int
  | 9 => .array .byte
  | 10 => .int
  | 11 => .int
  | 12 => .int
  | 13 => .int
  | 14 => .int
  | 15 => .int
  | 16 => .int
  | 17 => .int
  | 18 => .int
  | 19 => .int
  | 20 => .array .int
  | 21 => .array .int
  | 22 => .array .int
  | 23 => .array .int
  | 24 => .array .int
  | 25 => .array .int
  | 26 => .array .int
  | 27 => .array .int
  | 28 => .array .int
  | 29 => .array .int
  | 30 => .array .int
  | 31 => .array .int
  | 32 => .array .int
  | 33 => .array .int
  | 34 => .array .int
  | 35 => .array .int
  | 36 => .array .int
  | 37 => .int
  | 38 => .array .int
  | 39 => .array .int
  | 40 => .array .int
  | 41 => .array .int
  | 42 => .array .int
  | 43 => .array .int
  | 44 => .array .int
  | 45 => .array .int
  | 46 => .array .int
  | 47 => .array .int
  | 48 => .array .long
  | 49 => .array .int
  | 50 => .array .int
  | 51 => .array .int
  | 52 => .array .int
  | 53 => .array .int
  | 54 => .array .int
  | 55 => .array .int
  | 56 => .array .int
  | 57 => .array .int
  | 58 => .array .int
  | 59 => .array .int
  | 60 => .array .int
  | 61 => .int
  | 62 => .int
  | 63 => .int
  | 64 => .int
  | 65 => .boolean
  | _ => .int
abbrev wsX100 : List Cond := u_ws RX10 TX10 67
theorem nmX10 : ∀ a, a < 67 → ∀ b, b < 67 → a ≠ b → (TX10 a).2.1 ≠ (TX10 b).2.1 := by decide +kernel
theorem tyX10_ok : ∀ k, k < 67 → parseFieldDescriptor (TX10 k).2.2.1 = some (tyX10 k) := by decide +kernel
abbrev cX10_init : ByteArray := prog_12_method_1_code
def yX10_init : MethodName := ⟨RX10, "<init>", "()V"⟩
abbrev cX10_in : ByteArray := prog_12_method_2_code
def yX10_in : MethodName := ⟨RX10, "in", "(III)Z"⟩
abbrev cX10_min : ByteArray := prog_12_method_3_code
def yX10_min : MethodName := ⟨RX10, "min", "(II)I"⟩
abbrev cX10_max : ByteArray := prog_12_method_4_code
def yX10_max : MethodName := ⟨RX10, "max", "(II)I"⟩
abbrev cX10_size : ByteArray := prog_12_method_5_code
def yX10_size : MethodName := ⟨RX10, "size", "(I)I"⟩
abbrev cX10_gcd : ByteArray := prog_12_method_6_code
def yX10_gcd : MethodName := ⟨RX10, "gcd", "(II)I"⟩
abbrev cX10_has : ByteArray := prog_12_method_7_code
def yX10_has : MethodName := ⟨RX10, "has", "(II)Z"⟩
abbrev cX10_bits : ByteArray := prog_12_method_8_code
def yX10_bits : MethodName := ⟨RX10, "bits", "(I)I"⟩
abbrev cX10_lowest : ByteArray := prog_12_method_9_code
def yX10_lowest : MethodName := ⟨RX10, "lowest", "(I)I"⟩
abbrev cX10_copies : ByteArray := prog_12_method_10_code
def yX10_copies : MethodName := ⟨RX10, "copies", "([I[I)V"⟩
abbrev cX10_isStall : ByteArray := prog_12_method_11_code
def yX10_isStall : MethodName := ⟨RX10, "isStall", "(I)Z"⟩
abbrev cX10_isThing : ByteArray := prog_12_method_12_code
def yX10_isThing : MethodName := ⟨RX10, "isThing", "(I)Z"⟩
abbrev cX10_types : ByteArray := prog_12_method_13_code
def yX10_types : MethodName := ⟨RX10, "types", "(I)V"⟩
abbrev cX10_feed : ByteArray := prog_12_method_14_code
def yX10_feed : MethodName := ⟨RX10, "feed", "(IIIII)I"⟩
abbrev cX10_octet : ByteArray := prog_12_method_15_code
def yX10_octet : MethodName := ⟨RX10, "octet", "(I)I"⟩
abbrev cX10_here : ByteArray := prog_12_method_16_code
def yX10_here : MethodName := ⟨RX10, "here", "()I"⟩
abbrev cX10_isDigit : ByteArray := prog_12_method_17_code
def yX10_isDigit : MethodName := ⟨RX10, "isDigit", "()Z"⟩
abbrev cX10_wrongAt : ByteArray := prog_12_method_18_code
def yX10_wrongAt : MethodName := ⟨RX10, "wrongAt", "(II)Z"⟩
abbrev cX10_takes : ByteArray := prog_12_method_19_code
def yX10_takes : MethodName := ⟨RX10, "takes", "(I)Z"⟩
abbrev cX10_readsNumber : ByteArray := prog_12_method_20_code
def yX10_readsNumber : MethodName := ⟨RX10, "readsNumber", "()Z"⟩
abbrev cX10_notes : ByteArray := prog_12_method_21_code
def yX10_notes : MethodName := ⟨RX10, "notes", "(II)V"⟩
abbrev cX10_opens : ByteArray := prog_12_method_22_code
def yX10_opens : MethodName := ⟨RX10, "opens", "(I)Z"⟩
abbrev cX10_waitTop : ByteArray := prog_12_method_23_code
def yX10_waitTop : MethodName := ⟨RX10, "waitTop", "()I"⟩
abbrev cX10_factOf : ByteArray := prog_12_method_24_code
def yX10_factOf : MethodName := ⟨RX10, "factOf", "(I)I"⟩
abbrev cX10_sumSign : ByteArray := prog_12_method_25_code
def yX10_sumSign : MethodName := ⟨RX10, "sumSign", "(I)I"⟩
abbrev cX10_closesSums : ByteArray := prog_12_method_26_code
def yX10_closesSums : MethodName := ⟨RX10, "closesSums", "(Z)V"⟩
abbrev cX10_readsFactor : ByteArray := prog_12_method_27_code
def yX10_readsFactor : MethodName := ⟨RX10, "readsFactor", "()Z"⟩
abbrev cX10_hasOpenSum : ByteArray := prog_12_method_28_code
def yX10_hasOpenSum : MethodName := ⟨RX10, "hasOpenSum", "(I)Z"⟩
abbrev cX10_readsSum : ByteArray := prog_12_method_29_code
def yX10_readsSum : MethodName := ⟨RX10, "readsSum", "()Z"⟩
abbrev cX10_endsPiece : ByteArray := prog_12_method_30_code
def yX10_endsPiece : MethodName := ⟨RX10, "endsPiece", "()V"⟩
abbrev cX10_lands : ByteArray := prog_12_method_31_code
def yX10_lands : MethodName := ⟨RX10, "lands", "(Z)V"⟩
abbrev cX10_jumps : ByteArray := prog_12_method_32_code
def yX10_jumps : MethodName := ⟨RX10, "jumps", "(I)V"⟩
abbrev cX10_readsCompared : ByteArray := prog_12_method_33_code
def yX10_readsCompared : MethodName := ⟨RX10, "readsCompared", "()Z"⟩
abbrev cX10_readsCondition : ByteArray := prog_12_method_34_code
def yX10_readsCondition : MethodName := ⟨RX10, "readsCondition", "()Z"⟩
abbrev cX10_readsRule : ByteArray := prog_12_method_35_code
def yX10_readsRule : MethodName := ⟨RX10, "readsRule", "()Z"⟩
abbrev cX10_beginsText : ByteArray := prog_12_method_36_code
def yX10_beginsText : MethodName := ⟨RX10, "beginsText", "(I)V"⟩
abbrev cX10_law : ByteArray := prog_12_method_37_code
def yX10_law : MethodName := ⟨RX10, "law", "(I)I"⟩
abbrev cX10_reckon : ByteArray := prog_12_method_38_code
def yX10_reckon : MethodName := ⟨RX10, "reckon", "(III)I"⟩
abbrev cX10_reckonsTo : ByteArray := prog_12_method_39_code
def yX10_reckonsTo : MethodName := ⟨RX10, "reckonsTo", "(II)I"⟩
abbrev cX10_byLaw : ByteArray := prog_12_method_40_code
def yX10_byLaw : MethodName := ⟨RX10, "byLaw", "(III)I"⟩
abbrev cX10_holdsAny : ByteArray := prog_12_method_41_code
def yX10_holdsAny : MethodName := ⟨RX10, "holdsAny", "(I)Z"⟩
abbrev cX10_readsAmount : ByteArray := prog_12_method_42_code
def yX10_readsAmount : MethodName := ⟨RX10, "readsAmount", "()Z"⟩
abbrev cX10_signBy : ByteArray := prog_12_method_43_code
def yX10_signBy : MethodName := ⟨RX10, "signBy", "(I)I"⟩
abbrev cX10_readsClaim : ByteArray := prog_12_method_44_code
def yX10_readsClaim : MethodName := ⟨RX10, "readsClaim", "()Z"⟩
abbrev cX10_laysKnown : ByteArray := prog_12_method_45_code
def yX10_laysKnown : MethodName := ⟨RX10, "laysKnown", "([I[I[I[II)V"⟩
abbrev cX10_joins : ByteArray := prog_12_method_46_code
def yX10_joins : MethodName := ⟨RX10, "joins", "(III)V"⟩
abbrev cX10_canBeToo : ByteArray := prog_12_method_47_code
def yX10_canBeToo : MethodName := ⟨RX10, "canBeToo", "(I)Z"⟩
abbrev cX10_claims : ByteArray := prog_12_method_48_code
def yX10_claims : MethodName := ⟨RX10, "claims", "(I)I"⟩
abbrev cX10_claimIs : ByteArray := prog_12_method_49_code
def yX10_claimIs : MethodName := ⟨RX10, "claimIs", "(II)I"⟩
abbrev cX10_known : ByteArray := prog_12_method_50_code
def yX10_known : MethodName := ⟨RX10, "known", "(II)I"⟩
abbrev cX10_groupOf : ByteArray := prog_12_method_51_code
def yX10_groupOf : MethodName := ⟨RX10, "groupOf", "(I)I"⟩
abbrev cX10_groups : ByteArray := prog_12_method_52_code
def yX10_groups : MethodName := ⟨RX10, "groups", "(I)I"⟩
abbrev cX10_tells : ByteArray := prog_12_method_53_code
def yX10_tells : MethodName := ⟨RX10, "tells", "(III)V"⟩
abbrev cX10_laysTold : ByteArray := prog_12_method_54_code
def yX10_laysTold : MethodName := ⟨RX10, "laysTold", "(I)V"⟩
abbrev cX10_laysMost : ByteArray := prog_12_method_55_code
def yX10_laysMost : MethodName := ⟨RX10, "laysMost", "(I)V"⟩
abbrev cX10_canBeSo : ByteArray := prog_12_method_56_code
def yX10_canBeSo : MethodName := ⟨RX10, "canBeSo", "()Z"⟩
abbrev cX10_most : ByteArray := prog_12_method_57_code
def yX10_most : MethodName := ⟨RX10, "most", "(II)I"⟩
abbrev cX10_bound : ByteArray := prog_12_method_58_code
def yX10_bound : MethodName := ⟨RX10, "bound", "(II)I"⟩
abbrev cX10_told : ByteArray := prog_12_method_59_code
def yX10_told : MethodName := ⟨RX10, "told", "(II)I"⟩
abbrev cX10_laysRings : ByteArray := prog_12_method_60_code
def yX10_laysRings : MethodName := ⟨RX10, "laysRings", "()V"⟩
abbrev cX10_sumBy : ByteArray := prog_12_method_61_code
def yX10_sumBy : MethodName := ⟨RX10, "sumBy", "(II)I"⟩
abbrev cX10_isRing : ByteArray := prog_12_method_62_code
def yX10_isRing : MethodName := ⟨RX10, "isRing", "(I)Z"⟩
abbrev cX10_leastRing : ByteArray := prog_12_method_63_code
def yX10_leastRing : MethodName := ⟨RX10, "leastRing", "()I"⟩
abbrev cX10_canBe : ByteArray := prog_12_method_64_code
def yX10_canBe : MethodName := ⟨RX10, "canBe", "(I)I"⟩
abbrev cX10_isIdle : ByteArray := prog_12_method_65_code
def yX10_isIdle : MethodName := ⟨RX10, "isIdle", "(I)Z"⟩
abbrev cX10_idle : ByteArray := prog_12_method_66_code
def yX10_idle : MethodName := ⟨RX10, "idle", "(I)I"⟩
abbrev cX10_moreThan : ByteArray := prog_12_method_67_code
def yX10_moreThan : MethodName := ⟨RX10, "moreThan", "(I)I"⟩
abbrev cX10_lessThan : ByteArray := prog_12_method_68_code
def yX10_lessThan : MethodName := ⟨RX10, "lessThan", "(I)I"⟩
abbrev cX10_surely : ByteArray := prog_12_method_69_code
def yX10_surely : MethodName := ⟨RX10, "surely", "(II)I"⟩
abbrev cX10_lightest : ByteArray := prog_12_method_70_code
def yX10_lightest : MethodName := ⟨RX10, "lightest", "(I)I"⟩
abbrev cX10_slack : ByteArray := prog_12_method_71_code
def yX10_slack : MethodName := ⟨RX10, "slack", "(I)I"⟩
abbrev cX10_chain : ByteArray := prog_12_method_72_code
def yX10_chain : MethodName := ⟨RX10, "chain", "(I)I"⟩
abbrev cX10_orders : ByteArray := prog_12_method_73_code
def yX10_orders : MethodName := ⟨RX10, "orders", "(I)I"⟩
abbrev cX10_claimHolds : ByteArray := prog_12_method_74_code
def yX10_claimHolds : MethodName := ⟨RX10, "claimHolds", "(I)Z"⟩
abbrev cX10_weighings : ByteArray := prog_12_method_75_code
def yX10_weighings : MethodName := ⟨RX10, "weighings", "(II)I"⟩
abbrev cX10_areAlike : ByteArray := prog_12_method_76_code
def yX10_areAlike : MethodName := ⟨RX10, "areAlike", "(I)Z"⟩
abbrev cX10_row : ByteArray := prog_12_method_77_code
def yX10_row : MethodName := ⟨RX10, "row", "(II)J"⟩
abbrev cX10_signed : ByteArray := prog_12_method_78_code
def yX10_signed : MethodName := ⟨RX10, "signed", "(I)I"⟩
abbrev cX10_walk : ByteArray := prog_12_method_79_code
def yX10_walk : MethodName := ⟨RX10, "walk", "(II)I"⟩
abbrev cX10_begins : ByteArray := prog_12_method_80_code
def yX10_begins : MethodName := ⟨RX10, "begins", "([II)V"⟩
abbrev cX10_goesRound : ByteArray := prog_12_method_81_code
def yX10_goesRound : MethodName := ⟨RX10, "goesRound", "([II)V"⟩
abbrev cX10_areSame : ByteArray := prog_12_method_82_code
def yX10_areSame : MethodName := ⟨RX10, "areSame", "([I[II)Z"⟩
abbrev cX10_ringOf : ByteArray := prog_12_method_83_code
def yX10_ringOf : MethodName := ⟨RX10, "ringOf", "(I)I"⟩
abbrev cX10_aheadOf : ByteArray := prog_12_method_84_code
def yX10_aheadOf : MethodName := ⟨RX10, "aheadOf", "(II)I"⟩
abbrev cX10_round : ByteArray := prog_12_method_85_code
def yX10_round : MethodName := ⟨RX10, "round", "(II)I"⟩
abbrev cX10_isTriangle : ByteArray := prog_12_method_86_code
def yX10_isTriangle : MethodName := ⟨RX10, "isTriangle", "(III)Z"⟩
abbrev cX10_triangle : ByteArray := prog_12_method_87_code
def yX10_triangle : MethodName := ⟨RX10, "triangle", "(II)I"⟩
abbrev cX10_bestRise : ByteArray := prog_12_method_88_code
def yX10_bestRise : MethodName := ⟨RX10, "bestRise", "(II)I"⟩
abbrev cX10_laysHeights : ByteArray := prog_12_method_89_code
def yX10_laysHeights : MethodName := ⟨RX10, "laysHeights", "(I)V"⟩
abbrev cX10_narrowest : ByteArray := prog_12_method_90_code
def yX10_narrowest : MethodName := ⟨RX10, "narrowest", "(II)I"⟩
abbrev cX10_twos : ByteArray := prog_12_method_91_code
def yX10_twos : MethodName := ⟨RX10, "twos", "(II)I"⟩
abbrev cX10_paired : ByteArray := prog_12_method_92_code
def yX10_paired : MethodName := ⟨RX10, "paired", "(II)I"⟩
abbrev cX10_unlikeBy : ByteArray := prog_12_method_93_code
def yX10_unlikeBy : MethodName := ⟨RX10, "unlikeBy", "(II)I"⟩
abbrev cX10_halves : ByteArray := prog_12_method_94_code
def yX10_halves : MethodName := ⟨RX10, "halves", "(II)I"⟩
abbrev cX10_steadyBy : ByteArray := prog_12_method_95_code
def yX10_steadyBy : MethodName := ⟨RX10, "steadyBy", "(II)I"⟩
abbrev cX10_unsteady : ByteArray := prog_12_method_96_code
def yX10_unsteady : MethodName := ⟨RX10, "unsteady", "(I)I"⟩
abbrev cX10_steady : ByteArray := prog_12_method_97_code
def yX10_steady : MethodName := ⟨RX10, "steady", "(II)I"⟩
abbrev cX10_areUnlike : ByteArray := prog_12_method_98_code
def yX10_areUnlike : MethodName := ⟨RX10, "areUnlike", "(I)Z"⟩
abbrev cX10_comes : ByteArray := prog_12_method_99_code
def yX10_comes : MethodName := ⟨RX10, "comes", "(II)I"⟩
abbrev cX10_rests : ByteArray := prog_12_method_100_code
def yX10_rests : MethodName := ⟨RX10, "rests", "(III)I"⟩
abbrev cX10_readsStall : ByteArray := prog_12_method_101_code
def yX10_readsStall : MethodName := ⟨RX10, "readsStall", "()Z"⟩
abbrev cX10_stock : ByteArray := prog_12_method_102_code
def yX10_stock : MethodName := ⟨RX10, "stock", "(I)I"⟩
abbrev cX10_between : ByteArray := prog_12_method_103_code
def yX10_between : MethodName := ⟨RX10, "between", "(I)I"⟩
abbrev cX10_othersMore : ByteArray := prog_12_method_104_code
def yX10_othersMore : MethodName := ⟨RX10, "othersMore", "(I)I"⟩
abbrev cX10_feels : ByteArray := prog_12_method_105_code
def yX10_feels : MethodName := ⟨RX10, "feels", "(II)V"⟩
abbrev cX10_sells : ByteArray := prog_12_method_106_code
def yX10_sells : MethodName := ⟨RX10, "sells", "(I)V"⟩
abbrev cX10_dayGoes : ByteArray := prog_12_method_107_code
def yX10_dayGoes : MethodName := ⟨RX10, "dayGoes", "()V"⟩
abbrev cX10_daysGo : ByteArray := prog_12_method_108_code
def yX10_daysGo : MethodName := ⟨RX10, "daysGo", "(I)V"⟩
abbrev cX10_days : ByteArray := prog_12_method_109_code
def yX10_days : MethodName := ⟨RX10, "days", "(I)I"⟩
abbrev cX10_moneyOfAll : ByteArray := prog_12_method_110_code
def yX10_moneyOfAll : MethodName := ⟨RX10, "moneyOfAll", "()I"⟩
abbrev cX10_tried : ByteArray := prog_12_method_111_code
def yX10_tried : MethodName := ⟨RX10, "tried", "(II)I"⟩
abbrev cX10_stallIs : ByteArray := prog_12_method_112_code
def yX10_stallIs : MethodName := ⟨RX10, "stallIs", "(II)I"⟩
abbrev cX10_soonest : ByteArray := prog_12_method_113_code
def yX10_soonest : MethodName := ⟨RX10, "soonest", "(II)I"⟩
abbrev cX10_richest : ByteArray := prog_12_method_114_code
def yX10_richest : MethodName := ⟨RX10, "richest", "()I"⟩
abbrev cX10_seed : ByteArray := prog_12_method_115_code
def yX10_seed : MethodName := ⟨RX10, "seed", "(I)Z"⟩
abbrev cX10_keep : ByteArray := prog_12_method_116_code
def yX10_keep : MethodName := ⟨RX10, "keep", "()I"⟩
abbrev cX10_undo : ByteArray := prog_12_method_117_code
def yX10_undo : MethodName := ⟨RX10, "undo", "()Z"⟩
abbrev cX10_check : ByteArray := prog_12_method_118_code
def yX10_check : MethodName := ⟨RX10, "check", "(I)I"⟩
abbrev cX10_thingsInClaims : ByteArray := prog_12_method_119_code
def yX10_thingsInClaims : MethodName := ⟨RX10, "thingsInClaims", "()I"⟩
abbrev cX10_betweenInAll : ByteArray := prog_12_method_120_code
def yX10_betweenInAll : MethodName := ⟨RX10, "betweenInAll", "()I"⟩
abbrev cX10_count : ByteArray := prog_12_method_121_code
def yX10_count : MethodName := ⟨RX10, "count", "(I)I"⟩
def RJx145de : String := "java/io/Serializable"
def TJx145de : u_T := fun k => match k with
  | _ => ("", "", "", false)
def tyJx145de : Nat → FieldType := fun k => match k with
  | _ => .int
abbrev wsJx145de0 : List Cond := u_ws RJx145de TJx145de 0
theorem nmJx145de : ∀ a, a < 0 → ∀ b, b < 0 → a ≠ b → (TJx145de a).2.1 ≠ (TJx145de b).2.1 := by decide +kernel
theorem tyJx145de_ok : ∀ k, k < 0 → parseFieldDescriptor (TJx145de k).2.2.1 = some (tyJx145de k) := by decide +kernel
def RJx9f9b0 : String := "java/lang/CharSequence"
def TJx9f9b0 : u_T := fun k => match k with
  | _ => ("", "", "", false)
def tyJx9f9b0 : Nat → FieldType := fun k => match k with
  | _ => .int
abbrev wsJx9f9b00 : List Cond := u_ws RJx9f9b0 TJx9f9b0 0
theorem nmJx9f9b0 : ∀ a, a < 0 → ∀ b, b < 0 → a ≠ b → (TJx9f9b0 a).2.1 ≠ (TJx9f9b0 b).2.1 := by decide +kernel
theorem tyJx9f9b0_ok : ∀ k, k < 0 → parseFieldDescriptor (TJx9f9b0 k).2.2.1 = some (tyJx9f9b0 k) := by decide +kernel
def RJxb160c : String := "java/lang/Comparable"
def TJxb160c : u_T := fun k => match k with
  | _ => ("", "", "", false)
def tyJxb160c : Nat → FieldType := fun k => match k with
  | _ => .int
abbrev wsJxb160c0 : List Cond := u_ws RJxb160c TJxb160c 0
theorem nmJxb160c : ∀ a, a < 0 → ∀ b, b < 0 → a ≠ b → (TJxb160c a).2.1 ≠ (TJxb160c b).2.1 := by decide +kernel
theorem tyJxb160c_ok : ∀ k, k < 0 → parseFieldDescriptor (TJxb160c k).2.2.1 = some (tyJxb160c k) := by decide +kernel
def RJ6 : String := "java/lang/Integer"
def TJ6 : u_T := fun k => match k with
  | _ => ("", "", "", false)
def tyJ6 : Nat → FieldType := fun k => match k with
  | _ => .int
abbrev wsJ60 : List Cond := u_ws RJ6 TJ6 0
theorem nmJ6 : ∀ a, a < 0 → ∀ b, b < 0 → a ≠ b → (TJ6 a).2.1 ≠ (TJ6 b).2.1 := by decide +kernel
theorem tyJ6_ok : ∀ k, k < 0 → parseFieldDescriptor (TJ6 k).2.2.1 = some (tyJ6 k) := by decide +kernel
abbrev cJ6_bitCount_0f7a4 : ByteArray := prog_13_method_49_code
def yJ6_bitCount_0f7a4 : MethodName := ⟨RJ6, "bitCount", "(I)I"⟩
def RJ9 : String := "java/lang/Math"
def TJ9 : u_T := fun k => match k with
  | _ => ("", "", "", false)
def tyJ9 : Nat → FieldType := fun k => match k with
  | _ => .int
abbrev wsJ90 : List Cond := u_ws RJ9 TJ9 0
theorem nmJ9 : ∀ a, a < 0 → ∀ b, b < 0 → a ≠ b → (TJ9 a).2.1 ≠ (TJ9 b).2.1 := by decide +kernel
theorem tyJ9_ok : ∀ k, k < 0 → parseFieldDescriptor (TJ9 k).2.2.1 = some (tyJ9 k) := by decide +kernel
abbrev cJ9_abs_0f7a4 : ByteArray := prog_14_method_59_code
def yJ9_abs_0f7a4 : MethodName := ⟨RJ9, "abs", "(I)I"⟩
abbrev cJ9_max_7cf53 : ByteArray := prog_14_method_65_code
def yJ9_max_7cf53 : MethodName := ⟨RJ9, "max", "(II)I"⟩
abbrev cJ9_min_7cf53 : ByteArray := prog_14_method_69_code
def yJ9_min_7cf53 : MethodName := ⟨RJ9, "min", "(II)I"⟩
def RJ0 : String := "java/lang/String"
def TJ0 : u_T := fun k => match k with
  | _ => ("", "", "", false)
def tyJ0 : Nat → FieldType := fun k => match k with
  | _ => .int
abbrev wsJ00 : List Cond := u_ws RJ0 TJ0 0
theorem nmJ0 : ∀ a, a < 0 → ∀ b, b < 0 → a ≠ b → (TJ0 a).2.1 ≠ (TJ0 b).2.1 := by decide +kernel
theorem tyJ0_ok : ∀ k, k < 0 → parseFieldDescriptor (TJ0 k).2.2.1 = some (tyJ0 k) := by decide +kernel
abbrev cJ0_length_8abf5 : ByteArray := prog_15_method_54_code
def yJ0_length_8abf5 : MethodName := ⟨RJ0, "length", "()I"⟩
abbrev cJ0_charAt_5068e : ByteArray := prog_15_method_56_code
def yJ0_charAt_5068e : MethodName := ⟨RJ0, "charAt", "(I)C"⟩
abbrev cJ0_coder_7d493 : ByteArray := prog_15_method_152_code
def yJ0_coder_7d493 : MethodName := ⟨RJ0, "coder", "()B"⟩
abbrev cJ0_isLatin1_aae02 : ByteArray := prog_15_method_154_code
def yJ0_isLatin1_aae02 : MethodName := ⟨RJ0, "isLatin1", "()Z"⟩
abbrev cJ0_checkIndex_df160 : ByteArray := prog_15_method_155_code
def yJ0_checkIndex_df160 : MethodName := ⟨RJ0, "checkIndex", "(II)V"⟩
def RJ1 : String := "java/lang/StringLatin1"
def TJ1 : u_T := fun k => match k with
  | _ => ("", "", "", false)
def tyJ1 : Nat → FieldType := fun k => match k with
  | _ => .int
abbrev wsJ10 : List Cond := u_ws RJ1 TJ1 0
theorem nmJ1 : ∀ a, a < 0 → ∀ b, b < 0 → a ≠ b → (TJ1 a).2.1 ≠ (TJ1 b).2.1 := by decide +kernel
theorem tyJ1_ok : ∀ k, k < 0 → parseFieldDescriptor (TJ1 k).2.2.1 = some (tyJ1 k) := by decide +kernel
abbrev cJ1_charAt_3b067 : ByteArray := prog_16_method_2_code
def yJ1_charAt_3b067 : MethodName := ⟨RJ1, "charAt", "([BI)C"⟩
def RJ2 : String := "java/lang/StringUTF16"
def TJ2 : u_T := fun k => match k with
  | _ => ("", "", "", false)
def tyJ2 : Nat → FieldType := fun k => match k with
  | _ => .int
abbrev wsJ20 : List Cond := u_ws RJ2 TJ2 0
theorem nmJ2 : ∀ a, a < 0 → ∀ b, b < 0 → a ≠ b → (TJ2 a).2.1 ≠ (TJ2 b).2.1 := by decide +kernel
theorem tyJ2_ok : ∀ k, k < 0 → parseFieldDescriptor (TJ2 k).2.2.1 = some (tyJ2 k) := by decide +kernel
abbrev cJ2_getChar_3b067 : ByteArray := prog_17_method_5_code
def yJ2_getChar_3b067 : MethodName := ⟨RJ2, "getChar", "([BI)C"⟩
abbrev cJ2_length_9d52b : ByteArray := prog_17_method_6_code
def yJ2_length_9d52b : MethodName := ⟨RJ2, "length", "([B)I"⟩
abbrev cJ2_charAt_3b067 : ByteArray := prog_17_method_83_code
def yJ2_charAt_3b067 : MethodName := ⟨RJ2, "charAt", "([BI)C"⟩
abbrev cJ2_checkIndex_2214a : ByteArray := prog_17_method_91_code
def yJ2_checkIndex_2214a : MethodName := ⟨RJ2, "checkIndex", "(I[B)V"⟩
def RJ10 : String := "java/lang/System"
def TJ10 : u_T := fun k => match k with
  | _ => ("", "", "", false)
def tyJ10 : Nat → FieldType := fun k => match k with
  | _ => .int
abbrev wsJ100 : List Cond := u_ws RJ10 TJ10 0
theorem nmJ10 : ∀ a, a < 0 → ∀ b, b < 0 → a ≠ b → (TJ10 a).2.1 ≠ (TJ10 b).2.1 := by decide +kernel
theorem tyJ10_ok : ∀ k, k < 0 → parseFieldDescriptor (TJ10 k).2.2.1 = some (tyJ10 k) := by decide +kernel
def RJxfd54e : String := "java/lang/constant/Constable"
def TJxfd54e : u_T := fun k => match k with
  | _ => ("", "", "", false)
def tyJxfd54e : Nat → FieldType := fun k => match k with
  | _ => .int
abbrev wsJxfd54e0 : List Cond := u_ws RJxfd54e TJxfd54e 0
theorem nmJxfd54e : ∀ a, a < 0 → ∀ b, b < 0 → a ≠ b → (TJxfd54e a).2.1 ≠ (TJxfd54e b).2.1 := by decide +kernel
theorem tyJxfd54e_ok : ∀ k, k < 0 → parseFieldDescriptor (TJxfd54e k).2.2.1 = some (tyJxfd54e k) := by decide +kernel
def RJx3cf43 : String := "java/lang/constant/ConstantDesc"
def TJx3cf43 : u_T := fun k => match k with
  | _ => ("", "", "", false)
def tyJx3cf43 : Nat → FieldType := fun k => match k with
  | _ => .int
abbrev wsJx3cf430 : List Cond := u_ws RJx3cf43 TJx3cf43 0
theorem nmJx3cf43 : ∀ a, a < 0 → ∀ b, b < 0 → a ≠ b → (TJx3cf43 a).2.1 ≠ (TJx3cf43 b).2.1 := by decide +kernel
theorem tyJx3cf43_ok : ∀ k, k < 0 → parseFieldDescriptor (TJx3cf43 k).2.2.1 = some (tyJx3cf43 k) := by decide +kernel
def RJ7 : String := "java/util/Arrays"
def TJ7 : u_T := fun k => match k with
  | _ => ("", "", "", false)
def tyJ7 : Nat → FieldType := fun k => match k with
  | _ => .int
abbrev wsJ70 : List Cond := u_ws RJ7 TJ7 0
theorem nmJ7 : ∀ a, a < 0 → ∀ b, b < 0 → a ≠ b → (TJ7 a).2.1 ≠ (TJ7 b).2.1 := by decide +kernel
theorem tyJ7_ok : ∀ k, k < 0 → parseFieldDescriptor (TJ7 k).2.2.1 = some (tyJ7 k) := by decide +kernel
abbrev cJ7_rangeCheck_23922 : ByteArray := prog_19_method_30_code
def yJ7_rangeCheck_23922 : MethodName := ⟨RJ7, "rangeCheck", "(III)V"⟩
abbrev cJ7_fill_53178 : ByteArray := prog_19_method_103_code
def yJ7_fill_53178 : MethodName := ⟨RJ7, "fill", "([II)V"⟩
abbrev cJ7_fill_fda19 : ByteArray := prog_19_method_104_code
def yJ7_fill_fda19 : MethodName := ⟨RJ7, "fill", "([IIII)V"⟩
def RJ3 : String := "jdk/internal/util/Preconditions"
def TJ3 : u_T := fun k => match k with
  | _ => ("", "", "", false)
def tyJ3 : Nat → FieldType := fun k => match k with
  | _ => .int
abbrev wsJ30 : List Cond := u_ws RJ3 TJ3 0
theorem nmJ3 : ∀ a, a < 0 → ∀ b, b < 0 → a ≠ b → (TJ3 a).2.1 ≠ (TJ3 b).2.1 := by decide +kernel
theorem tyJ3_ok : ∀ k, k < 0 → parseFieldDescriptor (TJ3 k).2.2.1 = some (tyJ3 k) := by decide +kernel
abbrev cJ3_checkIndex_8e157 : ByteArray := prog_20_method_11_code
def yJ3_checkIndex_8e157 : MethodName := ⟨RJ3, "checkIndex", "(IILjava/util/function/BiFunction;)I"⟩
def RL : String := "OnlyDifferencesLaw"
abbrev cL_law : ByteArray := code
def yL_law : MethodName := ⟨RL, "law", "([I)Z"⟩
abbrev vwCl : List vw_C := [(RX0, TX0, 4), (RX1, TX1, 7), (RX2, TX2, 11), (RX3, TX3, 2), (RX4, TX4, 10), (RX5, TX5, 2), (RX7, TX7, 7), (RX8, TX8, 4), (RX9, TX9, 15), (RX10, TX10, 67)]
/-- the one list of words that every method takes -/
def lw_U : List Cond := lw_tbl.filter goodWord
theorem lw_Uin {i : Nat} {w : Cond} (h : lw_tbl[i]? = some w) (hg : goodWord w = true) : w ∈ lw_U := List.mem_filter.mpr ⟨List.mem_of_getElem? h, hg⟩
theorem lw_Ugood : ∀ w ∈ lw_U, goodWord w = true := fun w h => (List.mem_filter.mp h).2
theorem lw_Utbl : ∀ w ∈ lw_U, w ∈ lw_tbl := fun w h => (List.mem_filter.mp h).1
theorem lw_Uws (ws : List Cond) (ps : List Nat) (hp : ws = ps.filterMap (fun i => lw_tbl[i]?)) (h : ws.all goodWord = true) : ∀ w ∈ ws, w ∈ lw_U := fun w hw => List.mem_filter.mpr ⟨(goodIn_r ws ps hp h w hw).1, List.all_eq_true.mp h w hw⟩
theorem inU_X0 : ∀ w ∈ u_ws RX0 TX0 4, w ∈ lw_U := lw_Uws _ [214, 216, 218, 220] (by decide +kernel) (by decide +kernel)
theorem inU_X1 : ∀ w ∈ u_ws RX1 TX1 7, w ∈ lw_U := lw_Uws _ [187, 189, 191, 193, 195, 197, 199] (by decide +kernel) (by decide +kernel)
theorem inU_X2 : ∀ w ∈ u_ws RX2 TX2 11, w ∈ lw_U := lw_Uws _ [280, 282, 284, 286, 288, 290, 292, 294, 296, 298, 300] (by decide +kernel) (by decide +kernel)
theorem inU_X3 : ∀ w ∈ u_ws RX3 TX3 2, w ∈ lw_U := lw_Uws _ [244, 246] (by decide +kernel) (by decide +kernel)
theorem inU_X4 : ∀ w ∈ u_ws RX4 TX4 10, w ∈ lw_U := lw_Uws _ [335, 337, 339, 341, 343, 345, 347, 349, 351, 353] (by decide +kernel) (by decide +kernel)
theorem inU_X5 : ∀ w ∈ u_ws RX5 TX5 2, w ∈ lw_U := lw_Uws _ [231, 233] (by decide +kernel) (by decide +kernel)
theorem inU_X7 : ∀ w ∈ u_ws RX7 TX7 7, w ∈ lw_U := lw_Uws _ [144, 146, 148, 150, 152, 154, 156] (by decide +kernel) (by decide +kernel)
theorem inU_X8 : ∀ w ∈ u_ws RX8 TX8 4, w ∈ lw_U := lw_Uws _ [368, 370, 372, 374] (by decide +kernel) (by decide +kernel)
theorem inU_X9 : ∀ w ∈ u_ws RX9 TX9 15, w ∈ lw_U := lw_Uws _ [426, 428, 430, 432, 434, 436, 438, 440, 442, 444, 446, 448, 450, 452, 454] (by decide +kernel) (by decide +kernel)
theorem inU_X10 : ∀ w ∈ u_ws RX10 TX10 67, w ∈ lw_U := lw_Uws _ [1246, 1248, 1250, 1252, 1254, 1256, 1258, 1260, 1262, 1264, 1266, 1268, 1270, 1272, 1274, 1276, 1278, 1280, 1282, 1284, 1286, 1288, 1290, 1292, 1294, 1296, 1298, 1300, 1302, 1304, 1306, 1308, 1310, 1312, 1314, 1316, 1318, 1320, 1322, 1324, 1326, 1328, 1330, 1332, 1334, 1336, 1338, 1340, 1342, 1344, 1346, 1348, 1350, 1352, 1354, 1356, 1358, 1360, 1362, 1364, 1366, 1368, 1370, 1372, 1374, 1376, 1378] (by decide +kernel) (by decide +kernel)
