section
-- ===== PART A: goes FIRST, ahead of the names: the tables' words, and 'selects' of the private methods out of them =====
/-- a private method of a class that the tables say can be made, by its rows of tables_1 -/
def lw_okq (q : MethodName × Nat) : Prop := (q.1.cls ≠ "java/lang/invoke/MethodHandle" ∧ q.1.cls ≠ "java/lang/invoke/VarHandle") ∧ Cond.instantiable q.1.cls q.2 ∈ tables_1 ∧ Cond.privateMethod q.1 ∈ tables_1 ∧ Cond.instanceMethod q.1 ∈ tables_1
theorem lw_p0 : lw_okq (⟨"HallSheets$Sheet", "madeOurs", "(II)I"⟩, 2) := ⟨⟨by decide +kernel, by decide +kernel⟩, List.mem_of_getElem? (i := 93) (by decide +kernel), List.mem_of_getElem? (i := 412) (by decide +kernel), List.mem_of_getElem? (i := 413) (by decide +kernel)⟩
theorem lw_p1 : lw_okq (⟨"HallSheets", "rowsRefusal", "(II)I"⟩, 8) := ⟨⟨by decide +kernel, by decide +kernel⟩, List.mem_of_getElem? (i := 28) (by decide +kernel), List.mem_of_getElem? (i := 442) (by decide +kernel), List.mem_of_getElem? (i := 443) (by decide +kernel)⟩
theorem lw_p2 : lw_okq (⟨"HallSheets$Shelf", "leastNumber", "()I"⟩, 7) := ⟨⟨by decide +kernel, by decide +kernel⟩, List.mem_of_getElem? (i := 290) (by decide +kernel), List.mem_of_getElem? (i := 461) (by decide +kernel), List.mem_of_getElem? (i := 462) (by decide +kernel)⟩
theorem lw_p3 : lw_okq (⟨"HallSheets$Country", "countFigures", "(Z)I"⟩, 12) := ⟨⟨by decide +kernel, by decide +kernel⟩, List.mem_of_getElem? (i := 36) (by decide +kernel), List.mem_of_getElem? (i := 481) (by decide +kernel), List.mem_of_getElem? (i := 482) (by decide +kernel)⟩
theorem lw_p4 : lw_okq (⟨"HallSheets$Country", "putInOrder", "(II)V"⟩, 12) := ⟨⟨by decide +kernel, by decide +kernel⟩, List.mem_of_getElem? (i := 36) (by decide +kernel), List.mem_of_getElem? (i := 540) (by decide +kernel), List.mem_of_getElem? (i := 541) (by decide +kernel)⟩
theorem lw_p5 : lw_okq (⟨"HallSheets$Watchers", "sharesIn", "(I)I"⟩, 5) := ⟨⟨by decide +kernel, by decide +kernel⟩, List.mem_of_getElem? (i := 232) (by decide +kernel), List.mem_of_getElem? (i := 603) (by decide +kernel), List.mem_of_getElem? (i := 604) (by decide +kernel)⟩
theorem lw_p6 : lw_okq (⟨"HallSheets$Country", "mostFalling", "(I)I"⟩, 12) := ⟨⟨by decide +kernel, by decide +kernel⟩, List.mem_of_getElem? (i := 36) (by decide +kernel), List.mem_of_getElem? (i := 702) (by decide +kernel), List.mem_of_getElem? (i := 703) (by decide +kernel)⟩
theorem lw_p7 : lw_okq (⟨"HallSheets$Recount", "consider", "(IIII)V"⟩, 2) := ⟨⟨by decide +kernel, by decide +kernel⟩, List.mem_of_getElem? (i := 254) (by decide +kernel), List.mem_of_getElem? (i := 730) (by decide +kernel), List.mem_of_getElem? (i := 731) (by decide +kernel)⟩
theorem lw_p8 : lw_okq (⟨"HallSheets$Country", "unevenness", "(Z)I"⟩, 12) := ⟨⟨by decide +kernel, by decide +kernel⟩, List.mem_of_getElem? (i := 36) (by decide +kernel), List.mem_of_getElem? (i := 742) (by decide +kernel), List.mem_of_getElem? (i := 743) (by decide +kernel)⟩
theorem lw_p9 : lw_okq (⟨"HallSheets$Country", "drawn", "(I)I"⟩, 12) := ⟨⟨by decide +kernel, by decide +kernel⟩, List.mem_of_getElem? (i := 36) (by decide +kernel), List.mem_of_getElem? (i := 779) (by decide +kernel), List.mem_of_getElem? (i := 780) (by decide +kernel)⟩
theorem lw_p10 : lw_okq (⟨"HallSheets", "textRefusal", "(I)I"⟩, 8) := ⟨⟨by decide +kernel, by decide +kernel⟩, List.mem_of_getElem? (i := 28) (by decide +kernel), List.mem_of_getElem? (i := 799) (by decide +kernel), List.mem_of_getElem? (i := 800) (by decide +kernel)⟩
theorem lw_p11 : lw_okq (⟨"HallSheets", "rowRefusal", "(I)I"⟩, 8) := ⟨⟨by decide +kernel, by decide +kernel⟩, List.mem_of_getElem? (i := 28) (by decide +kernel), List.mem_of_getElem? (i := 803) (by decide +kernel), List.mem_of_getElem? (i := 804) (by decide +kernel)⟩
theorem lw_p12 : lw_okq (⟨"HallSheets$MarkGrammar", "goesOn", "(I)Z"⟩, 5) := ⟨⟨by decide +kernel, by decide +kernel⟩, List.mem_of_getElem? (i := 269) (by decide +kernel), List.mem_of_getElem? (i := 811) (by decide +kernel), List.mem_of_getElem? (i := 812) (by decide +kernel)⟩
theorem lw_p13 : lw_okq (⟨"HallSheets$MarkGrammar", "become", "(I)Z"⟩, 5) := ⟨⟨by decide +kernel, by decide +kernel⟩, List.mem_of_getElem? (i := 269) (by decide +kernel), List.mem_of_getElem? (i := 815) (by decide +kernel), List.mem_of_getElem? (i := 816) (by decide +kernel)⟩
theorem lw_p14 : lw_okq (⟨"HallSheets$MarkGrammar", "beginsTest", "(I)Z"⟩, 5) := ⟨⟨by decide +kernel, by decide +kernel⟩, List.mem_of_getElem? (i := 269) (by decide +kernel), List.mem_of_getElem? (i := 819) (by decide +kernel), List.mem_of_getElem? (i := 820) (by decide +kernel)⟩
theorem lw_p15 : lw_okq (⟨"HallSheets$MarkGrammar", "beginsAtom", "(I)Z"⟩, 5) := ⟨⟨by decide +kernel, by decide +kernel⟩, List.mem_of_getElem? (i := 269) (by decide +kernel), List.mem_of_getElem? (i := 823) (by decide +kernel), List.mem_of_getElem? (i := 824) (by decide +kernel)⟩
def lw_privs_1 : List (MethodName × Nat) := [(⟨"HallSheets$Sheet", "madeOurs", "(II)I"⟩, 2), (⟨"HallSheets", "rowsRefusal", "(II)I"⟩, 8), (⟨"HallSheets$Shelf", "leastNumber", "()I"⟩, 7), (⟨"HallSheets$Country", "countFigures", "(Z)I"⟩, 12), (⟨"HallSheets$Country", "putInOrder", "(II)V"⟩, 12), (⟨"HallSheets$Watchers", "sharesIn", "(I)I"⟩, 5), (⟨"HallSheets$Country", "mostFalling", "(I)I"⟩, 12), (⟨"HallSheets$Recount", "consider", "(IIII)V"⟩, 2), (⟨"HallSheets$Country", "unevenness", "(Z)I"⟩, 12), (⟨"HallSheets$Country", "drawn", "(I)I"⟩, 12), (⟨"HallSheets", "textRefusal", "(I)I"⟩, 8), (⟨"HallSheets", "rowRefusal", "(I)I"⟩, 8), (⟨"HallSheets$MarkGrammar", "goesOn", "(I)Z"⟩, 5), (⟨"HallSheets$MarkGrammar", "become", "(I)Z"⟩, 5), (⟨"HallSheets$MarkGrammar", "beginsTest", "(I)Z"⟩, 5), (⟨"HallSheets$MarkGrammar", "beginsAtom", "(I)Z"⟩, 5)]
theorem lw_r1 : ∀ q ∈ lw_privs_1, lw_okq q := List.forall_mem_cons.mpr ⟨lw_p0, List.forall_mem_cons.mpr ⟨lw_p1, List.forall_mem_cons.mpr ⟨lw_p2, List.forall_mem_cons.mpr ⟨lw_p3, List.forall_mem_cons.mpr ⟨lw_p4, List.forall_mem_cons.mpr ⟨lw_p5, List.forall_mem_cons.mpr ⟨lw_p6, List.forall_mem_cons.mpr ⟨lw_p7, List.forall_mem_cons.mpr ⟨lw_p8, List.forall_mem_cons.mpr ⟨lw_p9, List.forall_mem_cons.mpr ⟨lw_p10, List.forall_mem_cons.mpr ⟨lw_p11, List.forall_mem_cons.mpr ⟨lw_p12, List.forall_mem_cons.mpr ⟨lw_p13, List.forall_mem_cons.mpr ⟨lw_p14, List.forall_mem_cons.mpr ⟨lw_p15, fun _ h => absurd h List.not_mem_nil⟩⟩⟩⟩⟩⟩⟩⟩⟩⟩⟩⟩⟩⟩⟩⟩
theorem lw_p16 : lw_okq (⟨"HallSheets$MarkGrammar", "addsDigit", "(I)Z"⟩, 5) := ⟨⟨by decide +kernel, by decide +kernel⟩, List.mem_of_getElem? (i := 269) (by decide +kernel), List.mem_of_getElem? (i := 916) (by decide +kernel), List.mem_of_getElem? (i := 917) (by decide +kernel)⟩
theorem lw_p17 : lw_okq (⟨"HallSheets$MarkGrammar", "followsAtom", "(I)Z"⟩, 5) := ⟨⟨by decide +kernel, by decide +kernel⟩, List.mem_of_getElem? (i := 269) (by decide +kernel), List.mem_of_getElem? (i := 920) (by decide +kernel), List.mem_of_getElem? (i := 921) (by decide +kernel)⟩
theorem lw_p18 : lw_okq (⟨"HallSheets$MarkGrammar", "followsTest", "(I)Z"⟩, 5) := ⟨⟨by decide +kernel, by decide +kernel⟩, List.mem_of_getElem? (i := 269) (by decide +kernel), List.mem_of_getElem? (i := 924) (by decide +kernel), List.mem_of_getElem? (i := 925) (by decide +kernel)⟩
theorem lw_p19 : lw_okq (⟨"HallSheets$MarkGrammar", "isWhole", "()Z"⟩, 5) := ⟨⟨by decide +kernel, by decide +kernel⟩, List.mem_of_getElem? (i := 269) (by decide +kernel), List.mem_of_getElem? (i := 928) (by decide +kernel), List.mem_of_getElem? (i := 929) (by decide +kernel)⟩
theorem lw_p20 : lw_okq (⟨"HallSheets$MarkTruth", "beginGroup", "()V"⟩, 11) := ⟨⟨by decide +kernel, by decide +kernel⟩, List.mem_of_getElem? (i := 46) (by decide +kernel), List.mem_of_getElem? (i := 953) (by decide +kernel), List.mem_of_getElem? (i := 954) (by decide +kernel)⟩
theorem lw_p21 : lw_okq (⟨"HallSheets$MarkTruth", "beginSum", "()V"⟩, 11) := ⟨⟨by decide +kernel, by decide +kernel⟩, List.mem_of_getElem? (i := 46) (by decide +kernel), List.mem_of_getElem? (i := 957) (by decide +kernel), List.mem_of_getElem? (i := 958) (by decide +kernel)⟩
theorem lw_p22 : lw_okq (⟨"HallSheets$MarkTruth", "beginProduct", "()V"⟩, 11) := ⟨⟨by decide +kernel, by decide +kernel⟩, List.mem_of_getElem? (i := 46) (by decide +kernel), List.mem_of_getElem? (i := 961) (by decide +kernel), List.mem_of_getElem? (i := 962) (by decide +kernel)⟩
theorem lw_p23 : lw_okq (⟨"HallSheets$MarkTruth", "takeAtom", "(I)V"⟩, 11) := ⟨⟨by decide +kernel, by decide +kernel⟩, List.mem_of_getElem? (i := 46) (by decide +kernel), List.mem_of_getElem? (i := 970) (by decide +kernel), List.mem_of_getElem? (i := 971) (by decide +kernel)⟩
theorem lw_p24 : lw_okq (⟨"HallSheets$MarkTruth", "takeDigit", "(IZ)V"⟩, 11) := ⟨⟨by decide +kernel, by decide +kernel⟩, List.mem_of_getElem? (i := 46) (by decide +kernel), List.mem_of_getElem? (i := 975) (by decide +kernel), List.mem_of_getElem? (i := 976) (by decide +kernel)⟩
theorem lw_p25 : lw_okq (⟨"HallSheets$MarkTruth", "takeSign", "(I)V"⟩, 11) := ⟨⟨by decide +kernel, by decide +kernel⟩, List.mem_of_getElem? (i := 46) (by decide +kernel), List.mem_of_getElem? (i := 979) (by decide +kernel), List.mem_of_getElem? (i := 980) (by decide +kernel)⟩
theorem lw_p26 : lw_okq (⟨"HallSheets$MarkTruth", "endProduct", "()V"⟩, 11) := ⟨⟨by decide +kernel, by decide +kernel⟩, List.mem_of_getElem? (i := 46) (by decide +kernel), List.mem_of_getElem? (i := 983) (by decide +kernel), List.mem_of_getElem? (i := 984) (by decide +kernel)⟩
theorem lw_p27 : lw_okq (⟨"HallSheets$MarkTruth", "endTest", "()V"⟩, 11) := ⟨⟨by decide +kernel, by decide +kernel⟩, List.mem_of_getElem? (i := 46) (by decide +kernel), List.mem_of_getElem? (i := 987) (by decide +kernel), List.mem_of_getElem? (i := 988) (by decide +kernel)⟩
theorem lw_p28 : lw_okq (⟨"HallSheets$MarkTruth", "compared", "()Z"⟩, 11) := ⟨⟨by decide +kernel, by decide +kernel⟩, List.mem_of_getElem? (i := 46) (by decide +kernel), List.mem_of_getElem? (i := 991) (by decide +kernel), List.mem_of_getElem? (i := 992) (by decide +kernel)⟩
theorem lw_p29 : lw_okq (⟨"HallSheets$MarkTruth", "join", "(Z)V"⟩, 11) := ⟨⟨by decide +kernel, by decide +kernel⟩, List.mem_of_getElem? (i := 46) (by decide +kernel), List.mem_of_getElem? (i := 995) (by decide +kernel), List.mem_of_getElem? (i := 996) (by decide +kernel)⟩
theorem lw_p30 : lw_okq (⟨"HallSheets$MarkTruth", "takeJoint", "(I)V"⟩, 11) := ⟨⟨by decide +kernel, by decide +kernel⟩, List.mem_of_getElem? (i := 46) (by decide +kernel), List.mem_of_getElem? (i := 999) (by decide +kernel), List.mem_of_getElem? (i := 1000) (by decide +kernel)⟩
theorem lw_p31 : lw_okq (⟨"HallSheets", "sheetRefusal", "(I)I"⟩, 8) := ⟨⟨by decide +kernel, by decide +kernel⟩, List.mem_of_getElem? (i := 28) (by decide +kernel), List.mem_of_getElem? (i := 1069) (by decide +kernel), List.mem_of_getElem? (i := 1070) (by decide +kernel)⟩
def lw_privs_2 : List (MethodName × Nat) := [(⟨"HallSheets$MarkGrammar", "addsDigit", "(I)Z"⟩, 5), (⟨"HallSheets$MarkGrammar", "followsAtom", "(I)Z"⟩, 5), (⟨"HallSheets$MarkGrammar", "followsTest", "(I)Z"⟩, 5), (⟨"HallSheets$MarkGrammar", "isWhole", "()Z"⟩, 5), (⟨"HallSheets$MarkTruth", "beginGroup", "()V"⟩, 11), (⟨"HallSheets$MarkTruth", "beginSum", "()V"⟩, 11), (⟨"HallSheets$MarkTruth", "beginProduct", "()V"⟩, 11), (⟨"HallSheets$MarkTruth", "takeAtom", "(I)V"⟩, 11), (⟨"HallSheets$MarkTruth", "takeDigit", "(IZ)V"⟩, 11), (⟨"HallSheets$MarkTruth", "takeSign", "(I)V"⟩, 11), (⟨"HallSheets$MarkTruth", "endProduct", "()V"⟩, 11), (⟨"HallSheets$MarkTruth", "endTest", "()V"⟩, 11), (⟨"HallSheets$MarkTruth", "compared", "()Z"⟩, 11), (⟨"HallSheets$MarkTruth", "join", "(Z)V"⟩, 11), (⟨"HallSheets$MarkTruth", "takeJoint", "(I)V"⟩, 11), (⟨"HallSheets", "sheetRefusal", "(I)I"⟩, 8)]
theorem lw_r2 : ∀ q ∈ lw_privs_2, lw_okq q := List.forall_mem_cons.mpr ⟨lw_p16, List.forall_mem_cons.mpr ⟨lw_p17, List.forall_mem_cons.mpr ⟨lw_p18, List.forall_mem_cons.mpr ⟨lw_p19, List.forall_mem_cons.mpr ⟨lw_p20, List.forall_mem_cons.mpr ⟨lw_p21, List.forall_mem_cons.mpr ⟨lw_p22, List.forall_mem_cons.mpr ⟨lw_p23, List.forall_mem_cons.mpr ⟨lw_p24, List.forall_mem_cons.mpr ⟨lw_p25, List.forall_mem_cons.mpr ⟨lw_p26, List.forall_mem_cons.mpr ⟨lw_p27, List.forall_mem_cons.mpr ⟨lw_p28, List.forall_mem_cons.mpr ⟨lw_p29, List.forall_mem_cons.mpr ⟨lw_p30, List.forall_mem_cons.mpr ⟨lw_p31, fun _ h => absurd h List.not_mem_nil⟩⟩⟩⟩⟩⟩⟩⟩⟩⟩⟩⟩⟩⟩⟩⟩
theorem lw_p32 : lw_okq (⟨"java/lang/Throwable", "fillInStackTrace", "(I)Ljava/lang/Throwable;"⟩, 6) := ⟨⟨by decide +kernel, by decide +kernel⟩, List.mem_of_getElem? (i := 1132) (by decide +kernel), List.mem_of_getElem? (i := 1130) (by decide +kernel), List.mem_of_getElem? (i := 1131) (by decide +kernel)⟩
theorem lw_p33 : lw_okq (⟨"HallSheetsModel", "isHall", "(I)Z"⟩, 28) := ⟨⟨by decide +kernel, by decide +kernel⟩, List.mem_of_getElem? (i := 1224) (by decide +kernel), List.mem_of_getElem? (i := 1332) (by decide +kernel), List.mem_of_getElem? (i := 1333) (by decide +kernel)⟩
theorem lw_p34 : lw_okq (⟨"HallSheetsModel", "get", "(II)I"⟩, 28) := ⟨⟨by decide +kernel, by decide +kernel⟩, List.mem_of_getElem? (i := 1224) (by decide +kernel), List.mem_of_getElem? (i := 1336) (by decide +kernel), List.mem_of_getElem? (i := 1337) (by decide +kernel)⟩
theorem lw_p35 : lw_okq (⟨"HallSheetsModel", "becomes", "(II)I"⟩, 28) := ⟨⟨by decide +kernel, by decide +kernel⟩, List.mem_of_getElem? (i := 1224) (by decide +kernel), List.mem_of_getElem? (i := 1340) (by decide +kernel), List.mem_of_getElem? (i := 1341) (by decide +kernel)⟩
theorem lw_p36 : lw_okq (⟨"HallSheetsModel", "tellsCame", "(I)I"⟩, 28) := ⟨⟨by decide +kernel, by decide +kernel⟩, List.mem_of_getElem? (i := 1224) (by decide +kernel), List.mem_of_getElem? (i := 1359) (by decide +kernel), List.mem_of_getElem? (i := 1360) (by decide +kernel)⟩
theorem lw_p37 : lw_okq (⟨"HallSheetsModel", "tellsOurs", "(I)I"⟩, 28) := ⟨⟨by decide +kernel, by decide +kernel⟩, List.mem_of_getElem? (i := 1224) (by decide +kernel), List.mem_of_getElem? (i := 1366) (by decide +kernel), List.mem_of_getElem? (i := 1367) (by decide +kernel)⟩
theorem lw_p38 : lw_okq (⟨"HallSheetsModel", "has", "(I)Z"⟩, 28) := ⟨⟨by decide +kernel, by decide +kernel⟩, List.mem_of_getElem? (i := 1224) (by decide +kernel), List.mem_of_getElem? (i := 1370) (by decide +kernel), List.mem_of_getElem? (i := 1371) (by decide +kernel)⟩
theorem lw_p39 : lw_okq (⟨"HallSheetsModel", "share", "(I)I"⟩, 28) := ⟨⟨by decide +kernel, by decide +kernel⟩, List.mem_of_getElem? (i := 1224) (by decide +kernel), List.mem_of_getElem? (i := 1374) (by decide +kernel), List.mem_of_getElem? (i := 1375) (by decide +kernel)⟩
theorem lw_p40 : lw_okq (⟨"HallSheetsModel", "writes", "(III)V"⟩, 28) := ⟨⟨by decide +kernel, by decide +kernel⟩, List.mem_of_getElem? (i := 1224) (by decide +kernel), List.mem_of_getElem? (i := 1382) (by decide +kernel), List.mem_of_getElem? (i := 1383) (by decide +kernel)⟩
theorem lw_p41 : lw_okq (⟨"HallSheetsModel", "there", "()I"⟩, 28) := ⟨⟨by decide +kernel, by decide +kernel⟩, List.mem_of_getElem? (i := 1224) (by decide +kernel), List.mem_of_getElem? (i := 1386) (by decide +kernel), List.mem_of_getElem? (i := 1387) (by decide +kernel)⟩
theorem lw_p42 : lw_okq (⟨"HallSheetsModel", "counts", "(II)V"⟩, 28) := ⟨⟨by decide +kernel, by decide +kernel⟩, List.mem_of_getElem? (i := 1224) (by decide +kernel), List.mem_of_getElem? (i := 1405) (by decide +kernel), List.mem_of_getElem? (i := 1406) (by decide +kernel)⟩
theorem lw_p43 : lw_okq (⟨"HallSheetsModel", "hasFigure", "(II)Z"⟩, 28) := ⟨⟨by decide +kernel, by decide +kernel⟩, List.mem_of_getElem? (i := 1224) (by decide +kernel), List.mem_of_getElem? (i := 1409) (by decide +kernel), List.mem_of_getElem? (i := 1410) (by decide +kernel)⟩
theorem lw_p44 : lw_okq (⟨"HallSheetsModel", "middleOf", "(I)I"⟩, 28) := ⟨⟨by decide +kernel, by decide +kernel⟩, List.mem_of_getElem? (i := 1224) (by decide +kernel), List.mem_of_getElem? (i := 1436) (by decide +kernel), List.mem_of_getElem? (i := 1437) (by decide +kernel)⟩
theorem lw_p45 : lw_okq (⟨"HallSheetsModel", "leftOf", "(I)I"⟩, 28) := ⟨⟨by decide +kernel, by decide +kernel⟩, List.mem_of_getElem? (i := 1224) (by decide +kernel), List.mem_of_getElem? (i := 1446) (by decide +kernel), List.mem_of_getElem? (i := 1447) (by decide +kernel)⟩
theorem lw_p46 : lw_okq (⟨"HallSheetsModel", "findWatched", "()I"⟩, 28) := ⟨⟨by decide +kernel, by decide +kernel⟩, List.mem_of_getElem? (i := 1224) (by decide +kernel), List.mem_of_getElem? (i := 1462) (by decide +kernel), List.mem_of_getElem? (i := 1463) (by decide +kernel)⟩
theorem lw_p47 : lw_okq (⟨"HallSheetsModel", "costOf", "(I)I"⟩, 28) := ⟨⟨by decide +kernel, by decide +kernel⟩, List.mem_of_getElem? (i := 1224) (by decide +kernel), List.mem_of_getElem? (i := 1466) (by decide +kernel), List.mem_of_getElem? (i := 1467) (by decide +kernel)⟩
def lw_privs_3 : List (MethodName × Nat) := [(⟨"java/lang/Throwable", "fillInStackTrace", "(I)Ljava/lang/Throwable;"⟩, 6), (⟨"HallSheetsModel", "isHall", "(I)Z"⟩, 28), (⟨"HallSheetsModel", "get", "(II)I"⟩, 28), (⟨"HallSheetsModel", "becomes", "(II)I"⟩, 28), (⟨"HallSheetsModel", "tellsCame", "(I)I"⟩, 28), (⟨"HallSheetsModel", "tellsOurs", "(I)I"⟩, 28), (⟨"HallSheetsModel", "has", "(I)Z"⟩, 28), (⟨"HallSheetsModel", "share", "(I)I"⟩, 28), (⟨"HallSheetsModel", "writes", "(III)V"⟩, 28), (⟨"HallSheetsModel", "there", "()I"⟩, 28), (⟨"HallSheetsModel", "counts", "(II)V"⟩, 28), (⟨"HallSheetsModel", "hasFigure", "(II)Z"⟩, 28), (⟨"HallSheetsModel", "middleOf", "(I)I"⟩, 28), (⟨"HallSheetsModel", "leftOf", "(I)I"⟩, 28), (⟨"HallSheetsModel", "findWatched", "()I"⟩, 28), (⟨"HallSheetsModel", "costOf", "(I)I"⟩, 28)]
theorem lw_r3 : ∀ q ∈ lw_privs_3, lw_okq q := List.forall_mem_cons.mpr ⟨lw_p32, List.forall_mem_cons.mpr ⟨lw_p33, List.forall_mem_cons.mpr ⟨lw_p34, List.forall_mem_cons.mpr ⟨lw_p35, List.forall_mem_cons.mpr ⟨lw_p36, List.forall_mem_cons.mpr ⟨lw_p37, List.forall_mem_cons.mpr ⟨lw_p38, List.forall_mem_cons.mpr ⟨lw_p39, List.forall_mem_cons.mpr ⟨lw_p40, List.forall_mem_cons.mpr ⟨lw_p41, List.forall_mem_cons.mpr ⟨lw_p42, List.forall_mem_cons.mpr ⟨lw_p43, List.forall_mem_cons.mpr ⟨lw_p44, List.forall_mem_cons.mpr ⟨lw_p45, List.forall_mem_cons.mpr ⟨lw_p46, List.forall_mem_cons.mpr ⟨lw_p47, fun _ h => absurd h List.not_mem_nil⟩⟩⟩⟩⟩⟩⟩⟩⟩⟩⟩⟩⟩⟩⟩⟩
theorem lw_p48 : lw_okq (⟨"HallSheetsModel", "written", "(II)I"⟩, 28) := ⟨⟨by decide +kernel, by decide +kernel⟩, List.mem_of_getElem? (i := 1224) (by decide +kernel), List.mem_of_getElem? (i := 1492) (by decide +kernel), List.mem_of_getElem? (i := 1493) (by decide +kernel)⟩
theorem lw_p49 : lw_okq (⟨"HallSheetsModel", "sentUp", "(II)I"⟩, 28) := ⟨⟨by decide +kernel, by decide +kernel⟩, List.mem_of_getElem? (i := 1224) (by decide +kernel), List.mem_of_getElem? (i := 1496) (by decide +kernel), List.mem_of_getElem? (i := 1497) (by decide +kernel)⟩
theorem lw_p50 : lw_okq (⟨"HallSheetsModel", "untrueAll", "(I)I"⟩, 28) := ⟨⟨by decide +kernel, by decide +kernel⟩, List.mem_of_getElem? (i := 1224) (by decide +kernel), List.mem_of_getElem? (i := 1512) (by decide +kernel), List.mem_of_getElem? (i := 1513) (by decide +kernel)⟩
theorem lw_p51 : lw_okq (⟨"HallSheetsModel", "untrueOf", "(II)I"⟩, 28) := ⟨⟨by decide +kernel, by decide +kernel⟩, List.mem_of_getElem? (i := 1224) (by decide +kernel), List.mem_of_getElem? (i := 1516) (by decide +kernel), List.mem_of_getElem? (i := 1517) (by decide +kernel)⟩
theorem lw_p52 : lw_okq (⟨"HallSheetsModel", "falls", "(I)I"⟩, 28) := ⟨⟨by decide +kernel, by decide +kernel⟩, List.mem_of_getElem? (i := 1224) (by decide +kernel), List.mem_of_getElem? (i := 1527) (by decide +kernel), List.mem_of_getElem? (i := 1528) (by decide +kernel)⟩
theorem lw_p53 : lw_okq (⟨"HallSheetsModel", "findAgain", "()V"⟩, 28) := ⟨⟨by decide +kernel, by decide +kernel⟩, List.mem_of_getElem? (i := 1224) (by decide +kernel), List.mem_of_getElem? (i := 1536) (by decide +kernel), List.mem_of_getElem? (i := 1537) (by decide +kernel)⟩
theorem lw_p54 : lw_okq (⟨"HallSheetsModel", "costAgain", "(I)I"⟩, 28) := ⟨⟨by decide +kernel, by decide +kernel⟩, List.mem_of_getElem? (i := 1224) (by decide +kernel), List.mem_of_getElem? (i := 1540) (by decide +kernel), List.mem_of_getElem? (i := 1541) (by decide +kernel)⟩
theorem lw_p55 : lw_okq (⟨"HallSheetsModel", "worthAgain", "(I)I"⟩, 28) := ⟨⟨by decide +kernel, by decide +kernel⟩, List.mem_of_getElem? (i := 1224) (by decide +kernel), List.mem_of_getElem? (i := 1544) (by decide +kernel), List.mem_of_getElem? (i := 1545) (by decide +kernel)⟩
theorem lw_p56 : lw_okq (⟨"HallSheetsModel", "measureNow", "(I)I"⟩, 28) := ⟨⟨by decide +kernel, by decide +kernel⟩, List.mem_of_getElem? (i := 1224) (by decide +kernel), List.mem_of_getElem? (i := 1553) (by decide +kernel), List.mem_of_getElem? (i := 1554) (by decide +kernel)⟩
theorem lw_p57 : lw_okq (⟨"HallSheetsModel", "squares", "(I)I"⟩, 28) := ⟨⟨by decide +kernel, by decide +kernel⟩, List.mem_of_getElem? (i := 1224) (by decide +kernel), List.mem_of_getElem? (i := 1557) (by decide +kernel), List.mem_of_getElem? (i := 1558) (by decide +kernel)⟩
theorem lw_p58 : lw_okq (⟨"HallSheetsModel", "makes", "(I)V"⟩, 28) := ⟨⟨by decide +kernel, by decide +kernel⟩, List.mem_of_getElem? (i := 1224) (by decide +kernel), List.mem_of_getElem? (i := 1567) (by decide +kernel), List.mem_of_getElem? (i := 1568) (by decide +kernel)⟩
theorem lw_p59 : lw_okq (⟨"HallSheetsModel", "hundredths", "(I)I"⟩, 28) := ⟨⟨by decide +kernel, by decide +kernel⟩, List.mem_of_getElem? (i := 1224) (by decide +kernel), List.mem_of_getElem? (i := 1571) (by decide +kernel), List.mem_of_getElem? (i := 1572) (by decide +kernel)⟩
theorem lw_p60 : lw_okq (⟨"HallSheetsModel", "wrongRow", "(II)I"⟩, 28) := ⟨⟨by decide +kernel, by decide +kernel⟩, List.mem_of_getElem? (i := 1224) (by decide +kernel), List.mem_of_getElem? (i := 1586) (by decide +kernel), List.mem_of_getElem? (i := 1587) (by decide +kernel)⟩
theorem lw_p61 : lw_okq (⟨"HallSheetsModel", "faultOf", "(I)I"⟩, 28) := ⟨⟨by decide +kernel, by decide +kernel⟩, List.mem_of_getElem? (i := 1224) (by decide +kernel), List.mem_of_getElem? (i := 1590) (by decide +kernel), List.mem_of_getElem? (i := 1591) (by decide +kernel)⟩
theorem lw_p62 : lw_okq (⟨"HallSheetsModel", "begins", "([IIII)V"⟩, 28) := ⟨⟨by decide +kernel, by decide +kernel⟩, List.mem_of_getElem? (i := 1224) (by decide +kernel), List.mem_of_getElem? (i := 1594) (by decide +kernel), List.mem_of_getElem? (i := 1595) (by decide +kernel)⟩
theorem lw_p63 : lw_okq (⟨"HallSheetsModel", "sign", "()I"⟩, 28) := ⟨⟨by decide +kernel, by decide +kernel⟩, List.mem_of_getElem? (i := 1224) (by decide +kernel), List.mem_of_getElem? (i := 1598) (by decide +kernel), List.mem_of_getElem? (i := 1599) (by decide +kernel)⟩
def lw_privs_4 : List (MethodName × Nat) := [(⟨"HallSheetsModel", "written", "(II)I"⟩, 28), (⟨"HallSheetsModel", "sentUp", "(II)I"⟩, 28), (⟨"HallSheetsModel", "untrueAll", "(I)I"⟩, 28), (⟨"HallSheetsModel", "untrueOf", "(II)I"⟩, 28), (⟨"HallSheetsModel", "falls", "(I)I"⟩, 28), (⟨"HallSheetsModel", "findAgain", "()V"⟩, 28), (⟨"HallSheetsModel", "costAgain", "(I)I"⟩, 28), (⟨"HallSheetsModel", "worthAgain", "(I)I"⟩, 28), (⟨"HallSheetsModel", "measureNow", "(I)I"⟩, 28), (⟨"HallSheetsModel", "squares", "(I)I"⟩, 28), (⟨"HallSheetsModel", "makes", "(I)V"⟩, 28), (⟨"HallSheetsModel", "hundredths", "(I)I"⟩, 28), (⟨"HallSheetsModel", "wrongRow", "(II)I"⟩, 28), (⟨"HallSheetsModel", "faultOf", "(I)I"⟩, 28), (⟨"HallSheetsModel", "begins", "([IIII)V"⟩, 28), (⟨"HallSheetsModel", "sign", "()I"⟩, 28)]
theorem lw_r4 : ∀ q ∈ lw_privs_4, lw_okq q := List.forall_mem_cons.mpr ⟨lw_p48, List.forall_mem_cons.mpr ⟨lw_p49, List.forall_mem_cons.mpr ⟨lw_p50, List.forall_mem_cons.mpr ⟨lw_p51, List.forall_mem_cons.mpr ⟨lw_p52, List.forall_mem_cons.mpr ⟨lw_p53, List.forall_mem_cons.mpr ⟨lw_p54, List.forall_mem_cons.mpr ⟨lw_p55, List.forall_mem_cons.mpr ⟨lw_p56, List.forall_mem_cons.mpr ⟨lw_p57, List.forall_mem_cons.mpr ⟨lw_p58, List.forall_mem_cons.mpr ⟨lw_p59, List.forall_mem_cons.mpr ⟨lw_p60, List.forall_mem_cons.mpr ⟨lw_p61, List.forall_mem_cons.mpr ⟨lw_p62, List.forall_mem_cons.mpr ⟨lw_p63, fun _ h => absurd h List.not_mem_nil⟩⟩⟩⟩⟩⟩⟩⟩⟩⟩⟩⟩⟩⟩⟩⟩
theorem lw_p64 : lw_okq (⟨"HallSheetsModel", "takes", "(I)Z"⟩, 28) := ⟨⟨by decide +kernel, by decide +kernel⟩, List.mem_of_getElem? (i := 1224) (by decide +kernel), List.mem_of_getElem? (i := 1604) (by decide +kernel), List.mem_of_getElem? (i := 1605) (by decide +kernel)⟩
theorem lw_p65 : lw_okq (⟨"HallSheetsModel", "or", "()Z"⟩, 28) := ⟨⟨by decide +kernel, by decide +kernel⟩, List.mem_of_getElem? (i := 1224) (by decide +kernel), List.mem_of_getElem? (i := 1608) (by decide +kernel), List.mem_of_getElem? (i := 1609) (by decide +kernel)⟩
theorem lw_p66 : lw_okq (⟨"HallSheetsModel", "and", "()Z"⟩, 28) := ⟨⟨by decide +kernel, by decide +kernel⟩, List.mem_of_getElem? (i := 1224) (by decide +kernel), List.mem_of_getElem? (i := 1612) (by decide +kernel), List.mem_of_getElem? (i := 1613) (by decide +kernel)⟩
theorem lw_p67 : lw_okq (⟨"HallSheetsModel", "test", "()Z"⟩, 28) := ⟨⟨by decide +kernel, by decide +kernel⟩, List.mem_of_getElem? (i := 1224) (by decide +kernel), List.mem_of_getElem? (i := 1616) (by decide +kernel), List.mem_of_getElem? (i := 1617) (by decide +kernel)⟩
theorem lw_p68 : lw_okq (⟨"HallSheetsModel", "breaks", "()Z"⟩, 28) := ⟨⟨by decide +kernel, by decide +kernel⟩, List.mem_of_getElem? (i := 1224) (by decide +kernel), List.mem_of_getElem? (i := 1620) (by decide +kernel), List.mem_of_getElem? (i := 1621) (by decide +kernel)⟩
theorem lw_p69 : lw_okq (⟨"HallSheetsModel", "sum", "()I"⟩, 28) := ⟨⟨by decide +kernel, by decide +kernel⟩, List.mem_of_getElem? (i := 1224) (by decide +kernel), List.mem_of_getElem? (i := 1624) (by decide +kernel), List.mem_of_getElem? (i := 1625) (by decide +kernel)⟩
theorem lw_p70 : lw_okq (⟨"HallSheetsModel", "product", "()I"⟩, 28) := ⟨⟨by decide +kernel, by decide +kernel⟩, List.mem_of_getElem? (i := 1224) (by decide +kernel), List.mem_of_getElem? (i := 1628) (by decide +kernel), List.mem_of_getElem? (i := 1629) (by decide +kernel)⟩
theorem lw_p71 : lw_okq (⟨"HallSheetsModel", "atom", "()I"⟩, 28) := ⟨⟨by decide +kernel, by decide +kernel⟩, List.mem_of_getElem? (i := 1224) (by decide +kernel), List.mem_of_getElem? (i := 1632) (by decide +kernel), List.mem_of_getElem? (i := 1633) (by decide +kernel)⟩
theorem lw_p72 : lw_okq (⟨"HallSheetsModel", "fieldOf", "(I)I"⟩, 28) := ⟨⟨by decide +kernel, by decide +kernel⟩, List.mem_of_getElem? (i := 1224) (by decide +kernel), List.mem_of_getElem? (i := 1639) (by decide +kernel), List.mem_of_getElem? (i := 1640) (by decide +kernel)⟩
theorem lw_p73 : lw_okq (⟨"HallSheetsModel", "markOf", "(I)I"⟩, 28) := ⟨⟨by decide +kernel, by decide +kernel⟩, List.mem_of_getElem? (i := 1224) (by decide +kernel), List.mem_of_getElem? (i := 1651) (by decide +kernel), List.mem_of_getElem? (i := 1652) (by decide +kernel)⟩
theorem lw_p74 : lw_okq (⟨"HallSheetsModel", "weightOf", "(I)I"⟩, 28) := ⟨⟨by decide +kernel, by decide +kernel⟩, List.mem_of_getElem? (i := 1224) (by decide +kernel), List.mem_of_getElem? (i := 1676) (by decide +kernel), List.mem_of_getElem? (i := 1677) (by decide +kernel)⟩
theorem lw_p75 : lw_okq (⟨"HallSheetsModel", "wrongKept", "(I)I"⟩, 28) := ⟨⟨by decide +kernel, by decide +kernel⟩, List.mem_of_getElem? (i := 1224) (by decide +kernel), List.mem_of_getElem? (i := 1701) (by decide +kernel), List.mem_of_getElem? (i := 1702) (by decide +kernel)⟩
def lw_privs_5 : List (MethodName × Nat) := [(⟨"HallSheetsModel", "takes", "(I)Z"⟩, 28), (⟨"HallSheetsModel", "or", "()Z"⟩, 28), (⟨"HallSheetsModel", "and", "()Z"⟩, 28), (⟨"HallSheetsModel", "test", "()Z"⟩, 28), (⟨"HallSheetsModel", "breaks", "()Z"⟩, 28), (⟨"HallSheetsModel", "sum", "()I"⟩, 28), (⟨"HallSheetsModel", "product", "()I"⟩, 28), (⟨"HallSheetsModel", "atom", "()I"⟩, 28), (⟨"HallSheetsModel", "fieldOf", "(I)I"⟩, 28), (⟨"HallSheetsModel", "markOf", "(I)I"⟩, 28), (⟨"HallSheetsModel", "weightOf", "(I)I"⟩, 28), (⟨"HallSheetsModel", "wrongKept", "(I)I"⟩, 28)]
theorem lw_r5 : ∀ q ∈ lw_privs_5, lw_okq q := List.forall_mem_cons.mpr ⟨lw_p64, List.forall_mem_cons.mpr ⟨lw_p65, List.forall_mem_cons.mpr ⟨lw_p66, List.forall_mem_cons.mpr ⟨lw_p67, List.forall_mem_cons.mpr ⟨lw_p68, List.forall_mem_cons.mpr ⟨lw_p69, List.forall_mem_cons.mpr ⟨lw_p70, List.forall_mem_cons.mpr ⟨lw_p71, List.forall_mem_cons.mpr ⟨lw_p72, List.forall_mem_cons.mpr ⟨lw_p73, List.forall_mem_cons.mpr ⟨lw_p74, List.forall_mem_cons.mpr ⟨lw_p75, fun _ h => absurd h List.not_mem_nil⟩⟩⟩⟩⟩⟩⟩⟩⟩⟩⟩⟩
def lw_privs : List (MethodName × Nat) := lw_privs_1 ++ (lw_privs_2 ++ (lw_privs_3 ++ (lw_privs_4 ++ (lw_privs_5))))
def lw_tbl : List Cond := k2_sels lw_privs ++ tables_1
theorem lw_privs_ok : ∀ q ∈ lw_privs, lw_okq q := by
  show ∀ q ∈ lw_privs_1 ++ (lw_privs_2 ++ (lw_privs_3 ++ (lw_privs_4 ++ (lw_privs_5)))), lw_okq q
  exact List.forall_mem_append.mpr ⟨lw_r1, List.forall_mem_append.mpr ⟨lw_r2, List.forall_mem_append.mpr ⟨lw_r3, List.forall_mem_append.mpr ⟨lw_r4, lw_r5⟩⟩⟩⟩
end
section
def RX0 : String := "HallSheets$Country"
def TX0 : u_T := fun k => match k with
  | 0 => ("HallSheets$Country", "halls", "[LHallSheets$Hall;", true)
  | 1 => ("HallSheets$Country", "hallCount", "I", false)
  | 2 => ("HallSheets$Country", "laws", "[I", true)
  | 3 => ("HallSheets$Country", "told", "[Z", true)
  | 4 => ("HallSheets$Country", "toldCame", "[I", true)
  | 5 => ("HallSheets$Country", "toldOurs", "[I", true)
  | 6 => ("HallSheets$Country", "markTexts", "[[I", true)
  | 7 => ("HallSheets$Country", "markSizes", "[I", true)
  | 8 => ("HallSheets$Country", "markCount", "I", false)
  | 9 => ("HallSheets$Country", "markTruth", "LHallSheets$MarkTruth;", true)
  | 10 => ("HallSheets$Country", "figureCounts", "[I", true)
  | _ => ("HallSheets$Country", "inOrder", "[I", true)
def tyX0 : Nat → FieldType := fun k => match k with
  | 0 => .array (.object "HallSheets$Hall")
  | 1 => .int
  | 2 => .array .int
  | 3 => .array .boolean
  | 4 => .array .int
  | 5 => .array .int
  | 6 => .array (.array .int)
  | 7 => .array .int
  | 8 => .int
  | 9 => .object "HallSheets$MarkTruth"
  | 10 => .array .int
  | _ => .array .int
abbrev wsX00 : List Cond := u_ws RX0 TX0 12
theorem nmX0 : ∀ a, a < 12 → ∀ b, b < 12 → a ≠ b → (TX0 a).2.1 ≠ (TX0 b).2.1 := by decide +kernel
theorem tyX0_ok : ∀ k, k < 12 → parseFieldDescriptor (TX0 k).2.2.1 = some (tyX0 k) := by decide +kernel
abbrev cX0_init : ByteArray := prog_2_method_1_code
def yX0_init : MethodName := ⟨RX0, "<init>", "()V"⟩
abbrev cX0_copyFrom : ByteArray := prog_2_method_2_code
def yX0_copyFrom : MethodName := ⟨RX0, "copyFrom", "(LHallSheets$Country;)V"⟩
abbrev cX0_mostOfLaw : ByteArray := prog_2_method_3_code
def yX0_mostOfLaw : MethodName := ⟨RX0, "mostOfLaw", "(I)I"⟩
abbrev cX0_isHall : ByteArray := prog_2_method_4_code
def yX0_isHall : MethodName := ⟨RX0, "isHall", "(I)Z"⟩
abbrev cX0_addHall : ByteArray := prog_2_method_5_code
def yX0_addHall : MethodName := ⟨RX0, "addHall", "(III)I"⟩
abbrev cX0_addMark : ByteArray := prog_2_method_6_code
def yX0_addMark : MethodName := ⟨RX0, "addMark", "([II)I"⟩
abbrev cX0_nameOf : ByteArray := prog_2_method_7_code
def yX0_nameOf : MethodName := ⟨RX0, "nameOf", "(I)I"⟩
abbrev cX0_writtenCount : ByteArray := prog_2_method_8_code
def yX0_writtenCount : MethodName := ⟨RX0, "writtenCount", "()I"⟩
abbrev cX0_watchedCount : ByteArray := prog_2_method_9_code
def yX0_watchedCount : MethodName := ⟨RX0, "watchedCount", "()I"⟩
abbrev cX0_allLists : ByteArray := prog_2_method_10_code
def yX0_allLists : MethodName := ⟨RX0, "allLists", "()I"⟩
abbrev cX0_figureCount : ByteArray := prog_2_method_11_code
def yX0_figureCount : MethodName := ⟨RX0, "figureCount", "(IZ)I"⟩
abbrev cX0_countFigures : ByteArray := prog_2_method_12_code
def yX0_countFigures : MethodName := ⟨RX0, "countFigures", "(Z)I"⟩
abbrev cX0_rowsWithFigure : ByteArray := prog_2_method_13_code
def yX0_rowsWithFigure : MethodName := ⟨RX0, "rowsWithFigure", "(I)J"⟩
abbrev cX0_rowsWith : ByteArray := prog_2_method_14_code
def yX0_rowsWith : MethodName := ⟨RX0, "rowsWith", "(II)J"⟩
abbrev cX0_roundCount : ByteArray := prog_2_method_15_code
def yX0_roundCount : MethodName := ⟨RX0, "roundCount", "(I)I"⟩
abbrev cX0_highCount : ByteArray := prog_2_method_16_code
def yX0_highCount : MethodName := ⟨RX0, "highCount", "()I"⟩
abbrev cX0_hasHighKin : ByteArray := prog_2_method_17_code
def yX0_hasHighKin : MethodName := ⟨RX0, "hasHighKin", "(I)Z"⟩
abbrev cX0_middleShare : ByteArray := prog_2_method_18_code
def yX0_middleShare : MethodName := ⟨RX0, "middleShare", "(I)I"⟩
abbrev cX0_putInOrder : ByteArray := prog_2_method_19_code
def yX0_putInOrder : MethodName := ⟨RX0, "putInOrder", "(II)V"⟩
abbrev cX0_shareFromMiddle : ByteArray := prog_2_method_20_code
def yX0_shareFromMiddle : MethodName := ⟨RX0, "shareFromMiddle", "(LHallSheets$Hall;)I"⟩
abbrev cX0_writtenCame : ByteArray := prog_2_method_21_code
def yX0_writtenCame : MethodName := ⟨RX0, "writtenCame", "(I)I"⟩
abbrev cX0_writtenOurs : ByteArray := prog_2_method_22_code
def yX0_writtenOurs : MethodName := ⟨RX0, "writtenOurs", "(I)I"⟩
abbrev cX0_allWrittenCame : ByteArray := prog_2_method_23_code
def yX0_allWrittenCame : MethodName := ⟨RX0, "allWrittenCame", "()I"⟩
abbrev cX0_allWrittenOurs : ByteArray := prog_2_method_24_code
def yX0_allWrittenOurs : MethodName := ⟨RX0, "allWrittenOurs", "()I"⟩
abbrev cX0_sentCame : ByteArray := prog_2_method_25_code
def yX0_sentCame : MethodName := ⟨RX0, "sentCame", "(I)I"⟩
abbrev cX0_sentOurs : ByteArray := prog_2_method_26_code
def yX0_sentOurs : MethodName := ⟨RX0, "sentOurs", "(I)I"⟩
abbrev cX0_sentMargin : ByteArray := prog_2_method_27_code
def yX0_sentMargin : MethodName := ⟨RX0, "sentMargin", "()I"⟩
abbrev cX0_writtenMargin : ByteArray := prog_2_method_28_code
def yX0_writtenMargin : MethodName := ⟨RX0, "writtenMargin", "()I"⟩
abbrev cX0_allUntrue : ByteArray := prog_2_method_29_code
def yX0_allUntrue : MethodName := ⟨RX0, "allUntrue", "()I"⟩
abbrev cX0_allMustBe : ByteArray := prog_2_method_30_code
def yX0_allMustBe : MethodName := ⟨RX0, "allMustBe", "()I"⟩
abbrev cX0_fewestTurns : ByteArray := prog_2_method_31_code
def yX0_fewestTurns : MethodName := ⟨RX0, "fewestTurns", "()I"⟩
abbrev cX0_mostFalling : ByteArray := prog_2_method_32_code
def yX0_mostFalling : MethodName := ⟨RX0, "mostFalling", "(I)I"⟩
abbrev cX0_measured : ByteArray := prog_2_method_33_code
def yX0_measured : MethodName := ⟨RX0, "measured", "(I)I"⟩
abbrev cX0_unevenness : ByteArray := prog_2_method_34_code
def yX0_unevenness : MethodName := ⟨RX0, "unevenness", "(Z)I"⟩
abbrev cX0_becomeHonest : ByteArray := prog_2_method_35_code
def yX0_becomeHonest : MethodName := ⟨RX0, "becomeHonest", "(I)I"⟩
abbrev cX0_nextSeed : ByteArray := prog_2_method_36_code
def yX0_nextSeed : MethodName := ⟨RX0, "nextSeed", "(I)I"⟩
abbrev cX0_drawn : ByteArray := prog_2_method_37_code
def yX0_drawn : MethodName := ⟨RX0, "drawn", "(I)I"⟩
abbrev cX0_writeTruth : ByteArray := prog_2_method_38_code
def yX0_writeTruth : MethodName := ⟨RX0, "writeTruth", "()V"⟩
def RX1 : String := "HallSheets$Hall"
def TX1 : u_T := fun k => match k with
  | 0 => ("HallSheets$Hall", "sheet", "LHallSheets$Sheet;", true)
  | 1 => ("HallSheets$Hall", "list", "I", false)
  | 2 => ("HallSheets$Hall", "town", "I", false)
  | 3 => ("HallSheets$Hall", "kin", "I", false)
  | 4 => ("HallSheets$Hall", "district", "I", false)
  | 5 => ("HallSheets$Hall", "earlier", "I", false)
  | 6 => ("HallSheets$Hall", "trueCame", "I", false)
  | 7 => ("HallSheets$Hall", "trueOurs", "I", false)
  | 8 => ("HallSheets$Hall", "watched", "Z", false)
  | 9 => ("HallSheets$Hall", "missing", "Z", false)
  | 10 => ("HallSheets$Hall", "came", "I", false)
  | _ => ("HallSheets$Hall", "ours", "I", false)
def tyX1 : Nat → FieldType := fun k => match k with
  | 0 => .object "HallSheets$Sheet"
  | 1 => .int
  | 2 => .int
  | 3 => .int
  | 4 => .int
  | 5 => .int
  | 6 => .int
  | 7 => .int
  | 8 => .boolean
  | 9 => .boolean
  | 10 => .int
  | _ => .int
abbrev wsX10 : List Cond := u_ws RX1 TX1 12
theorem nmX1 : ∀ a, a < 12 → ∀ b, b < 12 → a ≠ b → (TX1 a).2.1 ≠ (TX1 b).2.1 := by decide +kernel
theorem tyX1_ok : ∀ k, k < 12 → parseFieldDescriptor (TX1 k).2.2.1 = some (tyX1 k) := by decide +kernel
abbrev cX1_init : ByteArray := prog_3_method_1_code
def yX1_init : MethodName := ⟨RX1, "<init>", "()V"⟩
abbrev cX1_begin : ByteArray := prog_3_method_2_code
def yX1_begin : MethodName := ⟨RX1, "begin", "(III)V"⟩
abbrev cX1_copyFrom : ByteArray := prog_3_method_3_code
def yX1_copyFrom : MethodName := ⟨RX1, "copyFrom", "(LHallSheets$Hall;)V"⟩
abbrev cX1_write : ByteArray := prog_3_method_4_code
def yX1_write : MethodName := ⟨RX1, "write", "(II)V"⟩
abbrev cX1_toldCame : ByteArray := prog_3_method_5_code
def yX1_toldCame : MethodName := ⟨RX1, "toldCame", "()I"⟩
abbrev cX1_toldOurs : ByteArray := prog_3_method_6_code
def yX1_toldOurs : MethodName := ⟨RX1, "toldOurs", "(I)I"⟩
abbrev cX1_share : ByteArray := prog_3_method_7_code
def yX1_share : MethodName := ⟨RX1, "share", "()I"⟩
abbrev cX1_lastFigure : ByteArray := prog_3_method_8_code
def yX1_lastFigure : MethodName := ⟨RX1, "lastFigure", "()I"⟩
abbrev cX1_firstFigure : ByteArray := prog_3_method_9_code
def yX1_firstFigure : MethodName := ⟨RX1, "firstFigure", "()I"⟩
abbrev cX1_untruth : ByteArray := prog_3_method_10_code
def yX1_untruth : MethodName := ⟨RX1, "untruth", "()I"⟩
abbrev cX1_mustBe : ByteArray := prog_3_method_11_code
def yX1_mustBe : MethodName := ⟨RX1, "mustBe", "()I"⟩
abbrev cX1_margin : ByteArray := prog_3_method_12_code
def yX1_margin : MethodName := ⟨RX1, "margin", "()I"⟩
abbrev cX1_marginFall : ByteArray := prog_3_method_13_code
def yX1_marginFall : MethodName := ⟨RX1, "marginFall", "()I"⟩
def RX2 : String := "HallSheets$MarkGrammar"
def TX2 : u_T := fun k => match k with
  | 0 => ("HallSheets$MarkGrammar", "state", "I", false)
  | 1 => ("HallSheets$MarkGrammar", "depth", "I", false)
  | 2 => ("HallSheets$MarkGrammar", "compared", "Z", false)
  | 3 => ("HallSheets$MarkGrammar", "digits", "I", false)
  | _ => ("HallSheets$MarkGrammar", "zeroAhead", "Z", false)
def tyX2 : Nat → FieldType := fun k => match k with
  | 0 => .int
  | 1 => .int
  | 2 => .boolean
  | 3 => .int
  | _ => .boolean
abbrev wsX20 : List Cond := u_ws RX2 TX2 5
theorem nmX2 : ∀ a, a < 5 → ∀ b, b < 5 → a ≠ b → (TX2 a).2.1 ≠ (TX2 b).2.1 := by decide +kernel
theorem tyX2_ok : ∀ k, k < 5 → parseFieldDescriptor (TX2 k).2.2.1 = some (tyX2 k) := by decide +kernel
abbrev cX2_init : ByteArray := prog_4_method_1_code
def yX2_init : MethodName := ⟨RX2, "<init>", "()V"⟩
abbrev cX2_faultOf : ByteArray := prog_4_method_2_code
def yX2_faultOf : MethodName := ⟨RX2, "faultOf", "([II)I"⟩
abbrev cX2_isWhole : ByteArray := prog_4_method_3_code
def yX2_isWhole : MethodName := ⟨RX2, "isWhole", "()Z"⟩
abbrev cX2_goesOn : ByteArray := prog_4_method_4_code
def yX2_goesOn : MethodName := ⟨RX2, "goesOn", "(I)Z"⟩
abbrev cX2_become : ByteArray := prog_4_method_5_code
def yX2_become : MethodName := ⟨RX2, "become", "(I)Z"⟩
abbrev cX2_beginsTest : ByteArray := prog_4_method_6_code
def yX2_beginsTest : MethodName := ⟨RX2, "beginsTest", "(I)Z"⟩
abbrev cX2_beginsAtom : ByteArray := prog_4_method_7_code
def yX2_beginsAtom : MethodName := ⟨RX2, "beginsAtom", "(I)Z"⟩
abbrev cX2_addsDigit : ByteArray := prog_4_method_8_code
def yX2_addsDigit : MethodName := ⟨RX2, "addsDigit", "(I)Z"⟩
abbrev cX2_followsAtom : ByteArray := prog_4_method_9_code
def yX2_followsAtom : MethodName := ⟨RX2, "followsAtom", "(I)Z"⟩
abbrev cX2_followsTest : ByteArray := prog_4_method_10_code
def yX2_followsTest : MethodName := ⟨RX2, "followsTest", "(I)Z"⟩
abbrev cX2_isDigit : ByteArray := prog_4_method_11_code
def yX2_isDigit : MethodName := ⟨RX2, "isDigit", "(I)Z"⟩
abbrev cX2_isField : ByteArray := prog_4_method_12_code
def yX2_isField : MethodName := ⟨RX2, "isField", "(I)Z"⟩
def RX3 : String := "HallSheets$MarkTruth"
def TX3 : u_T := fun k => match k with
  | 0 => ("HallSheets$MarkTruth", "any", "[Z", true)
  | 1 => ("HallSheets$MarkTruth", "all", "[Z", true)
  | 2 => ("HallSheets$MarkTruth", "turned", "[Z", true)
  | 3 => ("HallSheets$MarkTruth", "depth", "I", false)
  | 4 => ("HallSheets$MarkTruth", "left", "I", false)
  | 5 => ("HallSheets$MarkTruth", "comparison", "I", false)
  | 6 => ("HallSheets$MarkTruth", "sum", "I", false)
  | 7 => ("HallSheets$MarkTruth", "adding", "I", false)
  | 8 => ("HallSheets$MarkTruth", "product", "I", false)
  | 9 => ("HallSheets$MarkTruth", "scaling", "I", false)
  | _ => ("HallSheets$MarkTruth", "number", "I", false)
def tyX3 : Nat → FieldType := fun k => match k with
  | 0 => .array .boolean
  | 1 => .array .boolean
  | 2 => .array .boolean
  | 3 => .int
  | 4 => .int
  | 5 => .int
  | 6 => .int
  | 7 => .int
  | 8 => .int
  | 9 => .int
  | _ => .int
abbrev wsX30 : List Cond := u_ws RX3 TX3 11
theorem nmX3 : ∀ a, a < 11 → ∀ b, b < 11 → a ≠ b → (TX3 a).2.1 ≠ (TX3 b).2.1 := by decide +kernel
theorem tyX3_ok : ∀ k, k < 11 → parseFieldDescriptor (TX3 k).2.2.1 = some (tyX3 k) := by decide +kernel
abbrev cX3_init : ByteArray := prog_5_method_1_code
def yX3_init : MethodName := ⟨RX3, "<init>", "()V"⟩
abbrev cX3_holds : ByteArray := prog_5_method_2_code
def yX3_holds : MethodName := ⟨RX3, "holds", "([IILHallSheets$Hall;I)Z"⟩
abbrev cX3_fieldOf : ByteArray := prog_5_method_3_code
def yX3_fieldOf : MethodName := ⟨RX3, "fieldOf", "(ILHallSheets$Hall;I)I"⟩
abbrev cX3_beginGroup : ByteArray := prog_5_method_4_code
def yX3_beginGroup : MethodName := ⟨RX3, "beginGroup", "()V"⟩
abbrev cX3_beginSum : ByteArray := prog_5_method_5_code
def yX3_beginSum : MethodName := ⟨RX3, "beginSum", "()V"⟩
abbrev cX3_beginProduct : ByteArray := prog_5_method_6_code
def yX3_beginProduct : MethodName := ⟨RX3, "beginProduct", "()V"⟩
abbrev cX3_takeDigit : ByteArray := prog_5_method_7_code
def yX3_takeDigit : MethodName := ⟨RX3, "takeDigit", "(IZ)V"⟩
abbrev cX3_takeAtom : ByteArray := prog_5_method_8_code
def yX3_takeAtom : MethodName := ⟨RX3, "takeAtom", "(I)V"⟩
abbrev cX3_takeSign : ByteArray := prog_5_method_9_code
def yX3_takeSign : MethodName := ⟨RX3, "takeSign", "(I)V"⟩
abbrev cX3_takeJoint : ByteArray := prog_5_method_10_code
def yX3_takeJoint : MethodName := ⟨RX3, "takeJoint", "(I)V"⟩
abbrev cX3_endProduct : ByteArray := prog_5_method_11_code
def yX3_endProduct : MethodName := ⟨RX3, "endProduct", "()V"⟩
abbrev cX3_endTest : ByteArray := prog_5_method_12_code
def yX3_endTest : MethodName := ⟨RX3, "endTest", "()V"⟩
abbrev cX3_compared : ByteArray := prog_5_method_13_code
def yX3_compared : MethodName := ⟨RX3, "compared", "()Z"⟩
abbrev cX3_join : ByteArray := prog_5_method_14_code
def yX3_join : MethodName := ⟨RX3, "join", "(Z)V"⟩
def RX4 : String := "HallSheets$Recount"
def TX4 : u_T := fun k => match k with
  | 0 => ("HallSheets$Recount", "best", "[I", true)
  | _ => ("HallSheets$Recount", "chosen", "[I", true)
def tyX4 : Nat → FieldType := fun k => match k with
  | 0 => .array .int
  | _ => .array .int
abbrev wsX40 : List Cond := u_ws RX4 TX4 2
theorem nmX4 : ∀ a, a < 2 → ∀ b, b < 2 → a ≠ b → (TX4 a).2.1 ≠ (TX4 b).2.1 := by decide +kernel
theorem tyX4_ok : ∀ k, k < 2 → parseFieldDescriptor (TX4 k).2.2.1 = some (tyX4 k) := by decide +kernel
abbrev cX4_init : ByteArray := prog_6_method_1_code
def yX4_init : MethodName := ⟨RX4, "<init>", "()V"⟩
abbrev cX4_plan : ByteArray := prog_6_method_2_code
def yX4_plan : MethodName := ⟨RX4, "plan", "(LHallSheets$Country;I)V"⟩
abbrev cX4_worthOf : ByteArray := prog_6_method_3_code
def yX4_worthOf : MethodName := ⟨RX4, "worthOf", "(II)I"⟩
abbrev cX4_consider : ByteArray := prog_6_method_4_code
def yX4_consider : MethodName := ⟨RX4, "consider", "(IIII)V"⟩
def RX5 : String := "HallSheets$Sheet"
def TX5 : u_T := fun k => match k with
  | 0 => ("HallSheets$Sheet", "kind", "I", false)
  | _ => ("HallSheets$Sheet", "number", "I", false)
def tyX5 : Nat → FieldType := fun k => match k with
  | 0 => .int
  | _ => .int
abbrev wsX50 : List Cond := u_ws RX5 TX5 2
theorem nmX5 : ∀ a, a < 2 → ∀ b, b < 2 → a ≠ b → (TX5 a).2.1 ≠ (TX5 b).2.1 := by decide +kernel
theorem tyX5_ok : ∀ k, k < 2 → parseFieldDescriptor (TX5 k).2.2.1 = some (tyX5 k) := by decide +kernel
abbrev cX5_init : ByteArray := prog_7_method_1_code
def yX5_init : MethodName := ⟨RX5, "<init>", "()V"⟩
abbrev cX5_copyFrom : ByteArray := prog_7_method_2_code
def yX5_copyFrom : MethodName := ⟨RX5, "copyFrom", "(LHallSheets$Sheet;)V"⟩
abbrev cX5_tellsCame : ByteArray := prog_7_method_3_code
def yX5_tellsCame : MethodName := ⟨RX5, "tellsCame", "(II)I"⟩
abbrev cX5_tellsOurs : ByteArray := prog_7_method_4_code
def yX5_tellsOurs : MethodName := ⟨RX5, "tellsOurs", "(IIII)I"⟩
abbrev cX5_toTen : ByteArray := prog_7_method_5_code
def yX5_toTen : MethodName := ⟨RX5, "toTen", "(I)I"⟩
abbrev cX5_madeOurs : ByteArray := prog_7_method_6_code
def yX5_madeOurs : MethodName := ⟨RX5, "madeOurs", "(II)I"⟩
abbrev cX5_copiedOurs : ByteArray := prog_7_method_7_code
def yX5_copiedOurs : MethodName := ⟨RX5, "copiedOurs", "(II)I"⟩
abbrev cX5_heaviness : ByteArray := prog_7_method_8_code
def yX5_heaviness : MethodName := ⟨RX5, "heaviness", "()I"⟩
abbrev cX5_fail : ByteArray := prog_7_method_9_code
def yX5_fail : MethodName := ⟨RX5, "fail", "()V"⟩
def RX6 : String := "HallSheets$Shelf"
def TX6 : u_T := fun k => match k with
  | 0 => ("HallSheets$Shelf", "held", "I", false)
  | 1 => ("HallSheets$Shelf", "sheet", "LHallSheets$Sheet;", true)
  | 2 => ("HallSheets$Shelf", "hall", "I", false)
  | 3 => ("HallSheets$Shelf", "trueCame", "I", false)
  | 4 => ("HallSheets$Shelf", "sort", "I", false)
  | 5 => ("HallSheets$Shelf", "size", "I", false)
  | _ => ("HallSheets$Shelf", "elements", "[I", true)
def tyX6 : Nat → FieldType := fun k => match k with
  | 0 => .int
  | 1 => .object "HallSheets$Sheet"
  | 2 => .int
  | 3 => .int
  | 4 => .int
  | 5 => .int
  | _ => .array .int
abbrev wsX60 : List Cond := u_ws RX6 TX6 7
theorem nmX6 : ∀ a, a < 7 → ∀ b, b < 7 → a ≠ b → (TX6 a).2.1 ≠ (TX6 b).2.1 := by decide +kernel
theorem tyX6_ok : ∀ k, k < 7 → parseFieldDescriptor (TX6 k).2.2.1 = some (tyX6 k) := by decide +kernel
abbrev cX6_init : ByteArray := prog_8_method_1_code
def yX6_init : MethodName := ⟨RX6, "<init>", "()V"⟩
abbrev cX6_holdSheet : ByteArray := prog_8_method_2_code
def yX6_holdSheet : MethodName := ⟨RX6, "holdSheet", "(ILHallSheets$Hall;)V"⟩
abbrev cX6_holdRow : ByteArray := prog_8_method_3_code
def yX6_holdRow : MethodName := ⟨RX6, "holdRow", "(II)V"⟩
abbrev cX6_hasPlace : ByteArray := prog_8_method_4_code
def yX6_hasPlace : MethodName := ⟨RX6, "hasPlace", "(I)Z"⟩
abbrev cX6_hasPlaces : ByteArray := prog_8_method_5_code
def yX6_hasPlaces : MethodName := ⟨RX6, "hasPlaces", "(II)Z"⟩
abbrev cX6_lowestBits : ByteArray := prog_8_method_6_code
def yX6_lowestBits : MethodName := ⟨RX6, "lowestBits", "(I)I"⟩
abbrev cX6_tellsNumber : ByteArray := prog_8_method_7_code
def yX6_tellsNumber : MethodName := ⟨RX6, "tellsNumber", "(I)Z"⟩
abbrev cX6_leastNumber : ByteArray := prog_8_method_8_code
def yX6_leastNumber : MethodName := ⟨RX6, "leastNumber", "()I"⟩
abbrev cX6_caughtFailure : ByteArray := prog_8_method_9_code
def yX6_caughtFailure : MethodName := ⟨RX6, "caughtFailure", "()I"⟩
def RX7 : String := "HallSheets$Watchers"
def TX7 : u_T := fun k => match k with
  | 0 => ("HallSheets$Watchers", "shares", "[I", true)
  | 1 => ("HallSheets$Watchers", "all", "I", false)
  | 2 => ("HallSheets$Watchers", "allShares", "I", false)
  | 3 => ("HallSheets$Watchers", "watched", "I", false)
  | _ => ("HallSheets$Watchers", "watchedShares", "I", false)
def tyX7 : Nat → FieldType := fun k => match k with
  | 0 => .array .int
  | 1 => .int
  | 2 => .int
  | 3 => .int
  | _ => .int
abbrev wsX70 : List Cond := u_ws RX7 TX7 5
theorem nmX7 : ∀ a, a < 5 → ∀ b, b < 5 → a ≠ b → (TX7 a).2.1 ≠ (TX7 b).2.1 := by decide +kernel
theorem tyX7_ok : ∀ k, k < 5 → parseFieldDescriptor (TX7 k).2.2.1 = some (tyX7 k) := by decide +kernel
abbrev cX7_init : ByteArray := prog_9_method_1_code
def yX7_init : MethodName := ⟨RX7, "<init>", "()V"⟩
abbrev cX7_look : ByteArray := prog_9_method_2_code
def yX7_look : MethodName := ⟨RX7, "look", "(LHallSheets$Country;)V"⟩
abbrev cX7_areFew : ByteArray := prog_9_method_3_code
def yX7_areFew : MethodName := ⟨RX7, "areFew", "()Z"⟩
abbrev cX7_areSome : ByteArray := prog_9_method_4_code
def yX7_areSome : MethodName := ⟨RX7, "areSome", "()Z"⟩
abbrev cX7_worth : ByteArray := prog_9_method_5_code
def yX7_worth : MethodName := ⟨RX7, "worth", "()I"⟩
abbrev cX7_choices : ByteArray := prog_9_method_6_code
def yX7_choices : MethodName := ⟨RX7, "choices", "(Z)I"⟩
abbrev cX7_sharesIn : ByteArray := prog_9_method_7_code
def yX7_sharesIn : MethodName := ⟨RX7, "sharesIn", "(I)I"⟩
def RX8 : String := "HallSheets"
def TX8 : u_T := fun k => match k with
  | 0 => ("HallSheets", "now", "LHallSheets$Country;", true)
  | 1 => ("HallSheets", "then", "LHallSheets$Country;", true)
  | 2 => ("HallSheets", "mind", "LHallSheets$Country;", true)
  | 3 => ("HallSheets", "imageTaken", "Z", false)
  | 4 => ("HallSheets", "shelves", "[LHallSheets$Shelf;", true)
  | 5 => ("HallSheets", "watchers", "LHallSheets$Watchers;", true)
  | 6 => ("HallSheets", "recount", "LHallSheets$Recount;", true)
  | _ => ("HallSheets", "grammar", "LHallSheets$MarkGrammar;", true)
def tyX8 : Nat → FieldType := fun k => match k with
  | 0 => .object "HallSheets$Country"
  | 1 => .object "HallSheets$Country"
  | 2 => .object "HallSheets$Country"
  | 3 => .boolean
  | 4 => .array (.object "HallSheets$Shelf")
  | 5 => .object "HallSheets$Watchers"
  | 6 => .object "HallSheets$Recount"
  | _ => .object "HallSheets$MarkGrammar"
abbrev wsX80 : List Cond := u_ws RX8 TX8 8
theorem nmX8 : ∀ a, a < 8 → ∀ b, b < 8 → a ≠ b → (TX8 a).2.1 ≠ (TX8 b).2.1 := by decide +kernel
theorem tyX8_ok : ∀ k, k < 8 → parseFieldDescriptor (TX8 k).2.2.1 = some (tyX8 k) := by decide +kernel
abbrev cX8_init : ByteArray := prog_1_method_1_code
def yX8_init : MethodName := ⟨RX8, "<init>", "()V"⟩
abbrev cX8_hall : ByteArray := prog_1_method_2_code
def yX8_hall : MethodName := ⟨RX8, "hall", "(III)I"⟩
abbrev cX8_truly : ByteArray := prog_1_method_3_code
def yX8_truly : MethodName := ⟨RX8, "truly", "(III)I"⟩
abbrev cX8_sheet : ByteArray := prog_1_method_4_code
def yX8_sheet : MethodName := ⟨RX8, "sheet", "(III)I"⟩
abbrev cX8_set : ByteArray := prog_1_method_5_code
def yX8_set : MethodName := ⟨RX8, "set", "(II)I"⟩
abbrev cX8_of : ByteArray := prog_1_method_6_code
def yX8_of : MethodName := ⟨RX8, "of", "(II)I"⟩
abbrev cX8_send : ByteArray := prog_1_method_7_code
def yX8_send : MethodName := ⟨RX8, "send", "(I)I"⟩
abbrev cX8_hear : ByteArray := prog_1_method_8_code
def yX8_hear : MethodName := ⟨RX8, "hear", "(II)I"⟩
abbrev cX8_hearOne : ByteArray := prog_1_method_9_code
def yX8_hearOne : MethodName := ⟨RX8, "hearOne", "(LHallSheets$Hall;LHallSheets$Shelf;LHallSheets$Shelf;I)V"⟩
abbrev cX8_figures : ByteArray := prog_1_method_10_code
def yX8_figures : MethodName := ⟨RX8, "figures", "(II)I"⟩
abbrev cX8_odds : ByteArray := prog_1_method_11_code
def yX8_odds : MethodName := ⟨RX8, "odds", "(I)J"⟩
abbrev cX8_round : ByteArray := prog_1_method_12_code
def yX8_round : MethodName := ⟨RX8, "round", "(I)I"⟩
abbrev cX8_may : ByteArray := prog_1_method_13_code
def yX8_may : MethodName := ⟨RX8, "may", "(II)I"⟩
abbrev cX8_roundChoices : ByteArray := prog_1_method_14_code
def yX8_roundChoices : MethodName := ⟨RX8, "roundChoices", "(I)I"⟩
abbrev cX8_leastCame : ByteArray := prog_1_method_15_code
def yX8_leastCame : MethodName := ⟨RX8, "leastCame", "(I)I"⟩
abbrev cX8_middle : ByteArray := prog_1_method_16_code
def yX8_middle : MethodName := ⟨RX8, "middle", "(I)I"⟩
abbrev cX8_left : ByteArray := prog_1_method_17_code
def yX8_left : MethodName := ⟨RX8, "left", "(I)I"⟩
abbrev cX8_trulyAll : ByteArray := prog_1_method_18_code
def yX8_trulyAll : MethodName := ⟨RX8, "trulyAll", "(I)I"⟩
abbrev cX8_watch : ByteArray := prog_1_method_19_code
def yX8_watch : MethodName := ⟨RX8, "watch", "(IZ)I"⟩
abbrev cX8_cost : ByteArray := prog_1_method_20_code
def yX8_cost : MethodName := ⟨RX8, "cost", "()I"⟩
abbrev cX8_ways : ByteArray := prog_1_method_21_code
def yX8_ways : MethodName := ⟨RX8, "ways", "(I)I"⟩
abbrev cX8_up : ByteArray := prog_1_method_22_code
def yX8_up : MethodName := ⟨RX8, "up", "(III)I"⟩
abbrev cX8_down : ByteArray := prog_1_method_23_code
def yX8_down : MethodName := ⟨RX8, "down", "(I)I"⟩
abbrev cX8_sum : ByteArray := prog_1_method_24_code
def yX8_sum : MethodName := ⟨RX8, "sum", "(II)I"⟩
abbrev cX8_won : ByteArray := prog_1_method_25_code
def yX8_won : MethodName := ⟨RX8, "won", "()I"⟩
abbrev cX8_helped : ByteArray := prog_1_method_26_code
def yX8_helped : MethodName := ⟨RX8, "helped", "()I"⟩
abbrev cX8_untrue : ByteArray := prog_1_method_27_code
def yX8_untrue : MethodName := ⟨RX8, "untrue", "(II)I"⟩
abbrev cX8_turn : ByteArray := prog_1_method_28_code
def yX8_turn : MethodName := ⟨RX8, "turn", "()I"⟩
abbrev cX8_again : ByteArray := prog_1_method_29_code
def yX8_again : MethodName := ⟨RX8, "again", "(II)I"⟩
abbrev cX8_measure : ByteArray := prog_1_method_30_code
def yX8_measure : MethodName := ⟨RX8, "measure", "(I)I"⟩
abbrev cX8_odd : ByteArray := prog_1_method_31_code
def yX8_odd : MethodName := ⟨RX8, "odd", "(III)I"⟩
abbrev cX8_land : ByteArray := prog_1_method_32_code
def yX8_land : MethodName := ⟨RX8, "land", "(I)I"⟩
abbrev cX8_fault : ByteArray := prog_1_method_33_code
def yX8_fault : MethodName := ⟨RX8, "fault", "(I)I"⟩
abbrev cX8_mark : ByteArray := prog_1_method_34_code
def yX8_mark : MethodName := ⟨RX8, "mark", "(I)I"⟩
abbrev cX8_marked : ByteArray := prog_1_method_35_code
def yX8_marked : MethodName := ⟨RX8, "marked", "(I)I"⟩
abbrev cX8_said : ByteArray := prog_1_method_36_code
def yX8_said : MethodName := ⟨RX8, "said", "(II)I"⟩
abbrev cX8_image : ByteArray := prog_1_method_37_code
def yX8_image : MethodName := ⟨RX8, "image", "()I"⟩
abbrev cX8_restore : ByteArray := prog_1_method_38_code
def yX8_restore : MethodName := ⟨RX8, "restore", "()I"⟩
abbrev cX8_count : ByteArray := prog_1_method_39_code
def yX8_count : MethodName := ⟨RX8, "count", "(I)I"⟩
abbrev cX8_keep : ByteArray := prog_1_method_40_code
def yX8_keep : MethodName := ⟨RX8, "keep", "(III)I"⟩
abbrev cX8_row : ByteArray := prog_1_method_41_code
def yX8_row : MethodName := ⟨RX8, "row", "(III)I"⟩
abbrev cX8_put : ByteArray := prog_1_method_42_code
def yX8_put : MethodName := ⟨RX8, "put", "(III)I"⟩
abbrev cX8_element : ByteArray := prog_1_method_43_code
def yX8_element : MethodName := ⟨RX8, "element", "(II)J"⟩
abbrev cX8_copy : ByteArray := prog_1_method_44_code
def yX8_copy : MethodName := ⟨RX8, "copy", "(IIIII)I"⟩
abbrev cX8_weight : ByteArray := prog_1_method_45_code
def yX8_weight : MethodName := ⟨RX8, "weight", "(I)I"⟩
abbrev cX8_toss : ByteArray := prog_1_method_46_code
def yX8_toss : MethodName := ⟨RX8, "toss", "(I)I"⟩
abbrev cX8_within : ByteArray := prog_1_method_47_code
def yX8_within : MethodName := ⟨RX8, "within", "(III)Z"⟩
abbrev cX8_heldTo : ByteArray := prog_1_method_48_code
def yX8_heldTo : MethodName := ⟨RX8, "heldTo", "(III)I"⟩
abbrev cX8_shareOf : ByteArray := prog_1_method_49_code
def yX8_shareOf : MethodName := ⟨RX8, "shareOf", "(II)I"⟩
abbrev cX8_isRound : ByteArray := prog_1_method_50_code
def yX8_isRound : MethodName := ⟨RX8, "isRound", "(II)Z"⟩
abbrev cX8_isDistrict : ByteArray := prog_1_method_51_code
def yX8_isDistrict : MethodName := ⟨RX8, "isDistrict", "(I)Z"⟩
abbrev cX8_isShelf : ByteArray := prog_1_method_52_code
def yX8_isShelf : MethodName := ⟨RX8, "isShelf", "(I)Z"⟩
abbrev cX8_sheetRefusal : ByteArray := prog_1_method_53_code
def yX8_sheetRefusal : MethodName := ⟨RX8, "sheetRefusal", "(I)I"⟩
abbrev cX8_rowRefusal : ByteArray := prog_1_method_54_code
def yX8_rowRefusal : MethodName := ⟨RX8, "rowRefusal", "(I)I"⟩
abbrev cX8_rowsRefusal : ByteArray := prog_1_method_55_code
def yX8_rowsRefusal : MethodName := ⟨RX8, "rowsRefusal", "(II)I"⟩
abbrev cX8_textRefusal : ByteArray := prog_1_method_56_code
def yX8_textRefusal : MethodName := ⟨RX8, "textRefusal", "(I)I"⟩
def RX9 : String := "HallSheetsModel"
def TX9 : u_T := fun k => match k with
  | 0 => ("HallSheetsModel", "s", "[I", true)
  | 1 => ("HallSheetsModel", "image", "[I", true)
  | 2 => ("HallSheetsModel", "kept", "[I", true)
  | 3 => ("HallSheetsModel", "sort", "[I", true)
  | 4 => ("HallSheetsModel", "size", "[I", true)
  | 5 => ("HallSheetsModel", "element", "[I", true)
  | 6 => ("HallSheetsModel", "keptWeight", "[I", true)
  | 7 => ("HallSheetsModel", "keptToss", "[I", true)
  | 8 => ("HallSheetsModel", "hasImage", "Z", false)
  | 9 => ("HallSheetsModel", "thrown", "I", false)
  | 10 => ("HallSheetsModel", "count", "[I", true)
  | 11 => ("HallSheetsModel", "counted", "I", false)
  | 12 => ("HallSheetsModel", "shares", "[I", true)
  | 13 => ("HallSheetsModel", "some", "I", false)
  | 14 => ("HallSheetsModel", "someWatched", "I", false)
  | 15 => ("HallSheetsModel", "worths", "[I", true)
  | 16 => ("HallSheetsModel", "seed", "I", false)
  | 17 => ("HallSheetsModel", "landCame", "[I", true)
  | 18 => ("HallSheetsModel", "landOurs", "[I", true)
  | 19 => ("HallSheetsModel", "oldCame", "[I", true)
  | 20 => ("HallSheetsModel", "oldOurs", "[I", true)
  | 21 => ("HallSheetsModel", "pos", "I", false)
  | 22 => ("HallSheetsModel", "base", "I", false)
  | 23 => ("HallSheetsModel", "end", "I", false)
  | 24 => ("HallSheetsModel", "deep", "I", false)
  | 25 => ("HallSheetsModel", "asked", "I", false)
  | 26 => ("HallSheetsModel", "text", "[I", false)
  | _ => ("HallSheetsModel", "isWell", "Z", false)
def tyX9 : Nat → FieldType := fun k => match k with
  | 0 => .array .int
  | 1 => .array .int
  | 2 => .array .int
  | 3 => .array .int
  | 4 => .array .int
  | 5 => .array .int
  | 6 => .array .int
  | 7 => .array .int
  | 8 => .boolean
  | 9 => .int
  | 10 => .array .int
  | 11 => .int
  | 12 => .array .int
  | 13 => .int
  | 14 => .int
  | 15 => .array .int
  | 16 => .int
  | 17 => .array .int
  | 18 => .array .int
  | 19 => .array .int
  | 20 => .array .int
  | 21 => .int
  | 22 => .int
  | 23 => .int
  | 24 => .int
  | 25 => .int
  | 26 => .array .int
  | _ => .boolean
abbrev wsX90 : List Cond := u_ws RX9 TX9 28
theorem nmX9 : ∀ a, a < 28 → ∀ b, b < 28 → a ≠ b → (TX9 a).2.1 ≠ (TX9 b).2.1 := by decide +kernel
theorem tyX9_ok : ∀ k, k < 28 → parseFieldDescriptor (TX9 k).2.2.1 = some (tyX9 k) := by decide +kernel
abbrev cX9_init : ByteArray := prog_11_method_1_code
def yX9_init : MethodName := ⟨RX9, "<init>", "()V"⟩
abbrev cX9_thrown : ByteArray := prog_11_method_2_code
def yX9_thrown : MethodName := ⟨RX9, "thrown", "()I"⟩
abbrev cX9_isIn : ByteArray := prog_11_method_3_code
def yX9_isIn : MethodName := ⟨RX9, "isIn", "(JJJ)Z"⟩
abbrev cX9_isHall : ByteArray := prog_11_method_4_code
def yX9_isHall : MethodName := ⟨RX9, "isHall", "(I)Z"⟩
abbrev cX9_isShelf : ByteArray := prog_11_method_5_code
def yX9_isShelf : MethodName := ⟨RX9, "isShelf", "(I)Z"⟩
abbrev cX9_get : ByteArray := prog_11_method_6_code
def yX9_get : MethodName := ⟨RX9, "get", "(II)I"⟩
abbrev cX9_becomes : ByteArray := prog_11_method_7_code
def yX9_becomes : MethodName := ⟨RX9, "becomes", "(II)I"⟩
abbrev cX9_hall : ByteArray := prog_11_method_8_code
def yX9_hall : MethodName := ⟨RX9, "hall", "(III)I"⟩
abbrev cX9_truly : ByteArray := prog_11_method_9_code
def yX9_truly : MethodName := ⟨RX9, "truly", "(III)I"⟩
abbrev cX9_sheet : ByteArray := prog_11_method_10_code
def yX9_sheet : MethodName := ⟨RX9, "sheet", "(III)I"⟩
abbrev cX9_set : ByteArray := prog_11_method_11_code
def yX9_set : MethodName := ⟨RX9, "set", "(II)I"⟩
abbrev cX9_less : ByteArray := prog_11_method_12_code
def yX9_less : MethodName := ⟨RX9, "less", "(II)I"⟩
abbrev cX9_tellsCame : ByteArray := prog_11_method_13_code
def yX9_tellsCame : MethodName := ⟨RX9, "tellsCame", "(I)I"⟩
abbrev cX9_tellsOurs : ByteArray := prog_11_method_14_code
def yX9_tellsOurs : MethodName := ⟨RX9, "tellsOurs", "(I)I"⟩
abbrev cX9_has : ByteArray := prog_11_method_15_code
def yX9_has : MethodName := ⟨RX9, "has", "(I)Z"⟩
abbrev cX9_share : ByteArray := prog_11_method_16_code
def yX9_share : MethodName := ⟨RX9, "share", "(I)I"⟩
abbrev cX9_of : ByteArray := prog_11_method_17_code
def yX9_of : MethodName := ⟨RX9, "of", "(II)I"⟩
abbrev cX9_there : ByteArray := prog_11_method_18_code
def yX9_there : MethodName := ⟨RX9, "there", "()I"⟩
abbrev cX9_writes : ByteArray := prog_11_method_19_code
def yX9_writes : MethodName := ⟨RX9, "writes", "(III)V"⟩
abbrev cX9_send : ByteArray := prog_11_method_20_code
def yX9_send : MethodName := ⟨RX9, "send", "(I)I"⟩
abbrev cX9_wrongRow : ByteArray := prog_11_method_21_code
def yX9_wrongRow : MethodName := ⟨RX9, "wrongRow", "(II)I"⟩
abbrev cX9_held : ByteArray := prog_11_method_22_code
def yX9_held : MethodName := ⟨RX9, "held", "(II)I"⟩
abbrev cX9_hear : ByteArray := prog_11_method_23_code
def yX9_hear : MethodName := ⟨RX9, "hear", "(II)I"⟩
abbrev cX9_figureOf : ByteArray := prog_11_method_24_code
def yX9_figureOf : MethodName := ⟨RX9, "figureOf", "(II)I"⟩
abbrev cX9_hasFigure : ByteArray := prog_11_method_25_code
def yX9_hasFigure : MethodName := ⟨RX9, "hasFigure", "(II)Z"⟩
abbrev cX9_counts : ByteArray := prog_11_method_26_code
def yX9_counts : MethodName := ⟨RX9, "counts", "(II)V"⟩
abbrev cX9_figures : ByteArray := prog_11_method_27_code
def yX9_figures : MethodName := ⟨RX9, "figures", "(II)I"⟩
abbrev cX9_odds : ByteArray := prog_11_method_28_code
def yX9_odds : MethodName := ⟨RX9, "odds", "(I)J"⟩
abbrev cX9_isRound : ByteArray := prog_11_method_29_code
def yX9_isRound : MethodName := ⟨RX9, "isRound", "(II)Z"⟩
abbrev cX9_round : ByteArray := prog_11_method_30_code
def yX9_round : MethodName := ⟨RX9, "round", "(I)I"⟩
abbrev cX9_may : ByteArray := prog_11_method_31_code
def yX9_may : MethodName := ⟨RX9, "may", "(II)I"⟩
abbrev cX9_middleOf : ByteArray := prog_11_method_32_code
def yX9_middleOf : MethodName := ⟨RX9, "middleOf", "(I)I"⟩
abbrev cX9_middle : ByteArray := prog_11_method_33_code
def yX9_middle : MethodName := ⟨RX9, "middle", "(I)I"⟩
abbrev cX9_leftOf : ByteArray := prog_11_method_34_code
def yX9_leftOf : MethodName := ⟨RX9, "leftOf", "(I)I"⟩
abbrev cX9_left : ByteArray := prog_11_method_35_code
def yX9_left : MethodName := ⟨RX9, "left", "(I)I"⟩
abbrev cX9_trulyAll : ByteArray := prog_11_method_36_code
def yX9_trulyAll : MethodName := ⟨RX9, "trulyAll", "(I)I"⟩
abbrev cX9_watch : ByteArray := prog_11_method_37_code
def yX9_watch : MethodName := ⟨RX9, "watch", "(IZ)I"⟩
abbrev cX9_findWatched : ByteArray := prog_11_method_38_code
def yX9_findWatched : MethodName := ⟨RX9, "findWatched", "()I"⟩
abbrev cX9_costOf : ByteArray := prog_11_method_39_code
def yX9_costOf : MethodName := ⟨RX9, "costOf", "(I)I"⟩
abbrev cX9_cost : ByteArray := prog_11_method_40_code
def yX9_cost : MethodName := ⟨RX9, "cost", "()I"⟩
abbrev cX9_bits : ByteArray := prog_11_method_41_code
def yX9_bits : MethodName := ⟨RX9, "bits", "(I)I"⟩
abbrev cX9_ways : ByteArray := prog_11_method_42_code
def yX9_ways : MethodName := ⟨RX9, "ways", "(I)I"⟩
abbrev cX9_up : ByteArray := prog_11_method_43_code
def yX9_up : MethodName := ⟨RX9, "up", "(III)I"⟩
abbrev cX9_down : ByteArray := prog_11_method_44_code
def yX9_down : MethodName := ⟨RX9, "down", "(I)I"⟩
abbrev cX9_written : ByteArray := prog_11_method_45_code
def yX9_written : MethodName := ⟨RX9, "written", "(II)I"⟩
abbrev cX9_sentUp : ByteArray := prog_11_method_46_code
def yX9_sentUp : MethodName := ⟨RX9, "sentUp", "(II)I"⟩
abbrev cX9_sum : ByteArray := prog_11_method_47_code
def yX9_sum : MethodName := ⟨RX9, "sum", "(II)I"⟩
abbrev cX9_won : ByteArray := prog_11_method_48_code
def yX9_won : MethodName := ⟨RX9, "won", "()I"⟩
abbrev cX9_helped : ByteArray := prog_11_method_49_code
def yX9_helped : MethodName := ⟨RX9, "helped", "()I"⟩
abbrev cX9_amount : ByteArray := prog_11_method_50_code
def yX9_amount : MethodName := ⟨RX9, "amount", "(I)I"⟩
abbrev cX9_untrueOf : ByteArray := prog_11_method_51_code
def yX9_untrueOf : MethodName := ⟨RX9, "untrueOf", "(II)I"⟩
abbrev cX9_untrueAll : ByteArray := prog_11_method_52_code
def yX9_untrueAll : MethodName := ⟨RX9, "untrueAll", "(I)I"⟩
abbrev cX9_untrue : ByteArray := prog_11_method_53_code
def yX9_untrue : MethodName := ⟨RX9, "untrue", "(II)I"⟩
abbrev cX9_falls : ByteArray := prog_11_method_54_code
def yX9_falls : MethodName := ⟨RX9, "falls", "(I)I"⟩
abbrev cX9_turn : ByteArray := prog_11_method_55_code
def yX9_turn : MethodName := ⟨RX9, "turn", "()I"⟩
abbrev cX9_costAgain : ByteArray := prog_11_method_56_code
def yX9_costAgain : MethodName := ⟨RX9, "costAgain", "(I)I"⟩
abbrev cX9_worthAgain : ByteArray := prog_11_method_57_code
def yX9_worthAgain : MethodName := ⟨RX9, "worthAgain", "(I)I"⟩
abbrev cX9_findAgain : ByteArray := prog_11_method_58_code
def yX9_findAgain : MethodName := ⟨RX9, "findAgain", "()V"⟩
abbrev cX9_again : ByteArray := prog_11_method_59_code
def yX9_again : MethodName := ⟨RX9, "again", "(II)I"⟩
abbrev cX9_squares : ByteArray := prog_11_method_60_code
def yX9_squares : MethodName := ⟨RX9, "squares", "(I)I"⟩
abbrev cX9_measureNow : ByteArray := prog_11_method_61_code
def yX9_measureNow : MethodName := ⟨RX9, "measureNow", "(I)I"⟩
abbrev cX9_measure : ByteArray := prog_11_method_62_code
def yX9_measure : MethodName := ⟨RX9, "measure", "(I)I"⟩
abbrev cX9_hundredths : ByteArray := prog_11_method_63_code
def yX9_hundredths : MethodName := ⟨RX9, "hundredths", "(I)I"⟩
abbrev cX9_makes : ByteArray := prog_11_method_64_code
def yX9_makes : MethodName := ⟨RX9, "makes", "(I)V"⟩
abbrev cX9_odd : ByteArray := prog_11_method_65_code
def yX9_odd : MethodName := ⟨RX9, "odd", "(III)I"⟩
abbrev cX9_land : ByteArray := prog_11_method_66_code
def yX9_land : MethodName := ⟨RX9, "land", "(I)I"⟩
abbrev cX9_sign : ByteArray := prog_11_method_67_code
def yX9_sign : MethodName := ⟨RX9, "sign", "()I"⟩
abbrev cX9_takes : ByteArray := prog_11_method_68_code
def yX9_takes : MethodName := ⟨RX9, "takes", "(I)Z"⟩
abbrev cX9_breaks : ByteArray := prog_11_method_69_code
def yX9_breaks : MethodName := ⟨RX9, "breaks", "()Z"⟩
abbrev cX9_or : ByteArray := prog_11_method_70_code
def yX9_or : MethodName := ⟨RX9, "or", "()Z"⟩
abbrev cX9_and : ByteArray := prog_11_method_71_code
def yX9_and : MethodName := ⟨RX9, "and", "()Z"⟩
abbrev cX9_test : ByteArray := prog_11_method_72_code
def yX9_test : MethodName := ⟨RX9, "test", "()Z"⟩
abbrev cX9_sum_ : ByteArray := prog_11_method_73_code
def yX9_sum_ : MethodName := ⟨RX9, "sum", "()I"⟩
abbrev cX9_product : ByteArray := prog_11_method_74_code
def yX9_product : MethodName := ⟨RX9, "product", "()I"⟩
abbrev cX9_isDigit : ByteArray := prog_11_method_75_code
def yX9_isDigit : MethodName := ⟨RX9, "isDigit", "(I)Z"⟩
abbrev cX9_atom : ByteArray := prog_11_method_76_code
def yX9_atom : MethodName := ⟨RX9, "atom", "()I"⟩
abbrev cX9_fieldOf : ByteArray := prog_11_method_77_code
def yX9_fieldOf : MethodName := ⟨RX9, "fieldOf", "(I)I"⟩
abbrev cX9_begins : ByteArray := prog_11_method_78_code
def yX9_begins : MethodName := ⟨RX9, "begins", "([IIII)V"⟩
abbrev cX9_faultOf : ByteArray := prog_11_method_79_code
def yX9_faultOf : MethodName := ⟨RX9, "faultOf", "(I)I"⟩
abbrev cX9_fault : ByteArray := prog_11_method_80_code
def yX9_fault : MethodName := ⟨RX9, "fault", "(I)I"⟩
abbrev cX9_mark : ByteArray := prog_11_method_81_code
def yX9_mark : MethodName := ⟨RX9, "mark", "(I)I"⟩
abbrev cX9_markOf : ByteArray := prog_11_method_82_code
def yX9_markOf : MethodName := ⟨RX9, "markOf", "(I)I"⟩
abbrev cX9_marked : ByteArray := prog_11_method_83_code
def yX9_marked : MethodName := ⟨RX9, "marked", "(I)I"⟩
abbrev cX9_said : ByteArray := prog_11_method_84_code
def yX9_said : MethodName := ⟨RX9, "said", "(II)I"⟩
abbrev cX9_image : ByteArray := prog_11_method_85_code
def yX9_image : MethodName := ⟨RX9, "image", "()I"⟩
abbrev cX9_restore : ByteArray := prog_11_method_86_code
def yX9_restore : MethodName := ⟨RX9, "restore", "()I"⟩
abbrev cX9_count : ByteArray := prog_11_method_87_code
def yX9_count : MethodName := ⟨RX9, "count", "(I)I"⟩
abbrev cX9_weightOf : ByteArray := prog_11_method_88_code
def yX9_weightOf : MethodName := ⟨RX9, "weightOf", "(I)I"⟩
abbrev cX9_keep : ByteArray := prog_11_method_89_code
def yX9_keep : MethodName := ⟨RX9, "keep", "(III)I"⟩
abbrev cX9_row : ByteArray := prog_11_method_90_code
def yX9_row : MethodName := ⟨RX9, "row", "(III)I"⟩
abbrev cX9_put : ByteArray := prog_11_method_91_code
def yX9_put : MethodName := ⟨RX9, "put", "(III)I"⟩
abbrev cX9_element : ByteArray := prog_11_method_92_code
def yX9_element : MethodName := ⟨RX9, "element", "(II)J"⟩
abbrev cX9_copy : ByteArray := prog_11_method_93_code
def yX9_copy : MethodName := ⟨RX9, "copy", "(IIIII)I"⟩
abbrev cX9_wrongKept : ByteArray := prog_11_method_94_code
def yX9_wrongKept : MethodName := ⟨RX9, "wrongKept", "(I)I"⟩
abbrev cX9_weight : ByteArray := prog_11_method_95_code
def yX9_weight : MethodName := ⟨RX9, "weight", "(I)I"⟩
abbrev cX9_toss : ByteArray := prog_11_method_96_code
def yX9_toss : MethodName := ⟨RX9, "toss", "(I)I"⟩
def RJx145de : String := "java/io/Serializable"
def RJx9f9b0 : String := "java/lang/CharSequence"
def RJ11 : String := "java/lang/Character"
abbrev cJ11_isValidCodePoint_9a6ad : ByteArray := prog_14_method_11_code
def yJ11_isValidCodePoint_9a6ad : MethodName := ⟨RJ11, "isValidCodePoint", "(I)Z"⟩
abbrev cJ11_highSurrogate_5068e : ByteArray := prog_14_method_28_code
def yJ11_highSurrogate_5068e : MethodName := ⟨RJ11, "highSurrogate", "(I)C"⟩
abbrev cJ11_lowSurrogate_5068e : ByteArray := prog_14_method_29_code
def yJ11_lowSurrogate_5068e : MethodName := ⟨RJ11, "lowSurrogate", "(I)C"⟩
def RJxb160c : String := "java/lang/Comparable"
def RJ6 : String := "java/lang/Integer"
abbrev cJ6_bitCount_0f7a4 : ByteArray := prog_19_method_49_code
def yJ6_bitCount_0f7a4 : MethodName := ⟨RJ6, "bitCount", "(I)I"⟩
def RJ9 : String := "java/lang/Math"
abbrev cJ9_abs_0f7a4 : ByteArray := prog_20_method_59_code
def yJ9_abs_0f7a4 : MethodName := ⟨RJ9, "abs", "(I)I"⟩
abbrev cJ9_max_7cf53 : ByteArray := prog_20_method_65_code
def yJ9_max_7cf53 : MethodName := ⟨RJ9, "max", "(II)I"⟩
abbrev cJ9_min_7cf53 : ByteArray := prog_20_method_69_code
def yJ9_min_7cf53 : MethodName := ⟨RJ9, "min", "(II)I"⟩
def RJ0 : String := "java/lang/String"
abbrev cJ0_length_8abf5 : ByteArray := prog_22_method_54_code
def yJ0_length_8abf5 : MethodName := ⟨RJ0, "length", "()I"⟩
abbrev cJ0_indexOf_0f7a4 : ByteArray := prog_22_method_79_code
def yJ0_indexOf_0f7a4 : MethodName := ⟨RJ0, "indexOf", "(I)I"⟩
abbrev cJ0_indexOf_7cf53 : ByteArray := prog_22_method_80_code
def yJ0_indexOf_7cf53 : MethodName := ⟨RJ0, "indexOf", "(II)I"⟩
abbrev cJ0_coder_7d493 : ByteArray := prog_22_method_152_code
def yJ0_coder_7d493 : MethodName := ⟨RJ0, "coder", "()B"⟩
abbrev cJ0_isLatin1_aae02 : ByteArray := prog_22_method_154_code
def yJ0_isLatin1_aae02 : MethodName := ⟨RJ0, "isLatin1", "()Z"⟩
abbrev cJ0_checkBoundsBeginEnd_23922 : ByteArray := prog_22_method_158_code
def yJ0_checkBoundsBeginEnd_23922 : MethodName := ⟨RJ0, "checkBoundsBeginEnd", "(III)V"⟩
def RJ1 : String := "java/lang/StringLatin1"
abbrev cJ1_canEncode_9a6ad : ByteArray := prog_23_method_4_code
def yJ1_canEncode_9a6ad : MethodName := ⟨RJ1, "canEncode", "(I)Z"⟩
abbrev cJ1_indexOf_4cfef : ByteArray := prog_23_method_22_code
def yJ1_indexOf_4cfef : MethodName := ⟨RJ1, "indexOf", "([BIII)I"⟩
abbrev cJ1_indexOfChar_4cfef : ByteArray := prog_23_method_23_code
def yJ1_indexOfChar_4cfef : MethodName := ⟨RJ1, "indexOfChar", "([BIII)I"⟩
def RJ2 : String := "java/lang/StringUTF16"
abbrev cJ2_getChar_3b067 : ByteArray := prog_24_method_5_code
def yJ2_getChar_3b067 : MethodName := ⟨RJ2, "getChar", "([BI)C"⟩
abbrev cJ2_length_9d52b : ByteArray := prog_24_method_6_code
def yJ2_length_9d52b : MethodName := ⟨RJ2, "length", "([B)I"⟩
abbrev cJ2_indexOf_4cfef : ByteArray := prog_24_method_40_code
def yJ2_indexOf_4cfef : MethodName := ⟨RJ2, "indexOf", "([BIII)I"⟩
abbrev cJ2_indexOfChar_4cfef : ByteArray := prog_24_method_47_code
def yJ2_indexOfChar_4cfef : MethodName := ⟨RJ2, "indexOfChar", "([BIII)I"⟩
abbrev cJ2_indexOfCharUnsafe_4cfef : ByteArray := prog_24_method_48_code
def yJ2_indexOfCharUnsafe_4cfef : MethodName := ⟨RJ2, "indexOfCharUnsafe", "([BIII)I"⟩
abbrev cJ2_indexOfSupplementary_4cfef : ByteArray := prog_24_method_49_code
def yJ2_indexOfSupplementary_4cfef : MethodName := ⟨RJ2, "indexOfSupplementary", "([BIII)I"⟩
abbrev cJ2_checkBoundsBeginEnd_d044e : ByteArray := prog_24_method_93_code
def yJ2_checkBoundsBeginEnd_d044e : MethodName := ⟨RJ2, "checkBoundsBeginEnd", "(II[B)V"⟩
def RJ10 : String := "java/lang/System"
def RJxfd54e : String := "java/lang/constant/Constable"
def RJx3cf43 : String := "java/lang/constant/ConstantDesc"
def RJ7 : String := "java/util/Arrays"
abbrev cJ7_fill_53178 : ByteArray := prog_30_method_103_code
def yJ7_fill_53178 : MethodName := ⟨RJ7, "fill", "([II)V"⟩
def RJ3 : String := "jdk/internal/util/Preconditions"
abbrev cJ3_checkFromToIndex_8c36e : ByteArray := prog_32_method_12_code
def yJ3_checkFromToIndex_8c36e : MethodName := ⟨RJ3, "checkFromToIndex", "(IIILjava/util/function/BiFunction;)I"⟩
def RL : String := "HallSheetsLaw"
abbrev cL_element : ByteArray := method_3_code
def yL_element : MethodName := ⟨RL, "element", "(LHallSheets;II[J)I"⟩
abbrev cL_law : ByteArray := code
def yL_law : MethodName := ⟨RL, "law", "([I)Z"⟩
abbrev vwCl : List vw_C := [(RX0, TX0, 12), (RX1, TX1, 12), (RX2, TX2, 5), (RX3, TX3, 11), (RX4, TX4, 2), (RX5, TX5, 2), (RX6, TX6, 7), (RX7, TX7, 5), (RX8, TX8, 8), (RX9, TX9, 28)]
end
section
/-! THE MEMORY: what the system's cells hold. A cell's number is its place in the order of making; its address is the base and that. -/
abbrev Mem : Type := List (Nat × Nat) × (Nat → Nat → Int32) × (Nat → Nat → Option Nat) × (Nat → Nat → Int64)
def mK (M : Mem) : List (Nat × Nat) := M.1
def mI (M : Mem) : Nat → Nat → Int32 := M.2.1
def mP (M : Mem) : Nat → Nat → Option Nat := M.2.2.1
def mJ (M : Mem) : Nat → Nat → Int64 := M.2.2.2
def sI (M : Mem) (a k : Nat) (v : Int32) : Mem := (M.1, (fun x y => if x = a ∧ y = k then v else M.2.1 x y), M.2.2.1, M.2.2.2)
def sP (M : Mem) (a k : Nat) (r : Nat) : Mem := (M.1, M.2.1, (fun x y => if x = a ∧ y = k then some r else M.2.2.1 x y), M.2.2.2)
def sJ (M : Mem) (a k : Nat) (v : Int64) : Mem := (M.1, M.2.1, M.2.2.1, (fun x y => if x = a ∧ y = k then v else M.2.2.2 x y))
/-- n ints of a's row from s on come to b's row from d on -/
def cI (M : Mem) (a s b d n : Nat) : Mem := (M.1, (fun x y => if x = b ∧ d ≤ y ∧ y < d + n then M.2.1 a (s + (y - d)) else M.2.1 x y), M.2.2.1, M.2.2.2)
/-- a new cell -/
def nw (M : Mem) (kd : Nat × Nat) : Mem := (M.1 ++ [kd], (fun x y => if x = M.1.length then 0 else M.2.1 x y), (fun x y => if x = M.1.length then none else M.2.2.1 x y), (fun x y => if x = M.1.length then 0 else M.2.2.2 x y))
/-- a new row of n rows of k ints: the outer one, then the inner ones -/
def nwm (M : Mem) (n k : Nat) : Mem := (M.1 ++ (15, n) :: List.replicate n (10, k), (fun x y => if M.1.length ≤ x then 0 else M.2.1 x y), (fun x y => if x = M.1.length then (if y < n then some (M.1.length + 1 + y) else none) else if M.1.length ≤ x then none else M.2.2.1 x y), (fun x y => if M.1.length ≤ x then 0 else M.2.2.2 x y))
/-- the places of references in the objects, class by class -/
def RFs : List (List Nat) := [[0, 2, 3, 4, 5, 6, 7, 9, 10, 11], [0], [], [0, 1, 2], [0, 1], [], [1, 6], [0], [0, 1, 2, 4, 5, 6, 7], [0, 1, 2, 3, 4, 5, 6, 7, 10, 12, 15, 17, 18, 19, 20, 26]]
def FR (ci k : Nat) : Bool := (RFs.getD ci []).contains k
abbrev Sys : Type := Launch × Nat × va_G × (Nat → ClassId)
abbrev zs (Z : Sys) : Nat := Z.2.1
abbrev zD (Z : Sys) : va_G := Z.2.2.1
abbrev zA (Z : Sys) : Nat → ClassId := Z.2.2.2
def vf (Z : Sys) (M : Mem) (a ci k : Nat) : Value := if FR ci k = true then va_rf ((mP M a k).map (zs Z + ·)) else .int (mI M a k)
def ent (Z : Sys) (M : Mem) (a : Nat) (kd : Nat × Nat) : va_E :=
  if kd.1 < 10 then .inr (kd.1, (List.range kd.2).map (vf Z M a kd.1))
  else if kd.1 < 12 then .inl (zA Z kd.1, kd.2, .inl (mI M a))
  else if kd.1 = 12 then .inl (zA Z 12, kd.2, .inr (.inl (mJ M a)))
  else .inl (zA Z kd.1, kd.2, .inr (.inr (.inr (.inr (fun j => (mP M a j).map (zs Z + ·))))))
def tysZ (Z : Sys) : List (ClassId × FieldType) := [(zA Z 10, .int), (zA Z 11, .boolean), (zA Z 12, .long), (zA Z 13, .object RX1), (zA Z 14, .object RX6), (zA Z 15, .array .int)]
def Ar (Z : Sys) : Nat → Prop := fun q => zs Z ≤ q
/-- the heap holds the memory; ex: and nothing behind it -/
def Rp (Z : Sys) (ex : Prop) (M : Mem) (H : Heap) : Prop := (∀ (a : Nat) (kd : Nat × Nat), (mK M)[a]? = some kd → va_at (zD Z) vwCl (zs Z + a, ent Z M a kd) H) ∧ zs Z + (mK M).length ≤ H.size ∧ (ex → H.size = zs Z + (mK M).length)
def isNest : Cond → Bool
  | .methodLinkNest .. => true
  | .arrayOver .. => true
  | _ => false
def TBL : List Cond := lw_tbl.filter goodWord
def NST : List Cond := lw_tbl.filter isNest
theorem ao_moved {ty : FieldType} {u U : State} (hvm : u.vm.Alike U.vm) (h : va_Nw (.arrayOver ty) u) : va_Nw (.arrayOver ty) U := by
  have hfc : ∀ n, U.vm.findClass n = u.vm.findClass n := fun n => by rw [hvm.findClass]
  have hidx : ∀ comp : ClassId, (U.vm.classes.findIdx? fun (x : Class) => match x.kind with | .array component _ => component == comp | _ => false) = (u.vm.classes.findIdx? fun (x : Class) => match x.kind with | .array component _ => component == comp | _ => false) := fun comp => by
    have e1 := va_idx_bare U.vm comp
    have e2 := va_idx_bare u.vm comp
    have e3 : U.vm.bare = u.vm.bare := by first | exact hvm.bare_eq | exact hvm.bare_eq.symm
    rw [e3] at e1
    exact e1.symm.trans e2
  have key : ∀ (o : Option ClassId), ((o.bind fun comp => (u.vm.classes.findIdx? fun (x : Class) => match x.kind with | .array component _ => component == comp | _ => false).bind fun c => (u.vm.classes[c]?).map fun (k : Class) => match k.kind with
      | .array _ t => decide (t = ty) && decide (u.vm.findClass ("[" ++ ty.toString) = some c)
      | _ => false) == some true) = true → ((o.bind fun comp => (U.vm.classes.findIdx? fun (x : Class) => match x.kind with | .array component _ => component == comp | _ => false).bind fun c => (U.vm.classes[c]?).map fun (k : Class) => match k.kind with
      | .array _ t => decide (t = ty) && decide (U.vm.findClass ("[" ++ ty.toString) = some c)
      | _ => false) == some true) = true := by
    intro o ho
    cases o with
    | none => simp at ho
    | some comp =>
      rw [Option.bind_some] at ho ⊢
      rw [hidx]
      cases hc : (u.vm.classes.findIdx? fun (x : Class) => match x.kind with | .array component _ => component == comp | _ => false) with
      | none => rw [hc] at ho; simp at ho
      | some c =>
        rw [hc] at ho
        rw [Option.bind_some] at ho ⊢
        cases hk : u.vm.classes[c]? with
        | none => rw [hk] at ho; simp at ho
        | some k =>
          obtain ⟨k', hk', he⟩ := hvm.2.2 _ _ hk
          have hkind : k'.kind = k.kind := by rw [he]
          rw [hk] at ho
          rw [hk', hfc]
          rw [Option.map_some] at ho ⊢
          rw [hkind]
          exact ho
  cases ty with
  | object n => 
    have := key (u.vm.findClass n) h
    rw [← hfc] at this
    exact this
  | array t =>
    have := key (u.vm.findClass (FieldType.array t).toString) h
    rw [← hfc] at this
    exact this
  | _ => exact absurd h (by simp [va_Nw, Cond.before, Cond.holds, Cond.value])
def Kn (Z : Sys) (U : State) : Prop := va_K (zD Z) vwCl (tysZ Z) U ∧ ∀ w ∈ NST, va_Nw w U
theorem nst_is {w : Cond} (h : w ∈ NST) : isNest w = true := (List.mem_filter.mp h).2
theorem Kn.moved {Z : Sys} {s U : State} (hW : s.WarmedH U.vm) (h : Kn Z s) : Kn Z U := by
  refine ⟨va_K.moved hW.alike h.1, fun w hw => ?_⟩
  have h1 := nst_is hw
  have h2 := h.2 w hw
  cases w <;> first | (exact va_Nw.warmM hW h2) | (exact ao_moved hW.alike h2) | (simp [isNest] at h1)
theorem Kn.calling {Z : Sys} {U : State} {g : JFrame} {mk : MethodId} {a : Array Value} (h : Kn Z U) : Kn Z (U.calling g mk a) := by
  refine ⟨va_K.moved (u := U) (U := U.calling g mk a) (Vm.Alike.refl U.vm) h.1, fun w hw => ?_⟩
  have h1 := nst_is hw
  have h2 := h.2 w hw
  cases w <;> first | (exact va_Nw.same rfl (rfl : U.vm = (U.calling g mk a).vm) h2) | (exact ao_moved (Vm.Alike.refl U.vm) h2) | (simp [isNest] at h1)
/-- the context of a walk -/
abbrev Cx : Type := Program × Env × Room × State × MethodId × Array Value × List Frame × Method × Code × (State → Prop)
abbrev xp (X : Cx) : Program := X.1
abbrev xe (X : Cx) : Env := X.2.1
abbrev xR (X : Cx) : Room := X.2.2.1
abbrev xs (X : Cx) : State := X.2.2.2.1
abbrev xm (X : Cx) : MethodId := X.2.2.2.2.1
abbrev xa (X : Cx) : Array Value := X.2.2.2.2.2.1
abbrev xb (X : Cx) : List Frame := X.2.2.2.2.2.2.1
abbrev xM (X : Cx) : Method := X.2.2.2.2.2.2.2.1
abbrev xc (X : Cx) : Code := X.2.2.2.2.2.2.2.2.1
abbrev xQ (X : Cx) : State → Prop := X.2.2.2.2.2.2.2.2.2
abbrev My : Type := ByteArray × String × Nat
def OkC (Z : Sys) (X : Cx) (Y : My) : Prop := (xp X).tables.exec = Jvm.exec ∧ (xc X).code = Y.1 ∧ (xc X).maxLocals = Y.2.2 ∧ (xs X).vm.findClass Y.2.1 = some (xm X).cls ∧ (∀ w ∈ TBL, w.before (xa X) (xs X) = true) ∧ Kn Z (xs X) ∧ zs Z ≤ (xs X).heap.size
abbrev WX (Z : Sys) (X : Cx) (H : Heap) (locs : List Loc) (cells slots : Nat) (g : JFrame) : Prop := W (xp X) Z.1 (xe X) (xR X) (xs X) (xm X) (xa X) (xb X) (xM X) (xc X) H locs cells slots (xQ X) g
def G (Z : Sys) (X : Cx) (Y : My) (ex : Prop) (cells slots pc : Nat) (loc : List (Nat × Value)) (stk : List Value) (M : Mem) : Prop :=
  OkC Z X Y → ∀ (ls : Array Slot) (H : Heap) (locs : List Loc), lv_has ls Y.2.2 loc → Rp Z ex M H → va_S (Ar Z) (xs X).heap H locs → WX Z X H locs cells slots (F0 (xm X) pc ls stk)
section ROWS
variable {Z : Sys} {X : Cx} {Y : My} {ex : Prop} {cells slots : Nat} {loc loc' : List (Nat × Value)} {rest : List Value} {M : Mem}
abbrev clr (i : Nat) (l : List (Nat × Value)) : List (Nat × Value) := l.filter (fun q => !(q.1 == i) && !(q.1 + 1 == i && q.2.category == 2))
abbrev clr2 (i : Nat) (l : List (Nat × Value)) : List (Nat × Value) := l.filter (fun q => !(q.1 == i) && (!(q.1 == i + 1) && !(q.1 + 1 == i && q.2.category == 2)))
theorem G.iadd (pc : Nat) {x y : Int32} (hd : decode Y.1 pc = .ok (.iadd, 1)) (k : G Z X Y ex cells slots (pc + 1) loc (.int (x + y) :: rest) M) : G Z X Y ex cells slots pc loc (.int y :: .int x :: rest) M := fun O ls H locs hl hP hS => lv_iadd O.1 O.2.1 hd  (k O ls H locs hl hP hS)
theorem G.isub (pc : Nat) {x y : Int32} (hd : decode Y.1 pc = .ok (.isub, 1)) (k : G Z X Y ex cells slots (pc + 1) loc (.int (x - y) :: rest) M) : G Z X Y ex cells slots pc loc (.int y :: .int x :: rest) M := fun O ls H locs hl hP hS => lv_isub O.1 O.2.1 hd  (k O ls H locs hl hP hS)
theorem G.imul (pc : Nat) {x y : Int32} (hd : decode Y.1 pc = .ok (.imul, 1)) (k : G Z X Y ex cells slots (pc + 1) loc (.int (x * y) :: rest) M) : G Z X Y ex cells slots pc loc (.int y :: .int x :: rest) M := fun O ls H locs hl hP hS => lv_imul O.1 O.2.1 hd  (k O ls H locs hl hP hS)
theorem G.iand (pc : Nat) {x y : Int32} (hd : decode Y.1 pc = .ok (.iand, 1)) (k : G Z X Y ex cells slots (pc + 1) loc (.int (x &&& y) :: rest) M) : G Z X Y ex cells slots pc loc (.int y :: .int x :: rest) M := fun O ls H locs hl hP hS => lv_iand O.1 O.2.1 hd  (k O ls H locs hl hP hS)
theorem G.ior (pc : Nat) {x y : Int32} (hd : decode Y.1 pc = .ok (.ior, 1)) (k : G Z X Y ex cells slots (pc + 1) loc (.int (x ||| y) :: rest) M) : G Z X Y ex cells slots pc loc (.int y :: .int x :: rest) M := fun O ls H locs hl hP hS => lv_ior O.1 O.2.1 hd  (k O ls H locs hl hP hS)
theorem G.ishl (pc : Nat) {x y : Int32} (hd : decode Y.1 pc = .ok (.ishl, 1)) (k : G Z X Y ex cells slots (pc + 1) loc (.int (x <<< (y &&& 31)) :: rest) M) : G Z X Y ex cells slots pc loc (.int y :: .int x :: rest) M := fun O ls H locs hl hP hS => lv_ishl O.1 O.2.1 hd  (k O ls H locs hl hP hS)
theorem G.ishr (pc : Nat) {x y : Int32} (hd : decode Y.1 pc = .ok (.ishr, 1)) (k : G Z X Y ex cells slots (pc + 1) loc (.int (x >>> (y &&& 31)) :: rest) M) : G Z X Y ex cells slots pc loc (.int y :: .int x :: rest) M := fun O ls H locs hl hP hS => lv_ishr O.1 O.2.1 hd  (k O ls H locs hl hP hS)
theorem G.ineg (pc : Nat) {x : Int32} (hd : decode Y.1 pc = .ok (.ineg, 1)) (k : G Z X Y ex cells slots (pc + 1) loc (.int (-x) :: rest) M) : G Z X Y ex cells slots pc loc (.int x :: rest) M := fun O ls H locs hl hP hS => lv_ineg O.1 O.2.1 hd  (k O ls H locs hl hP hS)
theorem G.ladd (pc : Nat) {x y : Int64} (hd : decode Y.1 pc = .ok (.ladd, 1)) (k : G Z X Y ex cells slots (pc + 1) loc (.long (x + y) :: rest) M) : G Z X Y ex cells slots pc loc (.long y :: .long x :: rest) M := fun O ls H locs hl hP hS => lv_ladd O.1 O.2.1 hd  (k O ls H locs hl hP hS)
theorem G.lsub (pc : Nat) {x y : Int64} (hd : decode Y.1 pc = .ok (.lsub, 1)) (k : G Z X Y ex cells slots (pc + 1) loc (.long (x - y) :: rest) M) : G Z X Y ex cells slots pc loc (.long y :: .long x :: rest) M := fun O ls H locs hl hP hS => lv_lsub O.1 O.2.1 hd  (k O ls H locs hl hP hS)
theorem G.lmul (pc : Nat) {x y : Int64} (hd : decode Y.1 pc = .ok (.lmul, 1)) (k : G Z X Y ex cells slots (pc + 1) loc (.long (x * y) :: rest) M) : G Z X Y ex cells slots pc loc (.long y :: .long x :: rest) M := fun O ls H locs hl hP hS => lv_lmul O.1 O.2.1 hd  (k O ls H locs hl hP hS)
theorem G.idiv (pc : Nat) {x y : Int32} (hd : decode Y.1 pc = .ok (.idiv, 1)) (hne : ¬ y = 0) (k : G Z X Y ex cells slots (pc + 1) loc (.int (x / y) :: rest) M) : G Z X Y ex cells slots pc loc (.int y :: .int x :: rest) M := fun O ls H locs hl hP hS => lv_idiv O.1 O.2.1 hd hne (k O ls H locs hl hP hS)
theorem G.irem (pc : Nat) {x y : Int32} (hd : decode Y.1 pc = .ok (.irem, 1)) (hne : ¬ y = 0) (k : G Z X Y ex cells slots (pc + 1) loc (.int (x - x / y * y) :: rest) M) : G Z X Y ex cells slots pc loc (.int y :: .int x :: rest) M := fun O ls H locs hl hP hS => lv_irem O.1 O.2.1 hd hne (k O ls H locs hl hP hS)
theorem G.ldiv (pc : Nat) {x y : Int64} (hd : decode Y.1 pc = .ok (.ldiv, 1)) (hne : ¬ y = 0) (k : G Z X Y ex cells slots (pc + 1) loc (.long (x / y) :: rest) M) : G Z X Y ex cells slots pc loc (.long y :: .long x :: rest) M := fun O ls H locs hl hP hS => lv_ldiv O.1 O.2.1 hd hne (k O ls H locs hl hP hS)
theorem G.lcmp (pc : Nat) {x y : Int64} (hd : decode Y.1 pc = .ok (.lcmp, 1)) (k : G Z X Y ex cells slots (pc + 1) loc (.int (lg_cmp x y) :: rest) M) : G Z X Y ex cells slots pc loc (.long y :: .long x :: rest) M := fun O ls H locs hl hP hS => W.lcmp O.1 O.2.1 hd  (k O ls H locs hl hP hS)
theorem G.i2l (pc : Nat) {x : Int32} (hd : decode Y.1 pc = .ok (.i2l, 1)) (k : G Z X Y ex cells slots (pc + 1) loc (.long x.toInt64 :: rest) M) : G Z X Y ex cells slots pc loc (.int x :: rest) M := fun O ls H locs hl hP hS => lv_i2l O.1 O.2.1 hd rfl (k O ls H locs hl hP hS)
theorem G.i2b (pc : Nat) {x : Int32} (hd : decode Y.1 pc = .ok (.i2b, 1)) (k : G Z X Y ex cells slots (pc + 1) loc (.int x.toInt8.toInt32 :: rest) M) : G Z X Y ex cells slots pc loc (.int x :: rest) M := fun O ls H locs hl hP hS => lv_i2b O.1 O.2.1 hd rfl (k O ls H locs hl hP hS)
theorem G.i2s (pc : Nat) {x : Int32} (hd : decode Y.1 pc = .ok (.i2s, 1)) (k : G Z X Y ex cells slots (pc + 1) loc (.int x.toInt16.toInt32 :: rest) M) : G Z X Y ex cells slots pc loc (.int x :: rest) M := fun O ls H locs hl hP hS => lv_i2s O.1 O.2.1 hd rfl (k O ls H locs hl hP hS)
theorem G.i2c (pc : Nat) {x : Int32} (hd : decode Y.1 pc = .ok (.i2c, 1)) (k : G Z X Y ex cells slots (pc + 1) loc (.int (x.toUInt32 % 65536).toInt32 :: rest) M) : G Z X Y ex cells slots pc loc (.int x :: rest) M := fun O ls H locs hl hP hS => lv_i2c O.1 O.2.1 hd rfl (k O ls H locs hl hP hS)
theorem G.iconst (pc : Nat) {n : Int} (v : Int32) (hd : decode Y.1 pc = .ok (.iconst n, 1)) (hv : Int32.ofInt n = v) (k : G Z X Y ex cells slots (pc + 1) loc (.int v :: rest) M) : G Z X Y ex cells slots pc loc rest M := fun O ls H locs hl hP hS => lv_iconst O.1 O.2.1 hd hv (k O ls H locs hl hP hS)
theorem G.bipush (pc : Nat) {n : Int} (v : Int32) (hd : decode Y.1 pc = .ok (.bipush n, 2)) (hv : (Int8.ofInt n).toInt32 = v) (k : G Z X Y ex cells slots (pc + 2) loc (.int v :: rest) M) : G Z X Y ex cells slots pc loc rest M := fun O ls H locs hl hP hS => lv_bipush O.1 O.2.1 hd hv (k O ls H locs hl hP hS)
theorem G.sipush (pc : Nat) {n : Int} (v : Int32) (hd : decode Y.1 pc = .ok (.sipush n, 3)) (hv : (Int16.ofInt n).toInt32 = v) (k : G Z X Y ex cells slots (pc + 3) loc (.int v :: rest) M) : G Z X Y ex cells slots pc loc rest M := fun O ls H locs hl hP hS => lv_sipush O.1 O.2.1 hd hv (k O ls H locs hl hP hS)
theorem G.lconst (pc : Nat) {n : Fin 2} (v : Int64) (hd : decode Y.1 pc = .ok (.lconst n, 1)) (hv : Int64.ofNat (n : Nat) = v) (k : G Z X Y ex cells slots (pc + 1) loc (.long v :: rest) M) : G Z X Y ex cells slots pc loc rest M := fun O ls H locs hl hP hS => lv_lconst O.1 O.2.1 hd hv (k O ls H locs hl hP hS)
theorem G.pop (pc : Nat) {va : Value} (hd : decode Y.1 pc = .ok (.pop, 1)) (hv : va.category = 1) (k : G Z X Y ex cells slots (pc + 1) loc rest M) : G Z X Y ex cells slots pc loc (va :: rest) M := fun O ls H locs hl hP hS => lv_pop O.1 O.2.1 hd hv (k O ls H locs hl hP hS)
theorem G.dup (pc : Nat) {va : Value} (hd : decode Y.1 pc = .ok (.dup, 1)) (hv : va.category = 1) (k : G Z X Y ex cells slots (pc + 1) loc (va :: va :: rest) M) : G Z X Y ex cells slots pc loc (va :: rest) M := fun O ls H locs hl hP hS => lv_dup O.1 O.2.1 hd hv (k O ls H locs hl hP hS)
theorem G.dup_x1 (pc : Nat) {va vb : Value} (hd : decode Y.1 pc = .ok (.dup_x1, 1)) (hv : va.category = 1) (hw : vb.category = 1) (k : G Z X Y ex cells slots (pc + 1) loc (va :: vb :: va :: rest) M) : G Z X Y ex cells slots pc loc (va :: vb :: rest) M := fun O ls H locs hl hP hS => lv_dup_x1 O.1 O.2.1 hd hv hw (k O ls H locs hl hP hS)
theorem G.dup_x2 (pc : Nat) {va vb vc : Value} (hd : decode Y.1 pc = .ok (.dup_x2, 1)) (hv : va.category = 1) (hw : vb.category = 1) (hu : vc.category = 1) (k : G Z X Y ex cells slots (pc + 1) loc (va :: vb :: vc :: va :: rest) M) : G Z X Y ex cells slots pc loc (va :: vb :: vc :: rest) M := fun O ls H locs hl hP hS => lv_dup_x2 O.1 O.2.1 hd hv hw hu (k O ls H locs hl hP hS)
theorem G.dup2 (pc : Nat) {va vb : Value} (hd : decode Y.1 pc = .ok (.dup2, 1)) (hv : va.category = 1) (hw : vb.category = 1) (k : G Z X Y ex cells slots (pc + 1) loc (va :: vb :: va :: vb :: rest) M) : G Z X Y ex cells slots pc loc (va :: vb :: rest) M := fun O ls H locs hl hP hS => lv_dup2_11 O.1 O.2.1 hd hv hw (k O ls H locs hl hP hS)
theorem G.iload_n (pc : Nat) {q : Fin 4} (j : Nat) {i : Nat} {x : Int32} (hd : decode Y.1 pc = .ok (.iload_n q, 1)) (hi : (q : Nat) = i) (hj : loc[j]? = some (i, .int x)) (k : G Z X Y ex cells slots (pc + 1) loc (.int x :: rest) M) : G Z X Y ex cells slots pc loc rest M := fun O ls H locs hl hP hS => lv_iload_n O.1 O.2.1 hd hi (lv_at hl j hj) (k O ls H locs hl hP hS)
theorem G.iload (pc : Nat) (j : Nat) {i : Nat} {x : Int32} (hd : decode Y.1 pc = .ok (.iload i, 2)) (hj : loc[j]? = some (i, .int x)) (k : G Z X Y ex cells slots (pc + 2) loc (.int x :: rest) M) : G Z X Y ex cells slots pc loc rest M := fun O ls H locs hl hP hS => lv_iload O.1 O.2.1 hd (lv_at hl j hj) (k O ls H locs hl hP hS)
theorem G.lload_n (pc : Nat) {q : Fin 4} (j : Nat) {i : Nat} {x : Int64} (hd : decode Y.1 pc = .ok (.lload_n q, 1)) (hi : (q : Nat) = i) (hj : loc[j]? = some (i, .long x)) (k : G Z X Y ex cells slots (pc + 1) loc (.long x :: rest) M) : G Z X Y ex cells slots pc loc rest M := fun O ls H locs hl hP hS => lv_lload_n O.1 O.2.1 hd hi (lv_at hl j hj) (k O ls H locs hl hP hS)
theorem G.lload (pc : Nat) (j : Nat) {i : Nat} {x : Int64} (hd : decode Y.1 pc = .ok (.lload i, 2)) (hj : loc[j]? = some (i, .long x)) (k : G Z X Y ex cells slots (pc + 2) loc (.long x :: rest) M) : G Z X Y ex cells slots pc loc rest M := fun O ls H locs hl hP hS => lv_lload O.1 O.2.1 hd (lv_at hl j hj) (k O ls H locs hl hP hS)
theorem G.aload_n (pc : Nat) {q : Fin 4} (j : Nat) {i : Nat} {x : Nat} (hd : decode Y.1 pc = .ok (.aload_n q, 1)) (hi : (q : Nat) = i) (hj : loc[j]? = some (i, .ref x)) (k : G Z X Y ex cells slots (pc + 1) loc (.ref x :: rest) M) : G Z X Y ex cells slots pc loc rest M := fun O ls H locs hl hP hS => lv_aload_n O.1 O.2.1 hd hi (lv_at hl j hj) (k O ls H locs hl hP hS)
theorem G.aload (pc : Nat) (j : Nat) {i : Nat} {x : Nat} (hd : decode Y.1 pc = .ok (.aload i, 2)) (hj : loc[j]? = some (i, .ref x)) (k : G Z X Y ex cells slots (pc + 2) loc (.ref x :: rest) M) : G Z X Y ex cells slots pc loc rest M := fun O ls H locs hl hP hS => lv_aload O.1 O.2.1 hd (lv_at hl j hj) (k O ls H locs hl hP hS)
theorem G.istore_n (pc : Nat) (loc' : List (Nat × Value)) {q : Fin 4} {i : Nat} {x : Int32} (hd : decode Y.1 pc = .ok (.istore_n q, 1)) (hi : (q : Nat) = i) (hn : i < Y.2.2) (hj : (i, Value.int x) :: clr i loc = loc') (k : G Z X Y ex cells slots (pc + 1) loc' rest M) : G Z X Y ex cells slots pc loc (.int x :: rest) M := fun O ls H locs hl hP hS => lv_istore_n O.1 O.2.1 hd hi hl hn hj (fun ls' hl' => k O ls' H locs hl' hP hS)
theorem G.istore (pc : Nat) (loc' : List (Nat × Value)) {i : Nat} {x : Int32} (hd : decode Y.1 pc = .ok (.istore i, 2)) (hn : i < Y.2.2) (hj : (i, Value.int x) :: clr i loc = loc') (k : G Z X Y ex cells slots (pc + 2) loc' rest M) : G Z X Y ex cells slots pc loc (.int x :: rest) M := fun O ls H locs hl hP hS => lv_istore O.1 O.2.1 hd hl hn hj (fun ls' hl' => k O ls' H locs hl' hP hS)
theorem G.astore_n (pc : Nat) (loc' : List (Nat × Value)) {q : Fin 4} {i : Nat} {x : Nat} (hd : decode Y.1 pc = .ok (.astore_n q, 1)) (hi : (q : Nat) = i) (hn : i < Y.2.2) (hj : (i, Value.ref x) :: clr i loc = loc') (k : G Z X Y ex cells slots (pc + 1) loc' rest M) : G Z X Y ex cells slots pc loc (.ref x :: rest) M := fun O ls H locs hl hP hS => lv_astore_n O.1 O.2.1 hd hi hl hn hj (fun ls' hl' => k O ls' H locs hl' hP hS)
theorem G.astore (pc : Nat) (loc' : List (Nat × Value)) {i : Nat} {x : Nat} (hd : decode Y.1 pc = .ok (.astore i, 2)) (hn : i < Y.2.2) (hj : (i, Value.ref x) :: clr i loc = loc') (k : G Z X Y ex cells slots (pc + 2) loc' rest M) : G Z X Y ex cells slots pc loc (.ref x :: rest) M := fun O ls H locs hl hP hS => lv_astore O.1 O.2.1 hd hl hn hj (fun ls' hl' => k O ls' H locs hl' hP hS)
theorem G.lstore_n (pc : Nat) (loc' : List (Nat × Value)) {q : Fin 4} {i : Nat} {x : Int64} (hd : decode Y.1 pc = .ok (.lstore_n q, 1)) (hi : (q : Nat) = i) (hn : i + 1 < Y.2.2) (hj : (i, Value.long x) :: clr2 i loc = loc') (k : G Z X Y ex cells slots (pc + 1) loc' rest M) : G Z X Y ex cells slots pc loc (.long x :: rest) M := fun O ls H locs hl hP hS => lv_lstore_n O.1 O.2.1 hd hi hl hn hj (fun ls' hl' => k O ls' H locs hl' hP hS)
theorem G.lstore (pc : Nat) (loc' : List (Nat × Value)) {i : Nat} {x : Int64} (hd : decode Y.1 pc = .ok (.lstore i, 2)) (hn : i + 1 < Y.2.2) (hj : (i, Value.long x) :: clr2 i loc = loc') (k : G Z X Y ex cells slots (pc + 2) loc' rest M) : G Z X Y ex cells slots pc loc (.long x :: rest) M := fun O ls H locs hl hP hS => lv_lstore O.1 O.2.1 hd hl hn hj (fun ls' hl' => k O ls' H locs hl' hP hS)
theorem G.iinc (pc : Nat) (j : Nat) (v : Int32) (loc' : List (Nat × Value)) {i : Nat} {n : Int} {x : Int32} (hd : decode Y.1 pc = .ok (.iinc i n, 3)) (hk : loc[j]? = some (i, .int x)) (hv : x + Int32.ofInt n = v) (hn : i < Y.2.2) (hj : (i, Value.int v) :: clr i loc = loc') (k : G Z X Y ex cells slots (pc + 3) loc' rest M) : G Z X Y ex cells slots pc loc rest M := fun O ls H locs hl hP hS => lv_iinc O.1 O.2.1 hd hl hk hv hn hj (fun ls' hl' => k O ls' H locs hl' hP hS)
theorem G.locs (ks : List Nat) (hl : lv_pick loc ks = loc') {pc : Nat} (k : G Z X Y ex cells slots pc loc' rest M) : G Z X Y ex cells slots pc loc rest M := fun O ls H locs hls hP hS => k O ls H locs (lv_sub hls ks hl) hP hS
theorem G.icmp_eq (pc tgt : Nat) {x y : Int32} {off : Int} (hd : decode Y.1 pc = .ok (.if_icmp .eq off, 3)) (ht : (pc : Int) + off = (tgt : Int)) (kt : x = y → G Z X Y ex cells slots tgt loc rest M) (kf : ¬ x = y → G Z X Y ex cells slots (pc + 3) loc rest M) : G Z X Y ex cells slots pc loc (.int y :: .int x :: rest) M := fun O ls H locs hl hP hS => lv_icmp_eq O.1 O.2.1 hd ht (fun h => kt h O ls H locs hl hP hS) (fun h => kf h O ls H locs hl hP hS)
theorem G.if_eq (pc tgt : Nat) {x : Int32} {off : Int} (hd : decode Y.1 pc = .ok (.ifCond .eq off, 3)) (ht : (pc : Int) + off = (tgt : Int)) (kt : x = 0 → G Z X Y ex cells slots tgt loc rest M) (kf : ¬ x = 0 → G Z X Y ex cells slots (pc + 3) loc rest M) : G Z X Y ex cells slots pc loc (.int x :: rest) M := fun O ls H locs hl hP hS => lv_if_eq O.1 O.2.1 hd ht (fun h => kt h O ls H locs hl hP hS) (fun h => kf h O ls H locs hl hP hS)
theorem G.icmp_ne (pc tgt : Nat) {x y : Int32} {off : Int} (hd : decode Y.1 pc = .ok (.if_icmp .ne off, 3)) (ht : (pc : Int) + off = (tgt : Int)) (kt : ¬ x = y → G Z X Y ex cells slots tgt loc rest M) (kf : x = y → G Z X Y ex cells slots (pc + 3) loc rest M) : G Z X Y ex cells slots pc loc (.int y :: .int x :: rest) M := fun O ls H locs hl hP hS => lv_icmp_ne O.1 O.2.1 hd ht (fun h => kt h O ls H locs hl hP hS) (fun h => kf h O ls H locs hl hP hS)
theorem G.if_ne (pc tgt : Nat) {x : Int32} {off : Int} (hd : decode Y.1 pc = .ok (.ifCond .ne off, 3)) (ht : (pc : Int) + off = (tgt : Int)) (kt : ¬ x = 0 → G Z X Y ex cells slots tgt loc rest M) (kf : x = 0 → G Z X Y ex cells slots (pc + 3) loc rest M) : G Z X Y ex cells slots pc loc (.int x :: rest) M := fun O ls H locs hl hP hS => lv_if_ne O.1 O.2.1 hd ht (fun h => kt h O ls H locs hl hP hS) (fun h => kf h O ls H locs hl hP hS)
theorem G.icmp_lt (pc tgt : Nat) {x y : Int32} {off : Int} (hd : decode Y.1 pc = .ok (.if_icmp .lt off, 3)) (ht : (pc : Int) + off = (tgt : Int)) (kt : x < y → G Z X Y ex cells slots tgt loc rest M) (kf : ¬ x < y → G Z X Y ex cells slots (pc + 3) loc rest M) : G Z X Y ex cells slots pc loc (.int y :: .int x :: rest) M := fun O ls H locs hl hP hS => lv_icmp_lt O.1 O.2.1 hd ht (fun h => kt h O ls H locs hl hP hS) (fun h => kf h O ls H locs hl hP hS)
theorem G.if_lt (pc tgt : Nat) {x : Int32} {off : Int} (hd : decode Y.1 pc = .ok (.ifCond .lt off, 3)) (ht : (pc : Int) + off = (tgt : Int)) (kt : x < 0 → G Z X Y ex cells slots tgt loc rest M) (kf : ¬ x < 0 → G Z X Y ex cells slots (pc + 3) loc rest M) : G Z X Y ex cells slots pc loc (.int x :: rest) M := fun O ls H locs hl hP hS => lv_if_lt O.1 O.2.1 hd ht (fun h => kt h O ls H locs hl hP hS) (fun h => kf h O ls H locs hl hP hS)
theorem G.icmp_ge (pc tgt : Nat) {x y : Int32} {off : Int} (hd : decode Y.1 pc = .ok (.if_icmp .ge off, 3)) (ht : (pc : Int) + off = (tgt : Int)) (kt : y ≤ x → G Z X Y ex cells slots tgt loc rest M) (kf : ¬ y ≤ x → G Z X Y ex cells slots (pc + 3) loc rest M) : G Z X Y ex cells slots pc loc (.int y :: .int x :: rest) M := fun O ls H locs hl hP hS => lv_icmp_ge O.1 O.2.1 hd ht (fun h => kt h O ls H locs hl hP hS) (fun h => kf h O ls H locs hl hP hS)
theorem G.if_ge (pc tgt : Nat) {x : Int32} {off : Int} (hd : decode Y.1 pc = .ok (.ifCond .ge off, 3)) (ht : (pc : Int) + off = (tgt : Int)) (kt : 0 ≤ x → G Z X Y ex cells slots tgt loc rest M) (kf : ¬ 0 ≤ x → G Z X Y ex cells slots (pc + 3) loc rest M) : G Z X Y ex cells slots pc loc (.int x :: rest) M := fun O ls H locs hl hP hS => lv_if_ge O.1 O.2.1 hd ht (fun h => kt h O ls H locs hl hP hS) (fun h => kf h O ls H locs hl hP hS)
theorem G.icmp_gt (pc tgt : Nat) {x y : Int32} {off : Int} (hd : decode Y.1 pc = .ok (.if_icmp .gt off, 3)) (ht : (pc : Int) + off = (tgt : Int)) (kt : y < x → G Z X Y ex cells slots tgt loc rest M) (kf : ¬ y < x → G Z X Y ex cells slots (pc + 3) loc rest M) : G Z X Y ex cells slots pc loc (.int y :: .int x :: rest) M := fun O ls H locs hl hP hS => lv_icmp_gt O.1 O.2.1 hd ht (fun h => kt h O ls H locs hl hP hS) (fun h => kf h O ls H locs hl hP hS)
theorem G.if_gt (pc tgt : Nat) {x : Int32} {off : Int} (hd : decode Y.1 pc = .ok (.ifCond .gt off, 3)) (ht : (pc : Int) + off = (tgt : Int)) (kt : 0 < x → G Z X Y ex cells slots tgt loc rest M) (kf : ¬ 0 < x → G Z X Y ex cells slots (pc + 3) loc rest M) : G Z X Y ex cells slots pc loc (.int x :: rest) M := fun O ls H locs hl hP hS => lv_if_gt O.1 O.2.1 hd ht (fun h => kt h O ls H locs hl hP hS) (fun h => kf h O ls H locs hl hP hS)
theorem G.icmp_le (pc tgt : Nat) {x y : Int32} {off : Int} (hd : decode Y.1 pc = .ok (.if_icmp .le off, 3)) (ht : (pc : Int) + off = (tgt : Int)) (kt : x ≤ y → G Z X Y ex cells slots tgt loc rest M) (kf : ¬ x ≤ y → G Z X Y ex cells slots (pc + 3) loc rest M) : G Z X Y ex cells slots pc loc (.int y :: .int x :: rest) M := fun O ls H locs hl hP hS => lv_icmp_le O.1 O.2.1 hd ht (fun h => kt h O ls H locs hl hP hS) (fun h => kf h O ls H locs hl hP hS)
theorem G.if_le (pc tgt : Nat) {x : Int32} {off : Int} (hd : decode Y.1 pc = .ok (.ifCond .le off, 3)) (ht : (pc : Int) + off = (tgt : Int)) (kt : x ≤ 0 → G Z X Y ex cells slots tgt loc rest M) (kf : ¬ x ≤ 0 → G Z X Y ex cells slots (pc + 3) loc rest M) : G Z X Y ex cells slots pc loc (.int x :: rest) M := fun O ls H locs hl hP hS => lv_if_le O.1 O.2.1 hd ht (fun h => kt h O ls H locs hl hP hS) (fun h => kf h O ls H locs hl hP hS)
theorem G.goto (pc tgt : Nat) {off : Int} (hd : decode Y.1 pc = .ok (.goto off, 3)) (ht : (pc : Int) + off = (tgt : Int)) (k : G Z X Y ex cells slots tgt loc rest M) : G Z X Y ex cells slots pc loc rest M := fun O ls H locs hl hP hS => lv_goto O.1 O.2.1 hd ht (k O ls H locs hl hP hS)
theorem G.tableIn (pc tgt : Nat) {dflt lo hi : Int} {offs : Array Int} {len : Nat} {x : Int32} {off : Int} (hd : decode Y.1 pc = .ok (.tableswitch dflt lo hi offs, len)) (h1 : ¬ x.toInt < lo) (h2 : ¬ hi < x.toInt) (ho : offs[(x.toInt - lo).toNat]? = some off) (ht : (pc : Int) + off = (tgt : Int)) (k : G Z X Y ex cells slots tgt loc rest M) : G Z X Y ex cells slots pc loc (.int x :: rest) M := fun O ls H locs hl hP hS => lv_tableIn O.1 O.2.1 hd h1 h2 ho ht (k O ls H locs hl hP hS)
theorem G.tableOut (pc tgt : Nat) {dflt lo hi : Int} {offs : Array Int} {len : Nat} {x : Int32} (hd : decode Y.1 pc = .ok (.tableswitch dflt lo hi offs, len)) (h : x.toInt < lo ∨ hi < x.toInt) (ht : (pc : Int) + dflt = (tgt : Int)) (k : G Z X Y ex cells slots tgt loc rest M) : G Z X Y ex cells slots pc loc (.int x :: rest) M := fun O ls H locs hl hP hS => lv_tableOut O.1 O.2.1 hd h ht (k O ls H locs hl hP hS)
theorem G.lookup (pc tgt : Nat) {dflt : Int} {ps : Array (Int × Int)} {len : Nat} {x : Int32} {off : Int} (hd : decode Y.1 pc = .ok (.lookupswitch dflt ps, len)) (hp : (ps.toList.zip (ps.toList.drop 1)).all (fun (a, next) => a.1 < next.1) = true) (ho : Op.lookupswitch.offset ps.toList dflt x.toInt = off) (ht : (pc : Int) + off = (tgt : Int)) (k : G Z X Y ex cells slots tgt loc rest M) : G Z X Y ex cells slots pc loc (.int x :: rest) M := fun O ls H locs hl hP hS => lv_lookup O.1 O.2.1 hd hp ho ht (k O ls H locs hl hP hS)
theorem G.ldc (pc : Nat) {idx : Nat} (v : Int32) (hw : Cond.constant Y.2.1 idx v ∈ TBL) (hd : decode Y.1 pc = .ok (.ldc idx, 2)) (k : G Z X Y ex cells slots (pc + 2) loc (.int v :: rest) M) : G Z X Y ex cells slots pc loc rest M := fun O ls H locs hl hP hS => lv_ldc O.1 O.2.1 O.2.2.2.1 (O.2.2.2.2.1 _ hw) hd (k O ls H locs hl hP hS)
theorem G.ldcw (pc : Nat) {idx : Nat} (v : Int32) (hw : Cond.constant Y.2.1 idx v ∈ TBL) (hd : decode Y.1 pc = .ok (.ldc_w idx, 3)) (k : G Z X Y ex cells slots (pc + 3) loc (.int v :: rest) M) : G Z X Y ex cells slots pc loc rest M := fun O ls H locs hl hP hS => lv_ldcw O.1 O.2.1 O.2.2.2.1 (O.2.2.2.2.1 _ hw) hd (k O ls H locs hl hP hS)
theorem G.ldc2 (pc : Nat) {idx : Nat} (v : Int64) (hw : Cond.constantLong Y.2.1 idx v ∈ TBL) (hd : decode Y.1 pc = .ok (.ldc2_w idx, 3)) (k : G Z X Y ex cells slots (pc + 3) loc (.long v :: rest) M) : G Z X Y ex cells slots pc loc rest M := fun O ls H locs hl hP hS => lv_ldc2 O.1 O.2.1 O.2.2.2.1 (O.2.2.2.2.1 _ hw) hd (k O ls H locs hl hP hS)
end ROWS
end
section
/-! what is true of a class of the system, by the tables -/
def ClsOk (ci : Nat) (C : String) (T : u_T) (ty : Nat → FieldType) (N : Nat) : Prop := ci < 10 ∧ vwCl[ci]? = some (C, T, N) ∧ (∀ w ∈ u_ws C T N, w ∈ TBL) ∧ (∀ k, k < N → parseFieldDescriptor (T k).2.2.1 = some (ty k)) ∧ (∀ a, a < N → ∀ b, b < N → a ≠ b → (T a).2.1 ≠ (T b).2.1) ∧ (∀ k, k < N → defaultValue (ty k) = if FR ci k = true then .null else .int 0)
theorem gin {ws : List Cond} (h : ∀ w ∈ ws, w ∈ TBL) : GoodIn TBL ws := fun w hw => ⟨h w hw, good_of_word (List.mem_filter.mp (h w hw)).2⟩
theorem ent_obj {Z : Sys} {M : Mem} {a ci n : Nat} (h : ci < 10) : ent Z M a (ci, n) = .inr (ci, (List.range n).map (vf Z M a ci)) := if_pos h
theorem ent_congr {Z : Sys} {M M' : Mem} {x : Nat} {kd : Nat × Nat} (h : ∀ k, mI M' x k = mI M x k ∧ mP M' x k = mP M x k ∧ mJ M' x k = mJ M x k) : ent Z M' x kd = ent Z M x kd := by
  have h1 : mI M' x = mI M x := funext fun k => (h k).1
  have h2 : mP M' x = mP M x := funext fun k => (h k).2.1
  have h3 : mJ M' x = mJ M x := funext fun k => (h k).2.2
  have h4 : vf Z M' x kd.1 = vf Z M x kd.1 := funext fun k => by unfold vf; rw [h1, h2]
  unfold ent
  rw [h4, h1, h2, h3]
theorem vp_range {N j : Nat} {f : Nat → Value} (h : j < N) : vp_V ((List.range N).map f) j = f j := by simp [vp_V, h]
theorem Rp.one {Z : Sys} {ex : Prop} {M : Mem} {H : Heap} {a : Nat} {kd : Nat × Nat} (h : Rp Z ex M H) (hk : (mK M)[a]? = some kd) : va_P (zD Z) vwCl [(zs Z + a, ent Z M a kd)] H := fun k q hq => by
  cases k with
  | zero => cases hq; exact h.1 a kd hk
  | succ k => simp at hq
theorem kl {M : Mem} {a : Nat} {kd : Nat × Nat} (h : (mK M)[a]? = some kd) : a < (mK M).length := (List.getElem?_eq_some_iff.mp h).1
/-- one cell has changed -/
theorem Rp.upd {Z : Sys} {ex : Prop} {M M' : Mem} {H H' : Heap} {a : Nat} {kd : Nat × Nat} (hP : Rp Z ex M H) (hK : mK M' = mK M) (ho : ∀ x k, x ≠ a → mI M' x k = mI M x k ∧ mP M' x k = mP M x k ∧ mJ M' x k = mJ M x k) (hz : H'.size = H.size) (oq : ∀ q, q ≠ zs Z + a → H'[q]? = H[q]?) (hk : (mK M)[a]? = some kd) (hat : va_at (zD Z) vwCl (zs Z + a, ent Z M' a kd) H') : Rp Z ex M' H' := by
  refine ⟨fun x kd' hx => ?_, by rw [hK, hz]; exact hP.2.1, fun he => by rw [hK, hz]; exact hP.2.2 he⟩
  rw [hK] at hx
  by_cases e : x = a
  · subst e
    rw [hk] at hx
    cases hx
    exact hat
  · rw [ent_congr (fun k => ho x k e)]
    exact (hP.1 x kd' hx).kept (oq _ (by intro h; exact e (by omega)))
/-- a cell more -/
theorem Rp.push {Z : Sys} {ex : Prop} {M : Mem} {H H' : Heap} {kd : Nat × Nat} (hP : Rp Z ex M H) (he : ex) (hz : H'.size = H.size + 1) (oq : ∀ q, q < H.size → H'[q]? = H[q]?) (hat : va_at (zD Z) vwCl (H.size, ent Z (nw M kd) (mK M).length kd) H') : Rp Z ex (nw M kd) H' := by
  have hs := hP.2.2 he
  have hl : (mK (nw M kd)).length = (mK M).length + 1 := by simp [mK, nw]
  refine ⟨fun x kd' hx => ?_, by rw [hl, hz, hs]; omega, fun _ => by rw [hl, hz, hs]; omega⟩
  have hx' : ((mK M) ++ [kd])[x]? = some kd' := hx
  by_cases e : x < (mK M).length
  · rw [List.getElem?_append_left e] at hx'
    have hne : x ≠ M.1.length := Nat.ne_of_lt e
    rw [ent_congr (M' := nw M kd) (M := M) (fun k => ⟨by simp [mI, nw, hne], by simp [mP, nw, hne], by simp [mJ, nw, hne]⟩)]
    exact (hP.1 x kd' hx').kept (oq _ (by show zs Z + x < H.size; omega))
  · rw [List.getElem?_append_right (by omega)] at hx'
    have h0 : x - (mK M).length < 1 := (List.getElem?_eq_some_iff.mp hx').1
    have h1 : x = (mK M).length := by omega
    subst h1
    rw [Nat.sub_self] at hx'
    cases hx'
    rw [← hs]
    exact hat
theorem push_S {Z : Sys} {H0 H H' : Heap} {locs : List Loc} (hS : va_S (Ar Z) H0 H locs) (hz : H.size ≤ H'.size) (oq : ∀ q, q < H.size → H'[q]? = H[q]?) : va_S (Ar Z) H0 H' locs := ⟨Nat.le_trans hS.1 hz, fun x h1 h2 => (oq x (Nat.lt_of_lt_of_le h1 hS.1)).trans (hS.2.1 x h1 h2), hS.2.2⟩
section HROWS
variable {Z : Sys} {X : Cx} {Y : My} {ex : Prop} {cells slots : Nat} {loc loc' : List (Nat × Value)} {rest : List Value} {M : Mem}
theorem G.geti (pc : Nat) {ci idx N a : Nat} {C : String} {T : u_T} {ty : Nat → FieldType} (hc : ClsOk ci C T ty N) (k : Nat) (hk : (mK M)[a]? = some (ci, N)) (hkN : k < N) (hfr : FR ci k = false) (hw : Cond.fieldLink Y.2.1 idx (T k).1 (T k).2.1 (T k).2.2.1 ∈ TBL) (hd : decode Y.1 pc = .ok (.getfield idx, 3)) (kk : G Z X Y ex cells slots (pc + 3) loc (.int (mI M a k) :: rest) M) : G Z X Y ex cells slots pc loc (.ref (zs Z + a) :: rest) M := fun O ls H locs hl hP hS =>
  va_get (ws := [(zs Z + a, ent Z M a (ci, N))]) (Ts := TBL) O.1 O.2.1 O.2.2.2.2.1 hc.2.2.1 O.2.2.2.1 O.2.2.2.2.2.1.1 (hP.one hk) 0 (fs := (List.range N).map (vf Z M a ci)) (by rw [ent_obj hc.1]; rfl) hc.2.1 k hkN (O.2.2.2.2.1 _ hw) (fun _ h => h) (v := .int (mI M a k)) (by simp [hkN, vf]; intro h; rw [hfr] at h; cases h) hd (kk O ls H locs hl hP hS)
theorem G.getp (pc : Nat) {ci idx N a : Nat} {C : String} {T : u_T} {ty : Nat → FieldType} (hc : ClsOk ci C T ty N) (k r : Nat) (hk : (mK M)[a]? = some (ci, N)) (hp : mP M a k = some r) (hkN : k < N) (hfr : FR ci k = true) (hw : Cond.fieldLink Y.2.1 idx (T k).1 (T k).2.1 (T k).2.2.1 ∈ TBL) (hd : decode Y.1 pc = .ok (.getfield idx, 3)) (kk : G Z X Y ex cells slots (pc + 3) loc (.ref (zs Z + r) :: rest) M) : G Z X Y ex cells slots pc loc (.ref (zs Z + a) :: rest) M := fun O ls H locs hl hP hS =>
  va_get (ws := [(zs Z + a, ent Z M a (ci, N))]) (Ts := TBL) O.1 O.2.1 O.2.2.2.2.1 hc.2.2.1 O.2.2.2.1 O.2.2.2.2.2.1.1 (hP.one hk) 0 (fs := (List.range N).map (vf Z M a ci)) (by rw [ent_obj hc.1]; rfl) hc.2.1 k hkN (O.2.2.2.2.1 _ hw) (fun _ h => h) (v := .ref (zs Z + r)) (by simp [hkN, vf, hfr, hp, va_rf]) hd (kk O ls H locs hl hP hS)
theorem G.putv (pc : Nat) {ci idx N a : Nat} {C : String} {T : u_T} {ty : Nat → FieldType} (hc : ClsOk ci C T ty N) (k : Nat) (hk : (mK M)[a]? = some (ci, N)) (hkN : k < N) (hfin : (T k).2.2.2 = false ∨ ((T k).2.2.2 = true ∧ (xM X).name = "<init>" ∧ (T k).1 = Y.2.1)) (hw : Cond.fieldLink Y.2.1 idx (T k).1 (T k).2.1 (T k).2.2.1 ∈ TBL) {v : Value} {M' : Mem} (hK : mK M' = mK M) (ho : ∀ x k, x ≠ a → mI M' x k = mI M x k ∧ mP M' x k = mP M x k ∧ mJ M' x k = mJ M x k) (hv : ∀ j, j < N → (if j = k then v else vf Z M a ci j) = vf Z M' a ci j) (hn : narrow (ty k) v = v) (hfit : fits (ty k) v = true)
    (hd : decode Y.1 pc = .ok (.putfield idx, 3)) (kk : G Z X Y ex cells slots (pc + 3) loc rest M') : G Z X Y ex cells slots pc loc (v :: .ref (zs Z + a) :: rest) M := by
  intro O ls H locs hl hP hS
  have hts := O.2.2.2.2.1
  have hKn := O.2.2.2.2.2.1.1
  have hown := O.2.2.2.1
  have hap := va_apart (own := Y.2.1) hts hc.2.2.1 ty hc.2.2.2.1 hc.2.2.2.2.1 hKn hc.2.1
  have hat := hP.1 a _ hk
  rw [ent_obj hc.1] at hat
  obtain ⟨r, h1, cell, q1, q2, q3, q4⟩ := hat
  have hr : r = (C, T, N) := Option.some.inj (h1.symm.trans hc.2.1)
  subst hr
  obtain ⟨hSl, hfc, kC, hkC, hkind⟩ := hKn.1 ci _ hc.2.1
  obtain ⟨cf, kf, fi, f, hi, hsl⟩ := hSl k hkN
  have hlay := hts _ (hc.2.2.1 _ (u_in_lay hkN))
  have hst := (u_facts hfc hkC (u_lays hts hc.2.2.1 hkN) hi).1
  have post : ∀ H' : Heap, H'[zs Z + a]? = some (cell.setSlot f.slot v) → H'.size = H.size → (∀ q, q ≠ zs Z + a → H'[q]? = H[q]?) → WX Z X H' (locs ++ [⟨zs Z + a, f.slot⟩]) cells slots (F0 (xm X) (pc + 3) ls rest) := by
    intro H' e1 e2 e3
    refine kk O ls H' _ hl (hP.upd hK ho e2 e3 hk ?_) (hS.put e2 e3 (Nat.le_add_right _ _))
    rw [ent_obj hc.1]
    rw [hsl] at e1
    refine ⟨_, hc.2.1, t_OB.to (V := updV (vp_V ((List.range N).map (vf Z M a ci))) k v) ⟨_, e1, q2, q3, t_set q4 hap hkN v⟩ (fun j hj => ?_)⟩
    rw [vp_range hj, ← hv j hj]
    unfold updV
    by_cases e : j = k
    · rw [if_pos e, if_pos e]
    · rw [if_neg e, if_neg e, vp_range hj]
  rcases hfin with hfin | ⟨hfin, hin2, hdecl⟩
  · unfold u_lay at hlay
    rw [if_neg (by rw [hfin]; decide)] at hlay
    have h6 := u_store hfc hkC hkind hlay hi (hc.2.2.2.1 k hkN) hn hfit
    exact W.putK O.1 O.2.1 (f := f) ⟨hown, hts _ hw, ⟨_, _, _, hi⟩, hst⟩ (by rw [q2]; exact h6) q1 q3 (by rw [hsl]; exact k2_hasslot (q4 k hkN)) rfl rfl hd post
  · unfold u_lay at hlay
    rw [if_pos hfin] at hlay
    have hcf : (xm X).cls = cf := by
      obtain ⟨_, _, c', _, _, _, -, -, hf', -, -, -, hown2, -⟩ := Cond.laysFinal_spec hlay
      have e1 : c' = cf := by have := hi.symm.trans hf'; simp at this; exact this.1.symm
      rw [hdecl] at hown2
      rw [← e1]; exact Option.some.inj (hown.symm.trans hown2)
    have h6 := u_fits hfc hkC hkind (Or.inr hlay) hi (hc.2.2.2.1 k hkN) hn hfit
    exact W.putFinK O.1 O.2.1 hown (hts _ hw) hi hst hcf hin2 (by rw [q2]; exact h6) q1 q3 (by rw [hsl]; exact k2_hasslot (q4 k hkN)) rfl rfl hd post
theorem G.puti (pc : Nat) {ci idx N a : Nat} {C : String} {T : u_T} {ty : Nat → FieldType} (hc : ClsOk ci C T ty N) (k : Nat) (hk : (mK M)[a]? = some (ci, N)) (hkN : k < N) (hfr : FR ci k = false) (hfin : (T k).2.2.2 = false) (hw : Cond.fieldLink Y.2.1 idx (T k).1 (T k).2.1 (T k).2.2.1 ∈ TBL) {v : Int32} (hn : narrow (ty k) (.int v) = .int v) (hfit : fits (ty k) (.int v) = true)
    (hd : decode Y.1 pc = .ok (.putfield idx, 3)) (kk : G Z X Y ex cells slots (pc + 3) loc rest (sI M a k v)) : G Z X Y ex cells slots pc loc (.int v :: .ref (zs Z + a) :: rest) M := by
  refine G.putv pc hc k hk hkN (Or.inl hfin) hw (M' := sI M a k v) rfl (fun x j hx => ⟨by simp [mI, sI, hx], rfl, rfl⟩) (fun j hj => ?_) hn hfit hd kk
  by_cases e : j = k
  · subst e
    rw [if_pos rfl]
    unfold vf
    rw [hfr]
    simp [mI, sI]
  · rw [if_neg e]
    unfold vf
    simp [mI, mP, sI, e]
theorem G.putp (pc : Nat) {ci idx N a : Nat} {C : String} {T : u_T} {ty : Nat → FieldType} (hc : ClsOk ci C T ty N) (k : Nat) {r : Nat} (hk : (mK M)[a]? = some (ci, N)) (hkN : k < N) (hfr : FR ci k = true) (hfin : (T k).2.2.2 = false ∨ ((T k).2.2.2 = true ∧ (xM X).name = "<init>" ∧ (T k).1 = Y.2.1)) (hw : Cond.fieldLink Y.2.1 idx (T k).1 (T k).2.1 (T k).2.2.1 ∈ TBL) (hn : ∀ x, narrow (ty k) (.ref x) = .ref x) (hfit : ∀ x, fits (ty k) (.ref x) = true)
    (hd : decode Y.1 pc = .ok (.putfield idx, 3)) (kk : G Z X Y ex cells slots (pc + 3) loc rest (sP M a k r)) : G Z X Y ex cells slots pc loc (.ref (zs Z + r) :: .ref (zs Z + a) :: rest) M := by
  refine G.putv pc hc k hk hkN hfin hw (M' := sP M a k r) rfl (fun x j hx => ⟨rfl, by simp [mP, sP, hx], rfl⟩) (fun j hj => ?_) (hn _) (hfit _) hd kk
  by_cases e : j = k
  · subst e
    rw [if_pos rfl]
    unfold vf
    rw [hfr]
    simp [mP, sP, va_rf]
  · rw [if_neg e]
    unfold vf
    simp [mI, mP, sP, e]
theorem G.iald (pc : Nat) {a n : Nat} {i : Int32} (hk : (mK M)[a]? = some (10, n)) (hin : vp_in i n) (hd : decode Y.1 pc = .ok (.iaload, 1)) (kk : G Z X Y ex cells slots (pc + 1) loc (.int (mI M a i.toNatClampNeg) :: rest) M) : G Z X Y ex cells slots pc loc (.int i :: .ref (zs Z + a) :: rest) M := fun O ls H locs hl hP hS =>
  va_iald (tys := tysZ Z) O.1 O.2.1 O.2.2.2.2.2.1.1 (hP.one hk) 0 0 (n := n) (f := mI M a) rfl rfl hin hd (kk O ls H locs hl hP hS)
theorem G.zald (pc : Nat) {a n : Nat} {i : Int32} (hk : (mK M)[a]? = some (11, n)) (hin : vp_in i n) (hd : decode Y.1 pc = .ok (.baload, 1)) (kk : G Z X Y ex cells slots (pc + 1) loc (.int (mI M a i.toNatClampNeg) :: rest) M) : G Z X Y ex cells slots pc loc (.int i :: .ref (zs Z + a) :: rest) M := fun O ls H locs hl hP hS =>
  va_zald (tys := tysZ Z) O.1 O.2.1 O.2.2.2.2.2.1.1 (hP.one hk) 0 1 (n := n) (f := mI M a) rfl rfl hin hd (kk O ls H locs hl hP hS)
theorem G.lald (pc : Nat) {a n : Nat} {i : Int32} (hk : (mK M)[a]? = some (12, n)) (hin : vp_in i n) (hd : decode Y.1 pc = .ok (.laload, 1)) (kk : G Z X Y ex cells slots (pc + 1) loc (.long (mJ M a i.toNatClampNeg) :: rest) M) : G Z X Y ex cells slots pc loc (.int i :: .ref (zs Z + a) :: rest) M := fun O ls H locs hl hP hS =>
  va_lald (tys := tysZ Z) O.1 O.2.1 O.2.2.2.2.2.1.1 (hP.one hk) 0 2 (n := n) (f := mJ M a) rfl rfl hin hd (kk O ls H locs hl hP hS)
theorem G.aald (pc : Nat) {a n t : Nat} {ft : FieldType} {i : Int32} (r : Nat) (hk : (mK M)[a]? = some (t, n)) (ht : 13 ≤ t) (htt : (tysZ Z)[t - 10]? = some (zA Z t, ft)) (hft : ft.isReference = true) (hin : vp_in i n) (hp : mP M a i.toNatClampNeg = some r) (hd : decode Y.1 pc = .ok (.aaload, 1)) (kk : G Z X Y ex cells slots (pc + 1) loc (.ref (zs Z + r) :: rest) M) : G Z X Y ex cells slots pc loc (.int i :: .ref (zs Z + a) :: rest) M := fun O ls H locs hl hP hS => by
  have hlt : i.toNatClampNeg < n := Nat.not_le.mp fun q => hin (Or.inr q)
  have hat := hP.1 a _ hk
  unfold ent at hat
  rw [if_neg (by show ¬ t < 10; omega), if_neg (by show ¬ t < 12; omega), if_neg (by show ¬ t = 12; omega)] at hat
  have hcell : H[zs Z + a]? = some (arrV (zA Z t) n (fun j => va_rf ((mP M a j).map (zs Z + ·)))) := hat
  refine W.aald (v := .ref (zs Z + r)) O.1 O.2.1 hcell ((O.2.2.2.2.2.1.1.2 _ _ htt).1 n _) hft (fun q => by cases q) ?_ ?_ rfl rfl hd (kk O ls H locs hl hP hS)
  · rw [arrV_size]; exact hin
  · rw [arrV_read _ _ hlt, hp]; rfl
theorem G.iast (pc : Nat) {a n : Nat} {i x : Int32} (hk : (mK M)[a]? = some (10, n)) (hin : vp_in i n) (hd : decode Y.1 pc = .ok (.iastore, 1)) (kk : G Z X Y ex cells slots (pc + 1) loc rest (sI M a i.toNatClampNeg x)) : G Z X Y ex cells slots pc loc (.int x :: .int i :: .ref (zs Z + a) :: rest) M := fun O ls H locs hl hP hS => by
  have hcell : H[zs Z + a]? = some (arrV (zA Z 10) n (fun j => .int (mI M a j))) := hP.1 a _ hk
  refine W.iast O.1 O.2.1 hcell ((O.2.2.2.2.2.1.1.2 0 _ rfl).1 n _) (fun q => by cases q) (by rw [arrV_size]; exact hin) rfl rfl hd (fun H' e1 z oq => ?_)
  refine kk O ls H' _ hl (hP.upd (M' := sI M a i.toNatClampNeg x) rfl (fun q j hq => ⟨by simp [mI, sI, hq], rfl, rfl⟩) z oq hk ?_) (hS.put z oq (Nat.le_add_right _ _))
  show H'[zs Z + a]? = some (arrV (zA Z 10) n (fun j => .int (mI (sI M a i.toNatClampNeg x) a j)))
  rw [e1, arrV_store]
  congr 2
  funext j
  by_cases hj : j = i.toNatClampNeg
  · subst hj; simp [updV, mI, sI]
  · simp [updV, mI, sI, hj]
theorem G.zast (pc : Nat) {a n : Nat} {i x : Int32} (hk : (mK M)[a]? = some (11, n)) (hin : vp_in i n) (hd : decode Y.1 pc = .ok (.bastore, 1)) (kk : G Z X Y ex cells slots (pc + 1) loc rest (sI M a i.toNatClampNeg (vp_nar .boolean x))) : G Z X Y ex cells slots pc loc (.int x :: .int i :: .ref (zs Z + a) :: rest) M := fun O ls H locs hl hP hS => by
  have hcell : H[zs Z + a]? = some (arrV (zA Z 11) n (fun j => .int (mI M a j))) := hP.1 a _ hk
  refine W.zast O.1 O.2.1 hcell ((O.2.2.2.2.2.1.1.2 1 _ rfl).1 n _) (fun q => by cases q) (by rw [arrV_size]; exact hin) rfl rfl hd (fun H' e1 z oq => ?_)
  refine kk O ls H' _ hl (hP.upd (M' := sI M a i.toNatClampNeg (vp_nar .boolean x)) rfl (fun q j hq => ⟨by simp [mI, sI, hq], rfl, rfl⟩) z oq hk ?_) (hS.put z oq (Nat.le_add_right _ _))
  show H'[zs Z + a]? = some (arrV (zA Z 11) n (fun j => .int (mI (sI M a i.toNatClampNeg (vp_nar .boolean x)) a j)))
  rw [e1, arrV_store]
  congr 2
  funext j
  by_cases hj : j = i.toNatClampNeg
  · subst hj
    simp only [updV, mI, sI, and_self, if_true]
    rfl
  · simp [updV, mI, sI, hj]
theorem G.last (pc : Nat) {a n : Nat} {i : Int32} {x : Int64} (hk : (mK M)[a]? = some (12, n)) (hin : vp_in i n) (hd : decode Y.1 pc = .ok (.lastore, 1)) (kk : G Z X Y ex cells slots (pc + 1) loc rest (sJ M a i.toNatClampNeg x)) : G Z X Y ex cells slots pc loc (.long x :: .int i :: .ref (zs Z + a) :: rest) M := fun O ls H locs hl hP hS => by
  have hcell : H[zs Z + a]? = some (arrV (zA Z 12) n (fun j => .long (mJ M a j))) := hP.1 a _ hk
  refine W.last O.1 O.2.1 hcell ((O.2.2.2.2.2.1.1.2 2 _ rfl).1 n _) (fun q => by cases q) (by rw [arrV_size]; exact hin) rfl rfl hd (fun H' e1 z oq => ?_)
  refine kk O ls H' _ hl (hP.upd (M' := sJ M a i.toNatClampNeg x) rfl (fun q j hq => ⟨rfl, rfl, by simp [mJ, sJ, hq]⟩) z oq hk ?_) (hS.put z oq (Nat.le_add_right _ _))
  show H'[zs Z + a]? = some (arrV (zA Z 12) n (fun j => .long (mJ (sJ M a i.toNatClampNeg x) a j)))
  rw [e1, arrV_store]
  congr 2
  funext j
  by_cases hj : j = i.toNatClampNeg
  · subst hj; simp [updV, mJ, sJ]
  · simp [updV, mJ, sJ, hj]
theorem G.alen (pc : Nat) {a n t : Nat} (v : Int32) (hk : (mK M)[a]? = some (t, n)) (ht : t = 10 ∨ t = 11 ∨ t = 12) (hv : Int32.ofNat n = v) (hd : decode Y.1 pc = .ok (.arraylength, 1)) (kk : G Z X Y ex cells slots (pc + 1) loc (.int v :: rest) M) : G Z X Y ex cells slots pc loc (.ref (zs Z + a) :: rest) M := fun O ls H locs hl hP hS => by
  rcases ht with rfl | rfl | rfl
  · exact va_alen (tys := tysZ Z) O.1 O.2.1 O.2.2.2.2.2.1.1 (hP.one hk) 0 0 (x := (n, .inl (mI M a))) rfl rfl hv hd (kk O ls H locs hl hP hS)
  · exact va_alen (tys := tysZ Z) O.1 O.2.1 O.2.2.2.2.2.1.1 (hP.one hk) 0 1 (x := (n, .inl (mI M a))) rfl rfl hv hd (kk O ls H locs hl hP hS)
  · exact va_alen (tys := tysZ Z) O.1 O.2.1 O.2.2.2.2.2.1.1 (hP.one hk) 0 2 (x := (n, .inr (.inl (mJ M a)))) rfl rfl hv hd (kk O ls H locs hl hP hS)
theorem G.mmax (pc : Nat) {idx : Nat} {x y : Int32} (w1 : Cond.methodLink Y.2.1 idx Lib.Math.max.name ∈ TBL) (w2 : Cond.static Lib.Math.max.name ∈ TBL) (w3 : Cond.initialized "java/lang/Math" ∈ TBL) (w4 : Cond.code Lib.Math.max.name Lib.Math.max.code 2 (some .int) ∈ TBL) {R : Room} (hR : xR X = R) (hr : 1 ≤ R.frames ∧ (rest.map fun v => v.category).sum + 13 ≤ R.locals ∧ cells ≤ R.cells ∧ slots ≤ R.slots) (hd : decode Y.1 pc = .ok (.invokestatic idx, 3)) (kk : G Z X Y ex cells slots (pc + 3) loc (.int (if x < y then y else x) :: rest) M) : G Z X Y ex cells slots pc loc (.int y :: .int x :: rest) M := fun O ls H locs hl hP hS => by
  subst hR
  exact va_mmax O.1 O.2.1 (O.2.2.1.trans hl.1.symm) O.2.2.2.1 (O.2.2.2.2.1 _ w1) (O.2.2.2.2.1 _ w2) (O.2.2.2.2.1 _ w3) (O.2.2.2.2.1 _ w4) hr.1 hr.2.1 hr.2.2.1 hr.2.2.2 hd (kk O ls H locs hl hP hS)
theorem G.mmin (pc : Nat) {idx : Nat} {x y : Int32} (w1 : Cond.methodLink Y.2.1 idx Lib.Math.min.name ∈ TBL) (w2 : Cond.static Lib.Math.min.name ∈ TBL) (w3 : Cond.initialized "java/lang/Math" ∈ TBL) (w4 : Cond.code Lib.Math.min.name Lib.Math.min.code 2 (some .int) ∈ TBL) {R : Room} (hR : xR X = R) (hr : 1 ≤ R.frames ∧ (rest.map fun v => v.category).sum + 13 ≤ R.locals ∧ cells ≤ R.cells ∧ slots ≤ R.slots) (hd : decode Y.1 pc = .ok (.invokestatic idx, 3)) (kk : G Z X Y ex cells slots (pc + 3) loc (.int (if y < x then y else x) :: rest) M) : G Z X Y ex cells slots pc loc (.int y :: .int x :: rest) M := fun O ls H locs hl hP hS => by
  subst hR
  exact va_mmin O.1 O.2.1 (O.2.2.1.trans hl.1.symm) O.2.2.2.1 (O.2.2.2.2.1 _ w1) (O.2.2.2.2.1 _ w2) (O.2.2.2.2.1 _ w3) (O.2.2.2.2.1 _ w4) hr.1 hr.2.1 hr.2.2.1 hr.2.2.2 hd (kk O ls H locs hl hP hS)
theorem G.mabs (pc : Nat) {idx : Nat} {x : Int32} (w1 : Cond.methodLink Y.2.1 idx Lib.Math.abs.name ∈ TBL) (w2 : Cond.static Lib.Math.abs.name ∈ TBL) (w3 : Cond.initialized "java/lang/Math" ∈ TBL) (w4 : Cond.code Lib.Math.abs.name Lib.Math.abs.code 1 (some .int) ∈ TBL) {R : Room} (hR : xR X = R) (hr : 1 ≤ R.frames ∧ (rest.map fun v => v.category).sum + 13 ≤ R.locals ∧ cells ≤ R.cells ∧ slots ≤ R.slots) (hd : decode Y.1 pc = .ok (.invokestatic idx, 3)) (kk : G Z X Y ex cells slots (pc + 3) loc (.int (if 0 ≤ x then x else 0 - x) :: rest) M) : G Z X Y ex cells slots pc loc (.int x :: rest) M := fun O ls H locs hl hP hS => by
  subst hR
  exact va_mabs O.1 O.2.1 (O.2.2.1.trans hl.1.symm) O.2.2.2.1 (O.2.2.2.2.1 _ w1) (O.2.2.2.2.1 _ w2) (O.2.2.2.2.1 _ w3) (O.2.2.2.2.1 _ w4) hr.1 hr.2.1 hr.2.2.1 hr.2.2.2 hd (kk O ls H locs hl hP hS)
end HROWS
end
section
/-! contracts, calls, ends -/
def Qp (Z : Sys) (ex : Prop) (post : Option Value → Mem → Prop) : Array Value → State → Outcome → State → Prop := fun _ st oc t => (∃ (v : Option Value) (M' : Mem), oc = .returned v ∧ post v M' ∧ Rp Z ex M' t.heap) ∧ va_F (Ar Z) st t
def wsC (y : MethodName) (cc : ByteArray) (maxL : Nat) (ret : Option FieldType) : List Cond := .code y cc maxL ret :: TBL
def PcZ (Z : Sys) (ex : Prop) (M : Mem) : State → Prop := fun U => Rp Z ex M U.heap ∧ Kn Z U ∧ zs Z ≤ U.heap.size
def Ct (Z : Sys) (y : MethodName) (cc : ByteArray) (maxL : Nat) (ret : Option FieldType) (rm : Room) (av : List Value) (M : Mem) (ex : Prop) (post : Option Value → Mem → Prop) : Prop := Met Z.1 y (wsC y cc maxL ret) rm (va_Pc av (PcZ Z ex M)) (Qp Z ex post) rm.cells rm.slots (Ar Z)
def RetOk (Z : Sys) (X : Cx) (ret : Option FieldType) (ex : Prop) (post : Option Value → Mem → Prop) (cells slots : Nat) : Prop := (xM X).sig.returnType = ret ∧ (xM X).locks = false ∧ xQ X = MQ (xb X) (Qp Z ex post) (xa X) (xs X) cells slots (Ar Z)
theorem Ct.of {Z : Sys} {y : MethodName} {cc : ByteArray} {maxL : Nat} {ret : Option FieldType} {rm : Room} {av : List Value} {M : Mem} {ex : Prop} {post : Option Value → Mem → Prop} (hy : plainName y.cls = true) (hlen : (lg_sl av).length ≤ maxL)
    (h : ∀ X : Cx, xR X = rm → RetOk Z X ret ex post rm.cells rm.slots → (xM X).name = y.name → G Z X (cc, y.cls, maxL) ex 0 0 0 (lv_args 0 av) [] M) : Ct Z y cc maxL ret rm av M ex post := by
  refine Met.ofW (cc := cc) (maxL := maxL) (ret := ret) hy rfl ?_
  intro p e s m args below meth c s₁ B hml hv
  obtain ⟨rfl, hP, hKn, hz⟩ := hv
  have hts := atoms_spec (ws := wsC y cc maxL ret) B.pre
  have hG := h (p, e, rm, s, m, av.toArray, below, meth, c, MQ below (Qp Z ex post) av.toArray s rm.cells rm.slots (Ar Z)) rfl ⟨B.returns, B.notSynchronized, rfl⟩ (name_of_methodNamed B.named B.method).1
  have hl := lv_entry av (n := maxL) hlen
  rw [lg_entry_eq]
  exact hG ⟨B.exec, B.bytes, hml, findClass_of_methodNamed B.named, fun w hw => hts w (List.mem_cons_of_mem _ hw), hKn, hz⟩ _ _ _ hl hP va_S.rf
theorem Ct.weaken {Z : Sys} {y : MethodName} {cc : ByteArray} {maxL : Nat} {ret : Option FieldType} {rm : Room} {av : List Value} {M : Mem} {ex : Prop} {post post' : Option Value → Mem → Prop} (h : Ct Z y cc maxL ret rm av M ex post) (hp : ∀ v M', post v M' → post' v M') : Ct Z y cc maxL ret rm av M ex post' := by
  have e : ∀ {a st o t}, Qp Z ex post a st o t → Qp Z ex post' a st o t := fun {a st o t} q => ⟨by obtain ⟨v, M', h1, h2, h3⟩ := q.1; exact ⟨v, M', h1, hp v M' h2, h3⟩, q.2⟩
  intro p e' ha hc hk s m args below hf hfit hP hKc
  obtain ⟨t, o, h1, h2, h3, h4⟩ := h p e' ha hc hk s m args below hf hfit hP hKc
  exact ⟨t, o, h1, h2, h3, e h4.1, h4.2⟩
/-- what the tables say of a method -/
def MOk (y : MethodName) (cc : ByteArray) (maxL : Nat) (ret : Option FieldType) (n : Nat) : Prop := (y.cls ≠ "java/lang/invoke/MethodHandle" ∧ y.cls ≠ "java/lang/invoke/VarHandle" ∧ (parseMethodDescriptor y.desc).map (fun d => d.parameters.length) = some n) ∧ Cond.code y cc maxL ret ∈ TBL ∧ Cond.initialized y.cls ∈ TBL
def VOk (y : MethodName) : Prop := Cond.instanceMethod y ∈ TBL ∧ Cond.selects y.cls y y ∈ TBL
section CROWS
variable {Z : Sys} {X : Cx} {Y : My} {ex : Prop} {cells slots : Nat} {loc loc' : List (Nat × Value)} {rest : List Value} {M : Mem}
theorem wsC_in {y : MethodName} {cc : ByteArray} {maxL : Nat} {ret : Option FieldType} (h : Cond.code y cc maxL ret ∈ TBL) : ∀ w ∈ wsC y cc maxL ret, w ∈ TBL := fun w hw => by
  rcases List.mem_cons.mp hw with rfl | hw
  · exact h
  · exact hw
theorem PcZ.blind {av : List Value} : FrameBlind (va_Pc av (PcZ Z ex M)) := fun a U g mk q => ⟨q.1, q.2.1, q.2.2.1.calling, q.2.2.2⟩
theorem G.after {p : Program} {l : Launch} {e : Env} {R : Room} {s : State} {m : MethodId} {args : Array Value} {below : List Frame} {meth : Method} {c : Code} {H : Heap} {locs : List Loc} {cells slots mc ms : Nat} {Q : State → Prop} {post : Option Value → Mem → Prop} {pc : Nat} {ls : Array Slot} {st0 rest : List Value} {a : Array Value}
    (hr : va_Run p l e R s m args below meth c H locs cells slots mc ms (F0 m pc ls st0) rest (Qp Z ex post a) (Ar Z)) (hS : va_S (Ar Z) s.heap H locs)
    (kk : ∀ (v : Option Value) (M' : Mem) (H1 : Heap) (locs1 : List Loc), post v M' → Rp Z ex M' H1 → va_S (Ar Z) s.heap H1 locs1 → W p l e R s m args below meth c H1 locs1 (cells + mc) (slots + ms) Q (F0 m (pc + 3) ls (v.toList ++ rest))) : W p l e R s m args below meth c H locs cells slots Q (F0 m pc ls st0) := by
  intro T hT X
  obtain ⟨v, st₀, t, T', L, h0, X', hL, e1, e2, ⟨⟨v', M', hv, hp, hb⟩, hz, hk⟩, st⟩ := hr T hT X
  cases hv
  rw [h0] at hz hk
  obtain ⟨t2, a1, b1⟩ := kk v M' T'.heap (locs ++ L) hp (by rw [e1]; exact hb)
    ⟨Nat.le_trans hS.1 (by rw [e1]; exact hz), fun q h1 h2 => by rw [e1, hk q (Nat.lt_of_lt_of_le h1 hS.1) h2]; exact hS.2.1 q h1 h2, fun q hq => by
      rcases List.mem_append.mp hq with h | h
      · exact hS.2.2 q h
      · exact hL q h⟩ T' rfl X'
  exact ⟨t2, st t2 a1, b1⟩
abbrev RmOk (R : Room) (cells slots maxL : Nat) (rm : Room) : Prop := rm.frames + 1 ≤ R.frames ∧ 8 + (maxL + 11) + rm.locals ≤ R.locals ∧ cells + rm.cells ≤ R.cells ∧ slots + rm.slots ≤ R.slots
theorem pcz {Z : Sys} {ex : Prop} {M : Mem} {s : State} {H : Heap} (hP : Rp Z ex M H) (hK : Kn Z s) : ∀ U : State, U.heap = H → s.WarmedH U.vm → PcZ Z ex M U := fun U hU hW => ⟨by rw [hU]; exact hP, Kn.moved hW hK, by rw [hU]; exact Nat.le_trans (Nat.le_add_right _ _) hP.2.1⟩
theorem recv {ci N b : Nat} {C : String} {T : u_T} {ty : Nat → FieldType} {s : State} {H : Heap} (hc : ClsOk ci C T ty N) (hb : (mK M)[b]? = some (ci, N)) (hP : Rp Z ex M H) (hK : Kn Z s) : ∃ cellB : Cell, H[zs Z + b]? = some cellB ∧ cellB.vm.isStatics = false ∧ s.vm.findClass C = some cellB.cls :=
  va_recv (cl := vwCl) (ws := [(zs Z + b, ent Z M b (ci, N))]) (q := (C, T, N)) (fs := (List.range N).map (vf Z M b ci)) hK.1 (hP.one hb) hc.2.1 (q0 := 0) (by rw [ent_obj hc.1]; rfl)
theorem G.callV (pc : Nat) {ci N b idx maxL : Nat} {C : String} {T : u_T} {ty : Nat → FieldType} {y : MethodName} {cc : ByteArray} {ret : Option FieldType} {rm R : Room} {As stk : List Value} {post : Option Value → Mem → Prop} (hc : ClsOk ci C T ty N) (hb : (mK M)[b]? = some (ci, N)) (hct : Ct Z y cc maxL ret rm (.ref (zs Z + b) :: As) M ex post) (hm : MOk y cc maxL ret As.length) (hv : VOk y) (hyC : y.cls = C) (w1 : Cond.methodLink Y.2.1 idx y ∈ TBL) (hR : xR X = R) (hr : RmOk R cells slots maxL rm) (hst : As.reverse ++ .ref (zs Z + b) :: rest = stk) (hrest : (rest.map fun v => v.category).sum ≤ 8)
    (hd : decode Y.1 pc = .ok (.invokevirtual idx, 3)) (kk : ∀ v M', post v M' → G Z X Y ex (cells + rm.cells) (slots + rm.slots) (pc + 3) loc (v.toList ++ rest) M') : G Z X Y ex cells slots pc loc stk M := fun O ls H locs hl hP hS => by
  subst hR; subst hst; subst hyC
  refine G.after (va_runV (As := As) (rest := rest) (b := zs Z + b) ⟨O.1, O.2.1, O.2.2.1, O.2.2.2.1, O.2.2.2.2.1⟩ hct (cwV As.length O.2.2.2.2.1 (gin ?_) rfl rfl rfl ⟨rfl, hm.1⟩ ⟨hr.1, hr.2.1⟩) ⟨PcZ.blind, recv hc hb hP O.2.2.2.2.2.1, fun U hU hW => ⟨rfl, pcz hP O.2.2.2.2.2.1 U hU hW⟩⟩ rfl rfl hl.1 rfl (lv_room hrest) hd hr.2.2) hS (fun v M' H1 locs1 hp hP1 hS1 => kk v M' hp O ls H1 locs1 hl hP1 hS1)
  intro w hw
  rcases List.mem_append.mp hw with h | h
  · rcases List.mem_cons.mp h with rfl | h
    · exact w1
    rcases List.mem_cons.mp h with rfl | h
    · exact hv.1
    rcases List.mem_cons.mp h with rfl | h
    · exact hv.2
    rcases List.mem_cons.mp h with rfl | h
    · exact hm.2.2
    · cases h
  · exact wsC_in hm.2.1 w h
theorem G.callS (pc : Nat) {idx maxL : Nat} {y : MethodName} {cc : ByteArray} {ret : Option FieldType} {rm R : Room} {As stk : List Value} {post : Option Value → Mem → Prop} (hct : Ct Z y cc maxL ret rm As M ex post) (hm : MOk y cc maxL ret As.length) (hs : Cond.static y ∈ TBL) (w1 : Cond.methodLink Y.2.1 idx y ∈ TBL) (hR : xR X = R) (hr : RmOk R cells slots maxL rm) (hst : As.reverse ++ rest = stk) (hrest : (rest.map fun v => v.category).sum ≤ 8)
    (hd : decode Y.1 pc = .ok (.invokestatic idx, 3)) (kk : ∀ v M', post v M' → G Z X Y ex (cells + rm.cells) (slots + rm.slots) (pc + 3) loc (v.toList ++ rest) M') : G Z X Y ex cells slots pc loc stk M := fun O ls H locs hl hP hS => by
  subst hR; subst hst
  have cb : CallB (xR X) (xs X) (xa X) Y.2.1 idx y cc maxL ret (wsC y cc maxL ret) rm rm.cells rm.slots As.length := callB_of As.length O.2.2.2.2.1 (gin (wsC_in hm.2.1)) rfl rfl rfl (O.2.2.2.2.1 _ hm.2.2) (O.2.2.2.2.1 _ w1) hm.1 ⟨hr.1, hr.2.1⟩
  exact G.after (va_runS (As := As) (rest := rest) ⟨O.1, O.2.1, O.2.2.1, O.2.2.2.1, O.2.2.2.2.1⟩ hct ⟨cb, O.2.2.2.2.1 _ hs⟩ ⟨PcZ.blind, fun U hU hW => ⟨rfl, pcz hP O.2.2.2.2.2.1 U hU hW⟩⟩ rfl rfl hl.1 rfl (lv_room hrest) hd hr.2.2) hS (fun v M' H1 locs1 hp hP1 hS1 => kk v M' hp O ls H1 locs1 hl hP1 hS1)
/-- a static private method of a nest mate -/
theorem G.callSN (pc : Nat) {host : String} {idx maxL : Nat} {y : MethodName} {cc : ByteArray} {ret : Option FieldType} {rm R : Room} {As stk : List Value} {post : Option Value → Mem → Prop} (hct : Ct Z y cc maxL ret rm As M ex post) (hm : MOk y cc maxL ret As.length) (hs : Cond.static y ∈ TBL) (w1 : Cond.methodLinkNest Y.2.1 idx y host ∈ NST) (hR : xR X = R) (hr : RmOk R cells slots maxL rm) (hst : As.reverse ++ rest = stk) (hrest : (rest.map fun v => v.category).sum ≤ 8)
    (hd : decode Y.1 pc = .ok (.invokestatic idx, 3)) (kk : ∀ v M', post v M' → G Z X Y ex (cells + rm.cells) (slots + rm.slots) (pc + 3) loc (v.toList ++ rest) M') : G Z X Y ex cells slots pc loc stk M := fun O ls H locs hl hP hS => by
  subst hR; subst hst
  have cb := va_cnB (R := xR X) (s := xs X) (args := xa X) (own := Y.2.1) (host := host) (index := idx) (y := y) (bytes := cc) (maxL := maxL) (ret := ret) (ws := wsC y cc maxL ret) (rm := rm) As.length O.2.2.2.2.1 (gin (wsC_in hm.2.1)) rfl rfl rfl (O.2.2.2.2.2.1.2 _ w1) (O.2.2.2.2.1 _ hm.2.2) hm.1 ⟨hr.1, hr.2.1⟩
  exact G.after (va_runSN (As := As) (rest := rest) ⟨O.1, O.2.1, O.2.2.1, O.2.2.2.1, O.2.2.2.2.1⟩ hct ⟨cb, O.2.2.2.2.1 _ hs, trivial⟩ ⟨PcZ.blind, fun U hU hW => ⟨rfl, pcz hP O.2.2.2.2.2.1 U hU hW⟩⟩ rfl rfl hl.1 rfl (lv_room hrest) hd hr.2.2) hS (fun v M' H1 locs1 hp hP1 hS1 => kk v M' hp O ls H1 locs1 hl hP1 hS1)
/-- a constructor -/
theorem G.callI (pc : Nat) {b idx maxL : Nat} {y : MethodName} {cc : ByteArray} {rm R : Room} {As stk : List Value} {post : Option Value → Mem → Prop} (hct : Ct Z y cc maxL none rm (.ref (zs Z + b) :: As) M ex post) (hm : MOk y cc maxL none As.length) (hi : Cond.instanceMethod y ∈ TBL) (hy1 : y.name = "<init>") (w1 : Cond.methodLink Y.2.1 idx y ∈ TBL) (hR : xR X = R) (hr : RmOk R cells slots maxL rm) (hst : As.reverse ++ .ref (zs Z + b) :: rest = stk) (hrest : (rest.map fun v => v.category).sum ≤ 8)
    (hd : decode Y.1 pc = .ok (.invokespecial idx, 3)) (kk : ∀ v M', post v M' → G Z X Y ex (cells + rm.cells) (slots + rm.slots) (pc + 3) loc (v.toList ++ rest) M') : G Z X Y ex cells slots pc loc stk M := fun O ls H locs hl hP hS => by
  subst hR; subst hst
  have cb := cwI (R := xR X) (s := xs X) (args := xa X) (own := Y.2.1) (index := idx) (y := y) (bytes := cc) (maxL := maxL) (ws := wsC y cc maxL none) (rm := rm) As.length O.2.2.2.2.1 (gin (wsC_in hm.2.1)) rfl rfl rfl (O.2.2.2.2.1 _ hm.2.2) (O.2.2.2.2.1 _ w1) (O.2.2.2.2.1 _ hi) hy1 hm.1 ⟨hr.1, hr.2.1⟩
  exact G.after (va_runI (b := zs Z + b) (As := As) (rest := rest) ⟨O.1, O.2.1, O.2.2.1, O.2.2.2.1, O.2.2.2.2.1⟩ hct cb ⟨PcZ.blind, fun U hU hW => ⟨rfl, pcz hP O.2.2.2.2.2.1 U hU hW⟩⟩ rfl rfl hl.1 rfl (lv_room hrest) hd hr.2.2) hS (fun v M' H1 locs1 hp hP1 hS1 => kk v M' hp O ls H1 locs1 hl hP1 hS1)
/-- a private constructor of a nest mate -/
theorem G.callIN (pc : Nat) {host : String} {b idx maxL : Nat} {y : MethodName} {cc : ByteArray} {rm R : Room} {As stk : List Value} {post : Option Value → Mem → Prop} (hct : Ct Z y cc maxL none rm (.ref (zs Z + b) :: As) M ex post) (hm : MOk y cc maxL none As.length) (hi : Cond.instanceMethod y ∈ TBL) (hy1 : y.name = "<init>") (w1 : Cond.methodLinkNest Y.2.1 idx y host ∈ NST) (hR : xR X = R) (hr : RmOk R cells slots maxL rm) (hst : As.reverse ++ .ref (zs Z + b) :: rest = stk) (hrest : (rest.map fun v => v.category).sum ≤ 8)
    (hd : decode Y.1 pc = .ok (.invokespecial idx, 3)) (kk : ∀ v M', post v M' → G Z X Y ex (cells + rm.cells) (slots + rm.slots) (pc + 3) loc (v.toList ++ rest) M') : G Z X Y ex cells slots pc loc stk M := fun O ls H locs hl hP hS => by
  subst hR; subst hst
  have cb := va_cnB (R := xR X) (s := xs X) (args := xa X) (own := Y.2.1) (host := host) (index := idx) (y := y) (bytes := cc) (maxL := maxL) (ret := none) (ws := wsC y cc maxL none) (rm := rm) As.length O.2.2.2.2.1 (gin (wsC_in hm.2.1)) rfl rfl rfl (O.2.2.2.2.2.1.2 _ w1) (O.2.2.2.2.1 _ hm.2.2) hm.1 ⟨hr.1, hr.2.1⟩
  exact G.after (va_runIN (b := zs Z + b) (As := As) (rest := rest) ⟨O.1, O.2.1, O.2.2.1, O.2.2.2.1, O.2.2.2.2.1⟩ hct ⟨cb, hy1, O.2.2.2.2.1 _ hi⟩ ⟨PcZ.blind, fun U hU hW => ⟨rfl, pcz hP O.2.2.2.2.2.1 U hU hW⟩⟩ rfl rfl hl.1 rfl (lv_room hrest) hd hr.2.2) hS (fun v M' H1 locs1 hp hP1 hS1 => kk v M' hp O ls H1 locs1 hl hP1 hS1)
theorem G.objInit (pc : Nat) {a idx : Nat} (w1 : Cond.methodLink Y.2.1 idx Lib.objectInit ∈ TBL) (w2 : Cond.instanceMethod Lib.objectInit ∈ TBL) (w3 : Cond.code Lib.objectInit ⟨#[0xb1]⟩ 1 none ∈ TBL) {R : Room} (hR : xR X = R) (hr : 1 ≤ R.frames ∧ (rest.map fun v => v.category).sum + 12 ≤ R.locals) (hd : decode Y.1 pc = .ok (.invokespecial idx, 3)) (kk : G Z X Y ex cells slots (pc + 3) loc rest M) : G Z X Y ex cells slots pc loc (.ref a :: rest) M := fun O ls H locs hl hP hS => by
  subst hR
  exact W.objInit O.1 O.2.1 O.2.2.2.1 (O.2.2.2.2.1 _ w1) (O.2.2.2.2.1 _ w2) (O.2.2.2.2.1 _ w3) rfl (by rw [O.2.2.1]; exact hl.1) rfl hd hr.1 (by show 2 * 0 + _ + 12 ≤ _; omega) (kk O ls H locs hl hP hS)
theorem G.widen {cells' slots' pc : Nat} {stk : List Value} (h1 : cells ≤ cells') (h2 : slots ≤ slots') (kk : G Z X Y ex cells' slots' pc loc stk M) : G Z X Y ex cells slots pc loc stk M := fun O ls H locs hl hP hS => W.widen h1 h2 (kk O ls H locs hl hP hS)
theorem G.iret (pc : Nat) {v : Int32} {post : Option Value → Mem → Prop} (hq : RetOk Z X (some .int) ex post cells slots) (hd : decode Y.1 pc = .ok (.ireturn, 1)) (h : post (some (.int v)) M) : G Z X Y ex cells slots pc loc [.int v] M := fun O ls H locs hl hP hS => by
  show W _ _ _ _ _ _ _ _ _ _ _ _ _ _ (xQ X) _
  rw [hq.2.2]
  exact W.iret O.1 O.2.1 hq.1 (fun t ht hW => ⟨⟨_, _, rfl, h, by rw [ht]; exact hP⟩, hS.F ht⟩) hS.2.2 hd hq.2.1
theorem G.zret (pc : Nat) {v : Int32} {post : Option Value → Mem → Prop} (hq : RetOk Z X (some .boolean) ex post cells slots) (hn : v = 0 ∨ v = 1) (hd : decode Y.1 pc = .ok (.ireturn, 1)) (h : post (some (.int v)) M) : G Z X Y ex cells slots pc loc [.int v] M := fun O ls H locs hl hP hS => by
  show W _ _ _ _ _ _ _ _ _ _ _ _ _ _ (xQ X) _
  rw [hq.2.2]
  exact W.zret O.1 O.2.1 hq.1 (by rcases hn with rfl | rfl <;> rfl) (fun t ht hW => ⟨⟨_, _, rfl, h, by rw [ht]; exact hP⟩, hS.F ht⟩) hS.2.2 hd hq.2.1
theorem G.lret (pc : Nat) {v : Int64} {post : Option Value → Mem → Prop} (hq : RetOk Z X (some .long) ex post cells slots) (hd : decode Y.1 pc = .ok (.lreturn, 1)) (h : post (some (.long v)) M) : G Z X Y ex cells slots pc loc [.long v] M := fun O ls H locs hl hP hS => by
  show W _ _ _ _ _ _ _ _ _ _ _ _ _ _ (xQ X) _
  rw [hq.2.2]
  exact W.lret O.1 O.2.1 hq.1 (fun t ht hW => ⟨⟨_, _, rfl, h, by rw [ht]; exact hP⟩, hS.F ht⟩) hS.2.2 hd hq.2.1
theorem G.vret (pc : Nat) {post : Option Value → Mem → Prop} (hq : RetOk Z X none ex post cells slots) (hd : decode Y.1 pc = .ok (.return_, 1)) (h : post none M) : G Z X Y ex cells slots pc loc [] M := fun O ls H locs hl hP hS => by
  show W _ _ _ _ _ _ _ _ _ _ _ _ _ _ (xQ X) _
  rw [hq.2.2]
  exact W.vret O.1 O.2.1 hq.1 (fun t ht hW => ⟨⟨_, _, rfl, h, by rw [ht]; exact hP⟩, hS.F ht⟩) hS.2.2 hd hq.2.1
/-! what makes cells -/
theorem G.new (pc : Nat) {ci N idx : Nat} {C : String} {T : u_T} {ty : Nat → FieldType} (hc : ClsOk ci C T ty N) (w1 : Cond.classLink Y.2.1 idx C ∈ TBL) (w2 : Cond.instantiable C N ∈ TBL) (w3 : Cond.initialized C ∈ TBL) (he : ex) {R : Room} (hR : xR X = R) (hr : cells + 1 ≤ R.cells ∧ slots + N ≤ R.slots) (hd : decode Y.1 pc = .ok (.new idx, 3)) (kk : G Z X Y ex (cells + 1) (slots + N) (pc + 3) loc (.ref (zs Z + (mK M).length) :: rest) (nw M (ci, N))) : G Z X Y ex cells slots pc loc rest M := fun O ls H locs hl hP hS => by
  subst hR
  have hKc := O.2.2.2.2.2.1.1.1 ci _ hc.2.1
  refine W.newcK O.1 O.2.1 O.2.2.2.1 (O.2.2.2.2.1 _ w1) (O.2.2.2.2.1 _ w2) (O.2.2.2.2.1 _ w3) rfl hd hr.1 hr.2 hKc.2.1 rfl (fun H' kC hkC e1 z1 o1 => ?_)
  have hs := hP.2.2 he
  have hP' : Rp Z ex (nw M (ci, N)) H' := hP.push he z1 o1 (by
    rw [ent_obj hc.1]
    refine ⟨_, hc.2.1, (u_born ty O.2.2.2.2.1 hc.2.2.1 hKc hkC e1 hc.2.2.2.1).to (fun j hj => ?_)⟩
    rw [vp_range hj, hc.2.2.2.2.2 j hj]
    unfold vf
    by_cases h : FR ci j = true
    · rw [if_pos h, if_pos h]; simp [mP, mK, nw, va_rf]
    · rw [if_neg h, if_neg h]; simp [mI, mK, nw])
  rw [hs]
  exact kk O ls H' locs hl hP' (push_S hS (by omega) o1)
theorem G.newa (pc : Nat) {atype : ArrayType} (t N : Nat) {n : Int32} {ft : FieldType} (ht : t = 10 ∨ t = 11 ∨ t = 12) (hat : newarray.typeOf atype = ft) (hfa : (tysZ Z)[t - 10]? = some (zA Z t, ft)) (w1 : Cond.arrayClass ft ∈ TBL) (hprim : ∀ U cA, va_RA U cA ft = (U.vm.findClass ("[" ++ ft.toString) = some cA)) (hent : ∀ M' : Mem, (∀ j, mI M' (mK M).length j = 0) → (∀ j, mJ M' (mK M).length j = 0) → ∀ H', H'[zs Z + (mK M).length]? = some (arrV (zA Z t) N (fun _ => defaultValue ft)) → va_at (zD Z) vwCl (zs Z + (mK M).length, ent Z M' (mK M).length (t, N)) H') (hn : ¬ n < 0) (hN : n.toNatClampNeg = N) (hb : N * componentBytes ft ≤ 536870912) (he : ex) {R : Room} (hR : xR X = R) (hr : cells + 1 ≤ R.cells ∧ slots + N ≤ R.slots) (hd : decode Y.1 pc = .ok (.newarray atype, 2)) (kk : G Z X Y ex (cells + 1) (slots + N) (pc + 2) loc (.ref (zs Z + (mK M).length) :: rest) (nw M (t, N))) : G Z X Y ex cells slots pc loc (.int n :: rest) M := fun O ls H locs hl hP hS => by
  subst hR; subst hat
  refine va_newaK O.1 O.2.1 (O.2.2.2.2.1 _ w1) rfl hd rfl hn hN hb hr.1 hr.2 rfl (fun H' cA e1 z1 o1 hAr hNm => ?_)
  have hs := hP.2.2 he
  have hcA : cA = zA Z t := by
    have h := (O.2.2.2.2.2.1.1.2 _ _ hfa).2
    rw [hprim] at h
    exact Option.some.inj (hNm.symm.trans h)
  subst hcA
  have hP' : Rp Z ex (nw M (t, N)) H' := hP.push he z1 o1 (by
    rw [hs]
    exact hent _ (fun j => by simp [mI, mK, nw]) (fun j => by simp [mJ, mK, nw]) _ (by rw [← hs]; exact e1))
  rw [hs]
  exact kk O ls H' locs hl hP' (push_S hS (by omega) o1)
theorem G.newaI (pc : Nat) (N : Nat) {n : Int32} (w1 : Cond.arrayClass .int ∈ TBL) (hn : ¬ n < 0) (hN : n.toNatClampNeg = N) (hb : N * componentBytes .int ≤ 536870912) (he : ex) {R : Room} (hR : xR X = R) (hr : cells + 1 ≤ R.cells ∧ slots + N ≤ R.slots) (hd : decode Y.1 pc = .ok (.newarray .int, 2)) (kk : G Z X Y ex (cells + 1) (slots + N) (pc + 2) loc (.ref (zs Z + (mK M).length) :: rest) (nw M (10, N))) : G Z X Y ex cells slots pc loc (.int n :: rest) M :=
  G.newa (atype := .int) (ft := .int) pc 10 N (Or.inl rfl) rfl rfl w1 (fun _ _ => rfl) (fun M' h1 _ H' h => by
    show H'[_]? = some (arrV (zA Z 10) N (fun j => .int (mI M' _ j)))
    rw [h]; congr 2; funext j; rw [h1]; rfl) hn hN hb he hR hr hd kk
theorem G.newaZ (pc : Nat) (N : Nat) {n : Int32} (w1 : Cond.arrayClass .boolean ∈ TBL) (hn : ¬ n < 0) (hN : n.toNatClampNeg = N) (hb : N * componentBytes .boolean ≤ 536870912) (he : ex) {R : Room} (hR : xR X = R) (hr : cells + 1 ≤ R.cells ∧ slots + N ≤ R.slots) (hd : decode Y.1 pc = .ok (.newarray .boolean, 2)) (kk : G Z X Y ex (cells + 1) (slots + N) (pc + 2) loc (.ref (zs Z + (mK M).length) :: rest) (nw M (11, N))) : G Z X Y ex cells slots pc loc (.int n :: rest) M :=
  G.newa (atype := .boolean) (ft := .boolean) pc 11 N (Or.inr (Or.inl rfl)) rfl rfl w1 (fun _ _ => rfl) (fun M' h1 _ H' h => by
    show H'[_]? = some (arrV (zA Z 11) N (fun j => .int (mI M' _ j)))
    rw [h]; congr 2; funext j; rw [h1]; rfl) hn hN hb he hR hr hd kk
theorem G.newaJ (pc : Nat) (N : Nat) {n : Int32} (w1 : Cond.arrayClass .long ∈ TBL) (hn : ¬ n < 0) (hN : n.toNatClampNeg = N) (hb : N * componentBytes .long ≤ 536870912) (he : ex) {R : Room} (hR : xR X = R) (hr : cells + 1 ≤ R.cells ∧ slots + N ≤ R.slots) (hd : decode Y.1 pc = .ok (.newarray .long, 2)) (kk : G Z X Y ex (cells + 1) (slots + N) (pc + 2) loc (.ref (zs Z + (mK M).length) :: rest) (nw M (12, N))) : G Z X Y ex cells slots pc loc (.int n :: rest) M :=
  G.newa (atype := .long) (ft := .long) pc 12 N (Or.inr (Or.inr rfl)) rfl rfl w1 (fun _ _ => rfl) (fun M' _ h1 H' h => by
    show H'[_]? = some (arrV (zA Z 12) N (fun j => .long (mJ M' _ j)))
    rw [h]; congr 2; funext j; rw [h1]; rfl) hn hN hb he hR hr hd kk
theorem G.newq (pc : Nat) (t N : Nat) {C : String} {idx : Nat} {n : Int32} (ht : 13 ≤ t) (hfa : (tysZ Z)[t - 10]? = some (zA Z t, .object C)) (w1 : Cond.classLink Y.2.1 idx C ∈ TBL) (w2 : Cond.arrayOver (.object C) ∈ NST) (hn : ¬ n < 0) (hN : n.toNatClampNeg = N) (hb : N * 4 ≤ 536870912) (he : ex) {R : Room} (hR : xR X = R) (hr : cells + 1 ≤ R.cells ∧ slots + N ≤ R.slots) (hd : decode Y.1 pc = .ok (.anewarray idx, 3)) (kk : G Z X Y ex (cells + 1) (slots + N) (pc + 3) loc (.ref (zs Z + (mK M).length) :: rest) (nw M (t, N))) : G Z X Y ex cells slots pc loc (.int n :: rest) M := fun O ls H locs hl hP hS => by
  subst hR; subst hN
  refine W.anew O.1 O.2.1 O.2.2.2.1 (O.2.2.2.2.1 _ w1) (va_AO.use (O.2.2.2.2.2.1.2 _ w2)) rfl hd rfl hn hb hr.1 hr.2 (fun cA kA comp f1 f2 f3 f4 => ?_)
  generalize hH1 : H.push ({ cls := cA, slots := Array.replicate n.toNatClampNeg .null, vm := .none } : Cell) = H1
  have z1 : H1.size = H.size + 1 := by rw [← hH1, Array.size_push]
  have e1 : H1[H.size]? = some (arrV cA n.toNatClampNeg (fun _ => .null)) := by rw [← hH1, Array.getElem?_push_size, ← arrV_new]
  have o1 : ∀ q : Nat, q < H.size → H1[q]? = H[q]? := fun q hq => by rw [← hH1, Array.getElem?_push, if_neg (Nat.ne_of_lt hq)]
  have hs := hP.2.2 he
  have hcA : cA = zA Z t := by
    obtain ⟨_, _, _, _, _, h⟩ := (O.2.2.2.2.2.1.1.2 _ _ hfa).2
    exact Option.some.inj (f1.symm.trans h)
  subst hcA
  have hP' : Rp Z ex (nw M (t, n.toNatClampNeg)) H1 := hP.push he z1 o1 (by
    unfold ent
    rw [if_neg (by show ¬ t < 10; omega), if_neg (by show ¬ t < 12; omega), if_neg (by show ¬ t = 12; omega)]
    show H1[H.size]? = some (arrV (zA Z t) n.toNatClampNeg (fun j => va_rf ((mP (nw M (t, n.toNatClampNeg)) (mK M).length j).map (zs Z + ·))))
    rw [e1]
    congr 2
    funext j
    simp [mP, mK, nw, va_rf])
  show W _ _ _ _ _ _ _ _ _ _ _ _ _ _ _ (F0 (xm X) (pc + 3) ls (.ref H.size :: rest))
  rw [hs]
  exact kk O ls H1 locs hl hP' (push_S hS (by omega) o1)
theorem G.astq (pc : Nat) {a n t ci N v : Nat} {C : String} {T : u_T} {ty : Nat → FieldType} {i : Int32} (hk : (mK M)[a]? = some (t, n)) (ht : 13 ≤ t) (hfa : (tysZ Z)[t - 10]? = some (zA Z t, .object C)) (hc : ClsOk ci C T ty N) (hv : (mK M)[v]? = some (ci, N)) (hin : vp_in i n) (hd : decode Y.1 pc = .ok (.aastore, 1)) (kk : G Z X Y ex cells slots (pc + 1) loc rest (sP M a i.toNatClampNeg v)) : G Z X Y ex cells slots pc loc (.ref (zs Z + v) :: .int i :: .ref (zs Z + a) :: rest) M := fun O ls H locs hl hP hS => by
  have hlt : i.toNatClampNeg < n := Nat.not_le.mp fun q => hin (Or.inr q)
  have h0 : ¬ i < 0 := fun q => hin (Or.inl q)
  have hat := hP.1 a _ hk
  unfold ent at hat
  rw [if_neg (by show ¬ t < 10; omega), if_neg (by show ¬ t < 12; omega), if_neg (by show ¬ t = 12; omega)] at hat
  have hcell : H[zs Z + a]? = some (arrV (zA Z t) n (fun j => va_rf ((mP M a j).map (zs Z + ·)))) := hat
  have hatv := hP.1 v _ hv
  rw [ent_obj hc.1] at hatv
  obtain ⟨r', hr', cellV, g1, g2, g3, -⟩ := hatv
  have hcls := (O.2.2.2.2.2.1.1.1 ci _ hc.2.1).2
  obtain ⟨kA, comp, k1, k2, k3, -⟩ := (O.2.2.2.2.2.1.1.2 _ _ hfa).2
  have hcomp : comp = (zD Z).1 ci := Option.some.inj (k3.symm.trans hcls.1)
  subst hcomp
  obtain ⟨kC, hkC, -⟩ := hcls.2
  refine W.aast O.1 O.2.1 hcell (fun q h => by cases h) (fun h => by cases h) k1 k2 rfl hkC ⟨h0, by rw [arrV_size]; exact hlt⟩ g1 (fun q h => by rw [g3] at h; cases h) (by rw [g2]; exact hkC) (by rw [g2]; exact va_assign hcls) rfl rfl hd (fun H' e1 z oq => ?_)
  refine kk O ls H' _ hl (hP.upd (M' := sP M a i.toNatClampNeg v) rfl (fun q j hq => ⟨rfl, by simp [mP, sP, hq], rfl⟩) z oq hk ?_) (hS.put z oq (Nat.le_add_right _ _))
  unfold ent
  rw [if_neg (by show ¬ t < 10; omega), if_neg (by show ¬ t < 12; omega), if_neg (by show ¬ t = 12; omega)]
  show H'[zs Z + a]? = some (arrV (zA Z t) n (fun j => va_rf ((mP (sP M a i.toNatClampNeg v) a j).map (zs Z + ·))))
  rw [e1, arrV_store]
  congr 2
  funext j
  by_cases hj : j = i.toNatClampNeg
  · subst hj; simp [updV, mP, sP, va_rf]
  · simp [updV, mP, sP, hj]
end CROWS
end
section
/-! the whole memory as one list of the kit's; arraycopy; rows of rows -/
def wsOf (Z : Sys) (M : Mem) : va_W := (mK M).zipIdx.map (fun q => (zs Z + q.2, ent Z M q.2 q.1))
theorem wsOf_get {Z : Sys} {M : Mem} (a : Nat) : (wsOf Z M)[a]? = ((mK M)[a]?).map (fun kd => (zs Z + a, ent Z M a kd)) := by
  unfold wsOf
  rw [List.getElem?_map, List.getElem?_zipIdx]
  cases (mK M)[a]? <;> simp
theorem wsOf_len {Z : Sys} {M : Mem} : (wsOf Z M).length = (mK M).length := by simp [wsOf]
theorem Rp.ws {Z : Sys} {ex : Prop} {M : Mem} {H : Heap} (h : Rp Z ex M H) : va_P (zD Z) vwCl (wsOf Z M) H := fun k q hq => by
  rw [wsOf_get] at hq
  obtain ⟨kd, h1, rfl⟩ := Option.map_eq_some_iff.mp hq
  exact h.1 k kd h1
theorem wsOf_D {Z : Sys} {M : Mem} : va_D (Ar Z) (wsOf Z M) := by
  refine ⟨fun i j p q hi hj hpq => ?_, fun k q hq => ?_⟩
  · rw [wsOf_get] at hi hj
    obtain ⟨_, _, rfl⟩ := Option.map_eq_some_iff.mp hi
    obtain ⟨_, _, rfl⟩ := Option.map_eq_some_iff.mp hj
    have : zs Z + i = zs Z + j := hpq
    omega
  · rw [wsOf_get] at hq
    obtain ⟨_, _, rfl⟩ := Option.map_eq_some_iff.mp hq
    exact Nat.le_add_right _ _
section MROWS
variable {Z : Sys} {X : Cx} {Y : My} {ex : Prop} {cells slots : Nat} {loc loc' : List (Nat × Value)} {rest : List Value} {M : Mem}
theorem G.copyi (pc : Nat) {a0 a n0 n1 idx : Nat} {sp dp n : Int32} (hk0 : (mK M)[a0]? = some (10, n0)) (hk1 : (mK M)[a]? = some (10, n1)) (w1 : Cond.methodLink Y.2.1 idx arraycopyName ∈ TBL) (w2 : Cond.native arraycopyName ∈ TBL) (w3 : Cond.static arraycopyName ∈ TBL) (w4 : Cond.initialized "java/lang/System" ∈ TBL) (h1 : ¬ sp < 0) (h2 : ¬ dp < 0) (h3 : ¬ n < 0) (h4 : sp.toNatClampNeg + n.toNatClampNeg ≤ n0) (h5 : dp.toNatClampNeg + n.toNatClampNeg ≤ n1) {R : Room} (hR : xR X = R) (hr : 1 ≤ R.frames ∧ (rest.map fun v => v.category).sum + (nativeFrameWords "java/lang/System" "arraycopy" 5 + 11) ≤ R.locals) (hd : decode Y.1 pc = .ok (.invokestatic idx, 3)) (kk : G Z X Y False cells slots (pc + 3) loc rest (cI M a0 sp.toNatClampNeg a dp.toNatClampNeg n.toNatClampNeg)) : G Z X Y False cells slots pc loc (.int n :: .int dp :: .ref (zs Z + a) :: .int sp :: .ref (zs Z + a0) :: rest) M := fun O ls H locs hl hP hS => by
  subst hR
  have g0 : (wsOf Z M)[a0]? = some (zs Z + a0, .inl (zA Z 10, n0, .inl (mI M a0))) := by rw [wsOf_get, hk0]; rfl
  have g1 : (wsOf Z M)[a]? = some (zs Z + a, .inl (zA Z 10, n1, .inl (mI M a))) := by rw [wsOf_get, hk1]; rfl
  refine va_copyi (D := zD Z) (tys := tysZ Z) O.1 O.2.1 (O.2.2.1.trans hl.1.symm) O.2.2.2.1 (O.2.2.2.2.1 _ w1) (O.2.2.2.2.1 _ w2) (O.2.2.2.2.1 _ w3) (O.2.2.2.2.1 _ w4) O.2.2.2.2.2.1.1 hP.ws wsOf_D hS a0 a 0 0 g0 g1 rfl rfl rfl h1 h2 h3 h4 h5 (fun i _ => rfl) hr.1 hr.2 hd (fun H1 locs1 hP1 hD1 hS1 => ?_)
  refine kk O ls H1 locs1 hl ⟨fun x kd hx => ?_, ?_, fun h => h.elim⟩ hS1
  · have hx' : (mK M)[x]? = some kd := hx
    by_cases e : x = a
    · subst e
      rw [hk1] at hx'
      cases hx'
      have := hP1 x (zs Z + x, .inl (zA Z 10, n1, .inl (va_cpy (mI M a0) (mI M x) sp.toNatClampNeg dp.toNatClampNeg n.toNatClampNeg))) (by rw [List.getElem?_set_self (by rw [wsOf_len]; exact kl hk1)])
      have e2 : mI (cI M a0 sp.toNatClampNeg x dp.toNatClampNeg n.toNatClampNeg) x = va_cpy (mI M a0) (mI M x) sp.toNatClampNeg dp.toNatClampNeg n.toNatClampNeg := by
        funext j
        simp [mI, cI, va_cpy]
      show va_at _ _ (_, .inl (zA Z 10, n1, .inl (mI _ x))) _
      rw [e2]
      exact this
    · have := hP1 x (zs Z + x, ent Z M x kd) (by rw [List.getElem?_set_ne (Ne.symm e), wsOf_get, hx']; rfl)
      rw [ent_congr (M' := cI M a0 sp.toNatClampNeg a dp.toNatClampNeg n.toNatClampNeg) (M := M) (fun k => ⟨by simp [mI, cI, e], rfl, rfl⟩)]
      exact this
  · show zs Z + (mK M).length ≤ _
    have hl1 := kl hk1
    obtain ⟨kd, hkd⟩ : ∃ kd, (mK M)[(mK M).length - 1]? = some kd := ⟨_, List.getElem?_eq_getElem (by omega)⟩
    obtain ⟨q, hq, hq1⟩ : ∃ q : Nat × va_E, ((wsOf Z M).set a (zs Z + a, .inl (zA Z 10, n1, .inl (va_cpy (mI M a0) (mI M a) sp.toNatClampNeg dp.toNatClampNeg n.toNatClampNeg))))[(mK M).length - 1]? = some q ∧ q.1 = zs Z + ((mK M).length - 1) := by
      by_cases e : (mK M).length - 1 = a
      · rw [e, List.getElem?_set_self (by rw [wsOf_len]; exact hl1)]
        exact ⟨_, rfl, rfl⟩
      · rw [List.getElem?_set_ne (Ne.symm e), wsOf_get, hkd]
        exact ⟨_, rfl, rfl⟩
    have := (hP1 _ q hq).lt
    omega
theorem mn_outer (c : ClassId) (N h0 : Nat) : ∀ i : Nat, Jvm.Free.Multi.outerC c N h0 i = arrV c N (fun j => va_rf (if j < i then some (h0 + 1 + j) else none))
  | 0 => by
    show ({ cls := c, slots := Array.replicate N .null, vm := .none } : Cell) = _
    rw [arrV_new]
    refine congrArg (arrV c N) (funext fun j => ?_)
    simp [va_rf]
  | i + 1 => by
    show (Jvm.Free.Multi.outerC c N h0 i).setSlot i (.ref (h0 + 1 + i)) = _
    rw [mn_outer c N h0 i, arrV_store]
    refine congrArg (arrV c N) (funext fun j => ?_)
    by_cases e : j = i
    · subst e
      simp [updV, va_rf]
    · by_cases h : j < i
      · simp [updV, e, h, Nat.lt_succ_of_lt h]
      · simp [updV, e, h, show ¬ j < i + 1 by omega]
theorem G.mnewI (pc : Nat) (N K : Nat) {idx : Nat} {n k : Int32} (w1 : Cond.classLink Y.2.1 idx ("[" ++ (FieldType.array .int).toString) ∈ TBL) (w2 : Cond.arrayOver (.array .int) ∈ NST) (w3 : Cond.arrayClass .int ∈ TBL) (hn : ¬ n < 0) (hk : ¬ k < 0) (hN : n.toNatClampNeg = N) (hK : k.toNatClampNeg = K) (hb : N * 4 ≤ 536870912) (hb2 : K * componentBytes .int ≤ 536870912) (hb3 : K ≤ 536870912) (he : ex) {R : Room} (hR : xR X = R) (hr : cells + (1 + N) ≤ R.cells ∧ slots + (N + N * K) ≤ R.slots) (hd : decode Y.1 pc = .ok (.multianewarray idx 2, 4)) (kk : G Z X Y ex (cells + 1 + N) (slots + N + N * K) (pc + 4) loc (.ref (zs Z + (mK M).length) :: rest) (nwm M N K)) : G Z X Y ex cells slots pc loc (.int k :: .int n :: rest) M := fun O ls H locs hl hP hS => by
  subst hR; subst hN; subst hK
  intro T hT Xs
  obtain ⟨vm₁, cA, comp, -, fA, fC, hO, -, X', step⟩ := Xs.multianewarray2F (ty := .int) O.1 O.2.2.2.1 (O.2.2.2.2.1 _ w1) (O.2.2.2.2.2.1.2 _ w2) (O.2.2.2.2.1 _ w3) (g := F0 (xm X) pc ls (.int k :: .int n :: rest)) rfl (by rw [O.2.1]; exact hd) rfl hn hk hb hb2 hb3 rfl rfl hr.1 hr.2
  have eA : cA = zA Z 15 := by
    have h := (O.2.2.2.2.2.1.1.2 5 _ rfl).2
    exact Option.some.inj (fA.symm.trans h)
  have eC : comp = zA Z 10 := by
    have h := (O.2.2.2.2.2.1.1.2 0 _ rfl).2
    exact Option.some.inj (fC.symm.trans h)
  subst eA; subst eC
  generalize hF : Jvm.Free.Multi.fill (T.setVm vm₁) (zA Z 15) (zA Z 10) n.toNatClampNeg k.toNatClampNeg (defaultValue .int) n.toNatClampNeg = F at X' step
  have hTh : (T.setVm vm₁).heap = H := hT
  obtain ⟨f1, f2, -, -⟩ := Jvm.Free.Multi.fill_facts (T.setVm vm₁) (zA Z 15) (zA Z 10) n.toNatClampNeg k.toNatClampNeg (defaultValue .int) n.toNatClampNeg
  rw [hF, hTh] at f1 f2
  have hold : ∀ x : Nat, x < H.size → F.heap[x]? = H[x]? := fun x hx => by
    have := Jvm.Free.Multi.fill_old (T.setVm vm₁) (zA Z 15) (zA Z 10) n.toNatClampNeg k.toNatClampNeg (defaultValue .int) (a := x) (by rw [hTh]; exact hx) n.toNatClampNeg
    rw [hF, hTh] at this
    exact this
  have hrow : ∀ j : Nat, j < n.toNatClampNeg → F.heap[H.size + 1 + j]? = some (arrV (zA Z 10) k.toNatClampNeg (fun _ => .int 0)) := fun j hj => by
    have := Jvm.Free.Multi.fill_inner (T.setVm vm₁) (zA Z 15) (zA Z 10) n.toNatClampNeg k.toNatClampNeg (defaultValue .int) n.toNatClampNeg j hj
    rw [hF, hTh] at this
    rw [this, ← arrV_new]
    rfl
  rw [mn_outer] at f2
  have hs := hP.2.2 he
  have hlen : (mK (nwm M n.toNatClampNeg k.toNatClampNeg)).length = (mK M).length + 1 + n.toNatClampNeg := by simp [mK, nwm]; omega
  have hP' : Rp Z ex (nwm M n.toNatClampNeg k.toNatClampNeg) F.heap := by
    refine ⟨fun x kd hx => ?_, by rw [hlen, f1, hs]; omega, fun _ => by rw [hlen, f1, hs]; omega⟩
    have hx' : ((mK M) ++ (15, n.toNatClampNeg) :: List.replicate n.toNatClampNeg (10, k.toNatClampNeg))[x]? = some kd := hx
    by_cases e : x < (mK M).length
    · rw [List.getElem?_append_left e] at hx'
      have hne : x ≠ M.1.length := Nat.ne_of_lt e
      have hnl : ¬ M.1.length ≤ x := Nat.not_le.mpr e
      rw [ent_congr (M' := nwm M n.toNatClampNeg k.toNatClampNeg) (M := M) (fun k => ⟨by simp [mI, nwm, hnl], by simp [mP, nwm, hne, hnl], by simp [mJ, nwm, hnl]⟩)]
      exact (hP.1 x kd hx').kept (hold _ (by show zs Z + x < H.size; omega))
    · rw [List.getElem?_append_right (by omega)] at hx'
      obtain ⟨d, hdx⟩ : ∃ d, x = (mK M).length + d := ⟨x - (mK M).length, by omega⟩
      subst hdx
      rw [show (mK M).length + d - (mK M).length = d by omega] at hx'
      cases d with
      | zero =>
        cases hx'
        show F.heap[zs Z + (mK M).length]? = some (arrV (zA Z 15) n.toNatClampNeg (fun j => va_rf ((mP (nwm M n.toNatClampNeg k.toNatClampNeg) (mK M).length j).map (zs Z + ·))))
        rw [← hs, f2]
        congr 2
        funext j
        by_cases hj : j < n.toNatClampNeg
        · have e : mP (nwm M n.toNatClampNeg k.toNatClampNeg) (mK M).length j = some ((mK M).length + 1 + j) := by simp [mP, mK, nwm, hj]
          rw [e, if_pos hj]
          exact congrArg Value.ref (show H.size + 1 + j = zs Z + ((mK M).length + 1 + j) by omega)
        · simp [mP, mK, nwm, hj, va_rf]
      | succ d =>
        rw [List.getElem?_cons_succ] at hx'
        have hdn : d < n.toNatClampNeg := by
          have := (List.getElem?_eq_some_iff.mp hx').1
          simpa using this
        rw [List.getElem?_replicate_of_lt hdn] at hx'
        cases hx'
        show F.heap[zs Z + ((mK M).length + (d + 1))]? = some (arrV (zA Z 10) k.toNatClampNeg (fun j => .int (mI (nwm M n.toNatClampNeg k.toNatClampNeg) ((mK M).length + (d + 1)) j)))
        rw [show zs Z + ((mK M).length + (d + 1)) = H.size + 1 + d by omega, hrow d hdn]
        congr 2
        funext j
        simp [mI, mK, nwm]
  have hTz : T.heap.size = zs Z + (mK M).length := by rw [hT]; exact hs
  rw [hTz] at step
  obtain ⟨t, a1, b1⟩ := kk O ls F.heap locs hl hP' (push_S hS (by rw [f1]; omega) hold) F rfl X'
  exact ⟨t, step t a1, b1⟩
end MROWS
end
section
/-! the cells of the system behind its constructors: 301 of them -/
def K0 : List (Nat × Nat) := [(8, 8), (0, 12), (13, 30), (10, 10), (11, 4), (10, 4), (10, 4), (15, 10), (10, 80), (10, 80), (10, 80), (10, 80), (10, 80), (10, 80), (10, 80), (10, 80), (10, 80), (10, 80), (10, 10), (3, 11), (11, 9), (11, 9), (11, 9), (10, 10), (10, 30), (1, 12), (5, 2), (1, 12), (5, 2), (1, 12), (5, 2), (1, 12), (5, 2), (1, 12), (5, 2), (1, 12), (5, 2), (1, 12), (5, 2), (1, 12), (5, 2), (1, 12), (5, 2), (1, 12), (5, 2), (1, 12), (5, 2), (1, 12), (5, 2), (1, 12), (5, 2), (1, 12), (5, 2), (1, 12), (5, 2), (1, 12), (5, 2), (1, 12), (5, 2), (1, 12), (5, 2), (1, 12), (5, 2), (1, 12), (5, 2), (1, 12), (5, 2), (1, 12), (5, 2), (1, 12), (5, 2), (1, 12), (5, 2), (1, 12), (5, 2), (1, 12), (5, 2), (1, 12), (5, 2), (1, 12), (5, 2), (1, 12), (5, 2), (1, 12), (5, 2), (0, 12), (13, 30), (10, 10), (11, 4), (10, 4), (10, 4), (15, 10), (10, 80), (10, 80), (10, 80), (10, 80), (10, 80), (10, 80), (10, 80), (10, 80), (10, 80), (10, 80), (10, 10), (3, 11), (11, 9), (11, 9), (11, 9), (10, 10), (10, 30), (1, 12), (5, 2), (1, 12), (5, 2), (1, 12), (5, 2), (1, 12), (5, 2), (1, 12), (5, 2), (1, 12), (5, 2), (1, 12), (5, 2), (1, 12), (5, 2), (1, 12), (5, 2), (1, 12), (5, 2), (1, 12), (5, 2), (1, 12), (5, 2), (1, 12), (5, 2), (1, 12), (5, 2), (1, 12), (5, 2), (1, 12), (5, 2), (1, 12), (5, 2), (1, 12), (5, 2), (1, 12), (5, 2), (1, 12), (5, 2), (1, 12), (5, 2), (1, 12), (5, 2), (1, 12), (5, 2), (1, 12), (5, 2), (1, 12), (5, 2), (1, 12), (5, 2), (1, 12), (5, 2), (1, 12), (5, 2), (1, 12), (5, 2), (1, 12), (5, 2), (0, 12), (13, 30), (10, 10), (11, 4), (10, 4), (10, 4), (15, 10), (10, 80), (10, 80), (10, 80), (10, 80), (10, 80), (10, 80), (10, 80), (10, 80), (10, 80), (10, 80), (10, 10), (3, 11), (11, 9), (11, 9), (11, 9), (10, 10), (10, 30), (1, 12), (5, 2), (1, 12), (5, 2), (1, 12), (5, 2), (1, 12), (5, 2), (1, 12), (5, 2), (1, 12), (5, 2), (1, 12), (5, 2), (1, 12), (5, 2), (1, 12), (5, 2), (1, 12), (5, 2), (1, 12), (5, 2), (1, 12), (5, 2), (1, 12), (5, 2), (1, 12), (5, 2), (1, 12), (5, 2), (1, 12), (5, 2), (1, 12), (5, 2), (1, 12), (5, 2), (1, 12), (5, 2), (1, 12), (5, 2), (1, 12), (5, 2), (1, 12), (5, 2), (1, 12), (5, 2), (1, 12), (5, 2), (1, 12), (5, 2), (1, 12), (5, 2), (1, 12), (5, 2), (1, 12), (5, 2), (1, 12), (5, 2), (1, 12), (5, 2), (14, 8), (7, 5), (10, 30), (4, 2), (10, 301), (10, 301), (2, 5), (6, 7), (5, 2), (10, 80), (6, 7), (5, 2), (10, 80), (6, 7), (5, 2), (10, 80), (6, 7), (5, 2), (10, 80), (6, 7), (5, 2), (10, 80), (6, 7), (5, 2), (10, 80), (6, 7), (5, 2), (10, 80), (6, 7), (5, 2), (10, 80), (9, 28), (10, 1194), (10, 1194), (10, 8), (10, 8), (10, 8), (10, 640), (10, 8), (10, 8), (10, 10), (10, 30), (10, 9331), (10, 30), (10, 30), (10, 30), (10, 30), (12, 1)]
def PT : List (List (Option Nat)) := [[some 1, some 85, some 169, none, some 253, some 254, some 256, some 259], [some 2, none, some 3, some 4, some 5, some 6, some 7, some 18, none, some 19, some 23, some 24], [some 25, some 27, some 29, some 31, some 33, some 35, some 37, some 39, some 41, some 43, some 45, some 47, some 49, some 51, some 53, some 55, some 57, some 59, some 61, some 63, some 65, some 67, some 69, some 71, some 73, some 75, some 77, some 79, some 81, some 83], [], [], [], [], [some 8, some 9, some 10, some 11, some 12, some 13, some 14, some 15, some 16, some 17], [], [], [], [], [], [], [], [], [], [], [], [some 20, some 21, some 22], [], [], [], [], [], [some 26], [], [some 28], [], [some 30], [], [some 32], [], [some 34], [], [some 36], [], [some 38], [], [some 40], [], [some 42], [], [some 44], [], [some 46], [], [some 48], [], [some 50], [], [some 52], [], [some 54], [], [some 56], [], [some 58], [], [some 60], [], [some 62], [], [some 64], [], [some 66], [], [some 68], [], [some 70], [], [some 72], [], [some 74], [], [some 76], [], [some 78], [], [some 80], [], [some 82], [], [some 84], [], [some 86, none, some 87, some 88, some 89, some 90, some 91, some 102, none, some 103, some 107, some 108], [some 109, some 111, some 113, some 115, some 117, some 119, some 121, some 123, some 125, some 127, some 129, some 131, some 133, some 135, some 137, some 139, some 141, some 143, some 145, some 147, some 149, some 151, some 153, some 155, some 157, some 159, some 161, some 163, some 165, some 167], [], [], [], [], [some 92, some 93, some 94, some 95, some 96, some 97, some 98, some 99, some 100, some 101], [], [], [], [], [], [], [], [], [], [], [], [some 104, some 105, some 106], [], [], [], [], [], [some 110], [], [some 112], [], [some 114], [], [some 116], [], [some 118], [], [some 120], [], [some 122], [], [some 124], [], [some 126], [], [some 128], [], [some 130], [], [some 132], [], [some 134], [], [some 136], [], [some 138], [], [some 140], [], [some 142], [], [some 144], [], [some 146], [], [some 148], [], [some 150], [], [some 152], [], [some 154], [], [some 156], [], [some 158], [], [some 160], [], [some 162], [], [some 164], [], [some 166], [], [some 168], [], [some 170, none, some 171, some 172, some 173, some 174, some 175, some 186, none, some 187, some 191, some 192], [some 193, some 195, some 197, some 199, some 201, some 203, some 205, some 207, some 209, some 211, some 213, some 215, some 217, some 219, some 221, some 223, some 225, some 227, some 229, some 231, some 233, some 235, some 237, some 239, some 241, some 243, some 245, some 247, some 249, some 251], [], [], [], [], [some 176, some 177, some 178, some 179, some 180, some 181, some 182, some 183, some 184, some 185], [], [], [], [], [], [], [], [], [], [], [], [some 188, some 189, some 190], [], [], [], [], [], [some 194], [], [some 196], [], [some 198], [], [some 200], [], [some 202], [], [some 204], [], [some 206], [], [some 208], [], [some 210], [], [some 212], [], [some 214], [], [some 216], [], [some 218], [], [some 220], [], [some 222], [], [some 224], [], [some 226], [], [some 228], [], [some 230], [], [some 232], [], [some 234], [], [some 236], [], [some 238], [], [some 240], [], [some 242], [], [some 244], [], [some 246], [], [some 248], [], [some 250], [], [some 252], [], [some 260, some 263, some 266, some 269, some 272, some 275, some 278, some 281], [some 255], [], [some 257, some 258], [], [], [], [none, some 261, none, none, none, none, some 262], [], [], [none, some 264, none, none, none, none, some 265], [], [], [none, some 267, none, none, none, none, some 268], [], [], [none, some 270, none, none, none, none, some 271], [], [], [none, some 273, none, none, none, none, some 274], [], [], [none, some 276, none, none, none, none, some 277], [], [], [none, some 279, none, none, none, none, some 280], [], [], [none, some 282, none, none, none, none, some 283], [], [], [some 285, some 286, some 287, some 288, some 289, some 290, some 291, some 292, none, none, some 293, none, some 294, none, none, some 295, none, some 296, some 297, some 298, some 299, none, none, none, none, none, some 290], [], [], [], [], [], [], [], [], [], [], [], [], [], [], [], []]
def P0 (a k : Nat) : Option Nat := (PT.getD a []).getD k none
/-- the shape stands: the kinds, and where references go; only the reference's own field 'text' moves, between two rows -/
def St (M : Mem) : Prop := mK M = K0 ∧ (∀ a, a < 301 → ∀ k, k < 30 → (a = 284 ∧ k = 26) ∨ mP M a k = P0 a k) ∧ (mP M 284 26 = some 290 ∨ mP M 284 26 = some 285)
theorem St.k {M : Mem} (h : St M) {a : Nat} {kd : Nat × Nat} (hk : K0[a]? = some kd) : (mK M)[a]? = some kd := by rw [h.1]; exact hk
theorem K0_lt {a : Nat} {kd : Nat × Nat} (h : K0[a]? = some kd) : a < 301 := by
  have e : K0.length = 301 := by decide +kernel
  have h1 := (List.getElem?_eq_some_iff.mp h).1
  omega
theorem St.p {M : Mem} (h : St M) {a k r : Nat} (ha : a < 301) (hk : k < 30) (hp : P0 a k = some r) (hn : a = 284 → k ≠ 26) : mP M a k = some r := by
  rcases h.2.1 a ha k hk with ⟨h1, h2⟩ | h1
  · exact absurd h2 (hn h1)
  · rw [h1, hp]
theorem pt_0_0 {M : Mem} (h : St M) {a : Nat} (ha : K0[a]? = some (0, 12)) : mP M a 0 = some (a + 1) ∧ K0[a + 1]? = some (13, 30) := by
  have e : ∀ a, a < 301 → K0[a]? = some (0, 12) → P0 a 0 = some (a + 1) ∧ K0[a + 1]? = some (13, 30) ∧ a ≠ 284 := by decide +kernel
  obtain ⟨e1, e2, e3⟩ := e a (K0_lt ha) ha
  exact ⟨h.p (K0_lt ha) (by decide) e1 (fun q => absurd q e3), e2⟩
theorem pt_0_2 {M : Mem} (h : St M) {a : Nat} (ha : K0[a]? = some (0, 12)) : mP M a 2 = some (a + 2) ∧ K0[a + 2]? = some (10, 10) := by
  have e : ∀ a, a < 301 → K0[a]? = some (0, 12) → P0 a 2 = some (a + 2) ∧ K0[a + 2]? = some (10, 10) ∧ a ≠ 284 := by decide +kernel
  obtain ⟨e1, e2, e3⟩ := e a (K0_lt ha) ha
  exact ⟨h.p (K0_lt ha) (by decide) e1 (fun q => absurd q e3), e2⟩
theorem pt_0_3 {M : Mem} (h : St M) {a : Nat} (ha : K0[a]? = some (0, 12)) : mP M a 3 = some (a + 3) ∧ K0[a + 3]? = some (11, 4) := by
  have e : ∀ a, a < 301 → K0[a]? = some (0, 12) → P0 a 3 = some (a + 3) ∧ K0[a + 3]? = some (11, 4) ∧ a ≠ 284 := by decide +kernel
  obtain ⟨e1, e2, e3⟩ := e a (K0_lt ha) ha
  exact ⟨h.p (K0_lt ha) (by decide) e1 (fun q => absurd q e3), e2⟩
theorem pt_0_4 {M : Mem} (h : St M) {a : Nat} (ha : K0[a]? = some (0, 12)) : mP M a 4 = some (a + 4) ∧ K0[a + 4]? = some (10, 4) := by
  have e : ∀ a, a < 301 → K0[a]? = some (0, 12) → P0 a 4 = some (a + 4) ∧ K0[a + 4]? = some (10, 4) ∧ a ≠ 284 := by decide +kernel
  obtain ⟨e1, e2, e3⟩ := e a (K0_lt ha) ha
  exact ⟨h.p (K0_lt ha) (by decide) e1 (fun q => absurd q e3), e2⟩
theorem pt_0_5 {M : Mem} (h : St M) {a : Nat} (ha : K0[a]? = some (0, 12)) : mP M a 5 = some (a + 5) ∧ K0[a + 5]? = some (10, 4) := by
  have e : ∀ a, a < 301 → K0[a]? = some (0, 12) → P0 a 5 = some (a + 5) ∧ K0[a + 5]? = some (10, 4) ∧ a ≠ 284 := by decide +kernel
  obtain ⟨e1, e2, e3⟩ := e a (K0_lt ha) ha
  exact ⟨h.p (K0_lt ha) (by decide) e1 (fun q => absurd q e3), e2⟩
theorem pt_0_6 {M : Mem} (h : St M) {a : Nat} (ha : K0[a]? = some (0, 12)) : mP M a 6 = some (a + 6) ∧ K0[a + 6]? = some (15, 10) := by
  have e : ∀ a, a < 301 → K0[a]? = some (0, 12) → P0 a 6 = some (a + 6) ∧ K0[a + 6]? = some (15, 10) ∧ a ≠ 284 := by decide +kernel
  obtain ⟨e1, e2, e3⟩ := e a (K0_lt ha) ha
  exact ⟨h.p (K0_lt ha) (by decide) e1 (fun q => absurd q e3), e2⟩
theorem pt_0_7 {M : Mem} (h : St M) {a : Nat} (ha : K0[a]? = some (0, 12)) : mP M a 7 = some (a + 17) ∧ K0[a + 17]? = some (10, 10) := by
  have e : ∀ a, a < 301 → K0[a]? = some (0, 12) → P0 a 7 = some (a + 17) ∧ K0[a + 17]? = some (10, 10) ∧ a ≠ 284 := by decide +kernel
  obtain ⟨e1, e2, e3⟩ := e a (K0_lt ha) ha
  exact ⟨h.p (K0_lt ha) (by decide) e1 (fun q => absurd q e3), e2⟩
theorem pt_0_9 {M : Mem} (h : St M) {a : Nat} (ha : K0[a]? = some (0, 12)) : mP M a 9 = some (a + 18) ∧ K0[a + 18]? = some (3, 11) := by
  have e : ∀ a, a < 301 → K0[a]? = some (0, 12) → P0 a 9 = some (a + 18) ∧ K0[a + 18]? = some (3, 11) ∧ a ≠ 284 := by decide +kernel
  obtain ⟨e1, e2, e3⟩ := e a (K0_lt ha) ha
  exact ⟨h.p (K0_lt ha) (by decide) e1 (fun q => absurd q e3), e2⟩
theorem pt_0_10 {M : Mem} (h : St M) {a : Nat} (ha : K0[a]? = some (0, 12)) : mP M a 10 = some (a + 22) ∧ K0[a + 22]? = some (10, 10) := by
  have e : ∀ a, a < 301 → K0[a]? = some (0, 12) → P0 a 10 = some (a + 22) ∧ K0[a + 22]? = some (10, 10) ∧ a ≠ 284 := by decide +kernel
  obtain ⟨e1, e2, e3⟩ := e a (K0_lt ha) ha
  exact ⟨h.p (K0_lt ha) (by decide) e1 (fun q => absurd q e3), e2⟩
theorem pt_0_11 {M : Mem} (h : St M) {a : Nat} (ha : K0[a]? = some (0, 12)) : mP M a 11 = some (a + 23) ∧ K0[a + 23]? = some (10, 30) := by
  have e : ∀ a, a < 301 → K0[a]? = some (0, 12) → P0 a 11 = some (a + 23) ∧ K0[a + 23]? = some (10, 30) ∧ a ≠ 284 := by decide +kernel
  obtain ⟨e1, e2, e3⟩ := e a (K0_lt ha) ha
  exact ⟨h.p (K0_lt ha) (by decide) e1 (fun q => absurd q e3), e2⟩
theorem pt_1_0 {M : Mem} (h : St M) {a : Nat} (ha : K0[a]? = some (1, 12)) : mP M a 0 = some (a + 1) ∧ K0[a + 1]? = some (5, 2) := by
  have e : ∀ a, a < 301 → K0[a]? = some (1, 12) → P0 a 0 = some (a + 1) ∧ K0[a + 1]? = some (5, 2) ∧ a ≠ 284 := by decide +kernel
  obtain ⟨e1, e2, e3⟩ := e a (K0_lt ha) ha
  exact ⟨h.p (K0_lt ha) (by decide) e1 (fun q => absurd q e3), e2⟩
theorem pt_3_0 {M : Mem} (h : St M) {a : Nat} (ha : K0[a]? = some (3, 11)) : mP M a 0 = some (a + 1) ∧ K0[a + 1]? = some (11, 9) := by
  have e : ∀ a, a < 301 → K0[a]? = some (3, 11) → P0 a 0 = some (a + 1) ∧ K0[a + 1]? = some (11, 9) ∧ a ≠ 284 := by decide +kernel
  obtain ⟨e1, e2, e3⟩ := e a (K0_lt ha) ha
  exact ⟨h.p (K0_lt ha) (by decide) e1 (fun q => absurd q e3), e2⟩
theorem pt_3_1 {M : Mem} (h : St M) {a : Nat} (ha : K0[a]? = some (3, 11)) : mP M a 1 = some (a + 2) ∧ K0[a + 2]? = some (11, 9) := by
  have e : ∀ a, a < 301 → K0[a]? = some (3, 11) → P0 a 1 = some (a + 2) ∧ K0[a + 2]? = some (11, 9) ∧ a ≠ 284 := by decide +kernel
  obtain ⟨e1, e2, e3⟩ := e a (K0_lt ha) ha
  exact ⟨h.p (K0_lt ha) (by decide) e1 (fun q => absurd q e3), e2⟩
theorem pt_3_2 {M : Mem} (h : St M) {a : Nat} (ha : K0[a]? = some (3, 11)) : mP M a 2 = some (a + 3) ∧ K0[a + 3]? = some (11, 9) := by
  have e : ∀ a, a < 301 → K0[a]? = some (3, 11) → P0 a 2 = some (a + 3) ∧ K0[a + 3]? = some (11, 9) ∧ a ≠ 284 := by decide +kernel
  obtain ⟨e1, e2, e3⟩ := e a (K0_lt ha) ha
  exact ⟨h.p (K0_lt ha) (by decide) e1 (fun q => absurd q e3), e2⟩
theorem pt_6_1 {M : Mem} (h : St M) {a : Nat} (ha : K0[a]? = some (6, 7)) : mP M a 1 = some (a + 1) ∧ K0[a + 1]? = some (5, 2) := by
  have e : ∀ a, a < 301 → K0[a]? = some (6, 7) → P0 a 1 = some (a + 1) ∧ K0[a + 1]? = some (5, 2) ∧ a ≠ 284 := by decide +kernel
  obtain ⟨e1, e2, e3⟩ := e a (K0_lt ha) ha
  exact ⟨h.p (K0_lt ha) (by decide) e1 (fun q => absurd q e3), e2⟩
theorem pt_6_6 {M : Mem} (h : St M) {a : Nat} (ha : K0[a]? = some (6, 7)) : mP M a 6 = some (a + 2) ∧ K0[a + 2]? = some (10, 80) := by
  have e : ∀ a, a < 301 → K0[a]? = some (6, 7) → P0 a 6 = some (a + 2) ∧ K0[a + 2]? = some (10, 80) ∧ a ≠ 284 := by decide +kernel
  obtain ⟨e1, e2, e3⟩ := e a (K0_lt ha) ha
  exact ⟨h.p (K0_lt ha) (by decide) e1 (fun q => absurd q e3), e2⟩
theorem pa_13 {M : Mem} (h : St M) {a : Nat} (ha : K0[a]? = some (13, 30)) {j : Nat} (hj : j < 30) : mP M a j = some (a + 23 + 2 * j) ∧ K0[a + 23 + 2 * j]? = some (1, 12) := by
  have e : ∀ a, a < 301 → K0[a]? = some (13, 30) → a ≠ 284 ∧ ∀ j, j < 30 → P0 a j = some (a + 23 + 2 * j) ∧ K0[a + 23 + 2 * j]? = some (1, 12) := by decide +kernel
  obtain ⟨e3, e4⟩ := e a (K0_lt ha) ha
  obtain ⟨e1, e2⟩ := e4 j hj
  exact ⟨h.p (K0_lt ha) (by omega) e1 (fun q => absurd q e3), e2⟩
theorem pa_14 {M : Mem} (h : St M) {a : Nat} (ha : K0[a]? = some (14, 8)) {j : Nat} (hj : j < 8) : mP M a j = some (a + 7 + 3 * j) ∧ K0[a + 7 + 3 * j]? = some (6, 7) := by
  have e : ∀ a, a < 301 → K0[a]? = some (14, 8) → a ≠ 284 ∧ ∀ j, j < 8 → P0 a j = some (a + 7 + 3 * j) ∧ K0[a + 7 + 3 * j]? = some (6, 7) := by decide +kernel
  obtain ⟨e3, e4⟩ := e a (K0_lt ha) ha
  obtain ⟨e1, e2⟩ := e4 j hj
  exact ⟨h.p (K0_lt ha) (by omega) e1 (fun q => absurd q e3), e2⟩
theorem pa_15 {M : Mem} (h : St M) {a : Nat} (ha : K0[a]? = some (15, 10)) {j : Nat} (hj : j < 10) : mP M a j = some (a + 1 + 1 * j) ∧ K0[a + 1 + 1 * j]? = some (10, 80) := by
  have e : ∀ a, a < 301 → K0[a]? = some (15, 10) → a ≠ 284 ∧ ∀ j, j < 10 → P0 a j = some (a + 1 + 1 * j) ∧ K0[a + 1 + 1 * j]? = some (10, 80) := by decide +kernel
  obtain ⟨e3, e4⟩ := e a (K0_lt ha) ha
  obtain ⟨e1, e2⟩ := e4 j hj
  exact ⟨h.p (K0_lt ha) (by omega) e1 (fun q => absurd q e3), e2⟩
theorem pc_8_0 {M : Mem} (h : St M) : mP M 0 0 = some 1 := h.p (by decide) (by decide) (by decide +kernel) (by decide)
theorem pc_8_1 {M : Mem} (h : St M) : mP M 0 1 = some 85 := h.p (by decide) (by decide) (by decide +kernel) (by decide)
theorem pc_8_2 {M : Mem} (h : St M) : mP M 0 2 = some 169 := h.p (by decide) (by decide) (by decide +kernel) (by decide)
theorem pc_8_4 {M : Mem} (h : St M) : mP M 0 4 = some 253 := h.p (by decide) (by decide) (by decide +kernel) (by decide)
theorem pc_8_5 {M : Mem} (h : St M) : mP M 0 5 = some 254 := h.p (by decide) (by decide) (by decide +kernel) (by decide)
theorem pc_8_6 {M : Mem} (h : St M) : mP M 0 6 = some 256 := h.p (by decide) (by decide) (by decide +kernel) (by decide)
theorem pc_8_7 {M : Mem} (h : St M) : mP M 0 7 = some 259 := h.p (by decide) (by decide) (by decide +kernel) (by decide)
theorem pc_7_0 {M : Mem} (h : St M) : mP M 254 0 = some 255 := h.p (by decide) (by decide) (by decide +kernel) (by decide)
theorem pc_4_0 {M : Mem} (h : St M) : mP M 256 0 = some 257 := h.p (by decide) (by decide) (by decide +kernel) (by decide)
theorem pc_4_1 {M : Mem} (h : St M) : mP M 256 1 = some 258 := h.p (by decide) (by decide) (by decide +kernel) (by decide)
theorem pc_9_0 {M : Mem} (h : St M) : mP M 284 0 = some 285 := h.p (by decide) (by decide) (by decide +kernel) (by decide)
theorem pc_9_1 {M : Mem} (h : St M) : mP M 284 1 = some 286 := h.p (by decide) (by decide) (by decide +kernel) (by decide)
theorem pc_9_2 {M : Mem} (h : St M) : mP M 284 2 = some 287 := h.p (by decide) (by decide) (by decide +kernel) (by decide)
theorem pc_9_3 {M : Mem} (h : St M) : mP M 284 3 = some 288 := h.p (by decide) (by decide) (by decide +kernel) (by decide)
theorem pc_9_4 {M : Mem} (h : St M) : mP M 284 4 = some 289 := h.p (by decide) (by decide) (by decide +kernel) (by decide)
theorem pc_9_5 {M : Mem} (h : St M) : mP M 284 5 = some 290 := h.p (by decide) (by decide) (by decide +kernel) (by decide)
theorem pc_9_6 {M : Mem} (h : St M) : mP M 284 6 = some 291 := h.p (by decide) (by decide) (by decide +kernel) (by decide)
theorem pc_9_7 {M : Mem} (h : St M) : mP M 284 7 = some 292 := h.p (by decide) (by decide) (by decide +kernel) (by decide)
theorem pc_9_10 {M : Mem} (h : St M) : mP M 284 10 = some 293 := h.p (by decide) (by decide) (by decide +kernel) (by decide)
theorem pc_9_12 {M : Mem} (h : St M) : mP M 284 12 = some 294 := h.p (by decide) (by decide) (by decide +kernel) (by decide)
theorem pc_9_15 {M : Mem} (h : St M) : mP M 284 15 = some 295 := h.p (by decide) (by decide) (by decide +kernel) (by decide)
theorem pc_9_17 {M : Mem} (h : St M) : mP M 284 17 = some 296 := h.p (by decide) (by decide) (by decide +kernel) (by decide)
theorem pc_9_18 {M : Mem} (h : St M) : mP M 284 18 = some 297 := h.p (by decide) (by decide) (by decide +kernel) (by decide)
theorem pc_9_19 {M : Mem} (h : St M) : mP M 284 19 = some 298 := h.p (by decide) (by decide) (by decide +kernel) (by decide)
theorem pc_9_20 {M : Mem} (h : St M) : mP M 284 20 = some 299 := h.p (by decide) (by decide) (by decide +kernel) (by decide)
def tx (M : Mem) : Nat := (mP M 284 26).getD 0
theorem pt_x {M : Mem} (h : St M) : mP M 284 26 = some (tx M) := by
  rcases h.2.2 with e | e <;> simp [tx, e]
def ln (a : Nat) : Nat := (K0[a]?.map (fun q => q.2)).getD 0
theorem kd_x {M : Mem} (h : St M) : K0[tx M]? = some (10, ln (tx M)) := by
  rcases h.2.2 with e | e <;> simp only [tx, e, Option.getD_some] <;> decide +kernel
theorem ln_of {a t n : Nat} (h : K0[a]? = some (t, n)) : ln a = n := by simp [ln, h]
theorem St.t {M : Mem} (h : St M) {r : Nat} (hr : r = 290 ∨ r = 285) : St (sP M 284 26 r) := by
  refine ⟨h.1, fun a ha k hk => ?_, ?_⟩
  · by_cases e : a = 284 ∧ k = 26
    · exact Or.inl e
    · rcases h.2.1 a ha k hk with e1 | e1
      · exact absurd e1 e
      · exact Or.inr (by simp only [mP, sP, if_neg e]; exact e1)
  · rcases hr with rfl | rfl
    · exact Or.inl (by simp [mP, sP])
    · exact Or.inr (by simp [mP, sP])
theorem St.i {M : Mem} (h : St M) {a k : Nat} {v : Int32} : St (sI M a k v) := h
theorem St.j {M : Mem} (h : St M) {a k : Nat} {v : Int64} : St (sJ M a k v) := h
theorem St.c {M : Mem} (h : St M) {a s b d n : Nat} : St (cI M a s b d n) := h
theorem ck_0 : ClsOk 0 RX0 TX0 tyX0 12 := ⟨by decide, rfl, fun w hw => by
  have h : (wsX00.all fun w => decide (w ∈ TBL)) = true := by decide +kernel
  exact of_decide_eq_true (List.all_eq_true.mp h w hw), tyX0_ok, nmX0, by decide +kernel⟩
theorem ck_1 : ClsOk 1 RX1 TX1 tyX1 12 := ⟨by decide, rfl, fun w hw => by
  have h : (wsX10.all fun w => decide (w ∈ TBL)) = true := by decide +kernel
  exact of_decide_eq_true (List.all_eq_true.mp h w hw), tyX1_ok, nmX1, by decide +kernel⟩
theorem ck_2 : ClsOk 2 RX2 TX2 tyX2 5 := ⟨by decide, rfl, fun w hw => by
  have h : (wsX20.all fun w => decide (w ∈ TBL)) = true := by decide +kernel
  exact of_decide_eq_true (List.all_eq_true.mp h w hw), tyX2_ok, nmX2, by decide +kernel⟩
theorem ck_3 : ClsOk 3 RX3 TX3 tyX3 11 := ⟨by decide, rfl, fun w hw => by
  have h : (wsX30.all fun w => decide (w ∈ TBL)) = true := by decide +kernel
  exact of_decide_eq_true (List.all_eq_true.mp h w hw), tyX3_ok, nmX3, by decide +kernel⟩
theorem ck_4 : ClsOk 4 RX4 TX4 tyX4 2 := ⟨by decide, rfl, fun w hw => by
  have h : (wsX40.all fun w => decide (w ∈ TBL)) = true := by decide +kernel
  exact of_decide_eq_true (List.all_eq_true.mp h w hw), tyX4_ok, nmX4, by decide +kernel⟩
theorem ck_5 : ClsOk 5 RX5 TX5 tyX5 2 := ⟨by decide, rfl, fun w hw => by
  have h : (wsX50.all fun w => decide (w ∈ TBL)) = true := by decide +kernel
  exact of_decide_eq_true (List.all_eq_true.mp h w hw), tyX5_ok, nmX5, by decide +kernel⟩
theorem ck_6 : ClsOk 6 RX6 TX6 tyX6 7 := ⟨by decide, rfl, fun w hw => by
  have h : (wsX60.all fun w => decide (w ∈ TBL)) = true := by decide +kernel
  exact of_decide_eq_true (List.all_eq_true.mp h w hw), tyX6_ok, nmX6, by decide +kernel⟩
theorem ck_7 : ClsOk 7 RX7 TX7 tyX7 5 := ⟨by decide, rfl, fun w hw => by
  have h : (wsX70.all fun w => decide (w ∈ TBL)) = true := by decide +kernel
  exact of_decide_eq_true (List.all_eq_true.mp h w hw), tyX7_ok, nmX7, by decide +kernel⟩
theorem ck_8 : ClsOk 8 RX8 TX8 tyX8 8 := ⟨by decide, rfl, fun w hw => by
  have h : (wsX80.all fun w => decide (w ∈ TBL)) = true := by decide +kernel
  exact of_decide_eq_true (List.all_eq_true.mp h w hw), tyX8_ok, nmX8, by decide +kernel⟩
theorem ck_9 : ClsOk 9 RX9 TX9 tyX9 28 := ⟨by decide, rfl, fun w hw => by
  have h : (wsX90.all fun w => decide (w ∈ TBL)) = true := by decide +kernel
  exact of_decide_eq_true (List.all_eq_true.mp h w hw), tyX9_ok, nmX9, by decide +kernel⟩
/-- guards, and what a function's answer says of the machine's -/
abbrev inR (i : Int32) (n : Nat) : Prop := ¬ (i < 0 ∨ n ≤ i.toNatClampNeg)
def gd {α : Type} (c : Prop) [Decidable c] (x : Option α) : Option α := if c then x else none
theorem gd_e {α : Type} {c : Prop} [Decidable c] {x : Option α} {r : α} (h : gd c x = some r) : c ∧ x = some r := by
  unfold gd at h
  by_cases hc : c
  · rw [if_pos hc] at h; exact ⟨hc, h⟩
  · rw [if_neg hc] at h; cases h
theorem bd_e {α β : Type} {o : Option α} {f : α → Option β} {r : β} (h : o.bind f = some r) : ∃ v, o = some v ∧ f v = some r := Option.bind_eq_some_iff.mp h
def FU : Nat := 20000
def PostI (r : Int32) (M1 : Mem) : Option Value → Mem → Prop := fun v M' => v = some (.int r) ∧ M' = M1 ∧ St M1
def PostZ (r : Int32) (M1 : Mem) : Option Value → Mem → Prop := fun v M' => (v = some (.int r) ∧ M' = M1 ∧ St M1) ∧ (r = 0 ∨ r = 1)
def PostL (r : Int64) (M1 : Mem) : Option Value → Mem → Prop := fun v M' => v = some (.long r) ∧ M' = M1 ∧ St M1
def PostV (M1 : Mem) : Option Value → Mem → Prop := fun v M' => v = none ∧ M' = M1 ∧ St M1
theorem ti {x : Int32} (y : Int32) (k : Int) (hk : y.toInt = k) (h : ¬ x = y) : x.toInt ≠ k := fun e => h (Int32.toInt_inj.mp (e.trans hk.symm))
theorem inlt {i : Int32} {n : Nat} (h : inR i n) : i.toNatClampNeg < n := Nat.not_le.mp fun q => h (Or.inr q)
theorem G.cvI {Z : Sys} {X : Cx} {Y : My} {ex : Prop} {cells slots : Nat} {loc : List (Nat × Value)} {rest : List Value} {M : Mem} (pc : Nat) {ci N b : Nat} {C : String} {T : u_T} {ty : Nat → FieldType} {idx maxL : Nat} {y : MethodName} {cc : ByteArray} {ret : Option FieldType} {rm R : Room} {As stk : List Value} {r : Int32} {M1 : Mem} (hc : ClsOk ci C T ty N) (hb : (mK M)[b]? = some (ci, N)) (hct : Ct Z y cc maxL ret rm (.ref (zs Z + b) :: As) M ex (PostI r M1)) (hm : MOk y cc maxL ret As.length) (hv : VOk y) (hyC : y.cls = C) (w1 : Cond.methodLink Y.2.1 idx y ∈ TBL) (hR : xR X = R) (hr : RmOk R cells slots maxL rm) (hz : rm.cells = 0 ∧ rm.slots = 0) (hst : As.reverse ++ .ref (zs Z + b) :: rest = stk) (hrest : (rest.map fun v => v.category).sum ≤ 8) (hd : decode Y.1 pc = .ok (.invokevirtual idx, 3)) (kk : St M1 → G Z X Y ex cells slots (pc + 3) loc (.int r :: rest) M1) : G Z X Y ex cells slots pc loc stk M := G.callV pc hc hb hct hm hv hyC w1 hR hr hst hrest hd (fun v M' hp => by
  rw [hz.1, hz.2]
  show G Z X Y ex cells slots _ _ _ _
  obtain ⟨rfl, rfl, h1⟩ := hp
  exact kk h1)
theorem G.csI {Z : Sys} {X : Cx} {Y : My} {ex : Prop} {cells slots : Nat} {loc : List (Nat × Value)} {rest : List Value} {M : Mem} (pc : Nat) {idx maxL : Nat} {y : MethodName} {cc : ByteArray} {ret : Option FieldType} {rm R : Room} {As stk : List Value} {r : Int32} {M1 : Mem} (hct : Ct Z y cc maxL ret rm As M ex (PostI r M1)) (hm : MOk y cc maxL ret As.length) (hs : Cond.static y ∈ TBL) (w1 : Cond.methodLink Y.2.1 idx y ∈ TBL) (hR : xR X = R) (hr : RmOk R cells slots maxL rm) (hz : rm.cells = 0 ∧ rm.slots = 0) (hst : As.reverse ++ rest = stk) (hrest : (rest.map fun v => v.category).sum ≤ 8) (hd : decode Y.1 pc = .ok (.invokestatic idx, 3)) (kk : St M1 → G Z X Y ex cells slots (pc + 3) loc (.int r :: rest) M1) : G Z X Y ex cells slots pc loc stk M := G.callS pc hct hm hs w1 hR hr hst hrest hd (fun v M' hp => by
  rw [hz.1, hz.2]
  show G Z X Y ex cells slots _ _ _ _
  obtain ⟨rfl, rfl, h1⟩ := hp
  exact kk h1)
theorem G.cnI {Z : Sys} {X : Cx} {Y : My} {ex : Prop} {cells slots : Nat} {loc : List (Nat × Value)} {rest : List Value} {M : Mem} (pc : Nat) {host : String} {idx maxL : Nat} {y : MethodName} {cc : ByteArray} {ret : Option FieldType} {rm R : Room} {As stk : List Value} {r : Int32} {M1 : Mem} (hct : Ct Z y cc maxL ret rm As M ex (PostI r M1)) (hm : MOk y cc maxL ret As.length) (hs : Cond.static y ∈ TBL) (w1 : Cond.methodLinkNest Y.2.1 idx y host ∈ NST) (hR : xR X = R) (hr : RmOk R cells slots maxL rm) (hz : rm.cells = 0 ∧ rm.slots = 0) (hst : As.reverse ++ rest = stk) (hrest : (rest.map fun v => v.category).sum ≤ 8) (hd : decode Y.1 pc = .ok (.invokestatic idx, 3)) (kk : St M1 → G Z X Y ex cells slots (pc + 3) loc (.int r :: rest) M1) : G Z X Y ex cells slots pc loc stk M := G.callSN pc hct hm hs w1 hR hr hst hrest hd (fun v M' hp => by
  rw [hz.1, hz.2]
  show G Z X Y ex cells slots _ _ _ _
  obtain ⟨rfl, rfl, h1⟩ := hp
  exact kk h1)
theorem G.cvZ {Z : Sys} {X : Cx} {Y : My} {ex : Prop} {cells slots : Nat} {loc : List (Nat × Value)} {rest : List Value} {M : Mem} (pc : Nat) {ci N b : Nat} {C : String} {T : u_T} {ty : Nat → FieldType} {idx maxL : Nat} {y : MethodName} {cc : ByteArray} {ret : Option FieldType} {rm R : Room} {As stk : List Value} {r : Int32} {M1 : Mem} (hc : ClsOk ci C T ty N) (hb : (mK M)[b]? = some (ci, N)) (hct : Ct Z y cc maxL ret rm (.ref (zs Z + b) :: As) M ex (PostZ r M1)) (hm : MOk y cc maxL ret As.length) (hv : VOk y) (hyC : y.cls = C) (w1 : Cond.methodLink Y.2.1 idx y ∈ TBL) (hR : xR X = R) (hr : RmOk R cells slots maxL rm) (hz : rm.cells = 0 ∧ rm.slots = 0) (hst : As.reverse ++ .ref (zs Z + b) :: rest = stk) (hrest : (rest.map fun v => v.category).sum ≤ 8) (hd : decode Y.1 pc = .ok (.invokevirtual idx, 3)) (kk : St M1 → (r = 0 ∨ r = 1) → G Z X Y ex cells slots (pc + 3) loc (.int r :: rest) M1) : G Z X Y ex cells slots pc loc stk M := G.callV pc hc hb hct hm hv hyC w1 hR hr hst hrest hd (fun v M' hp => by
  rw [hz.1, hz.2]
  show G Z X Y ex cells slots _ _ _ _
  obtain ⟨⟨rfl, rfl, h1⟩, h2⟩ := hp
  exact kk h1 h2)
theorem G.csZ {Z : Sys} {X : Cx} {Y : My} {ex : Prop} {cells slots : Nat} {loc : List (Nat × Value)} {rest : List Value} {M : Mem} (pc : Nat) {idx maxL : Nat} {y : MethodName} {cc : ByteArray} {ret : Option FieldType} {rm R : Room} {As stk : List Value} {r : Int32} {M1 : Mem} (hct : Ct Z y cc maxL ret rm As M ex (PostZ r M1)) (hm : MOk y cc maxL ret As.length) (hs : Cond.static y ∈ TBL) (w1 : Cond.methodLink Y.2.1 idx y ∈ TBL) (hR : xR X = R) (hr : RmOk R cells slots maxL rm) (hz : rm.cells = 0 ∧ rm.slots = 0) (hst : As.reverse ++ rest = stk) (hrest : (rest.map fun v => v.category).sum ≤ 8) (hd : decode Y.1 pc = .ok (.invokestatic idx, 3)) (kk : St M1 → (r = 0 ∨ r = 1) → G Z X Y ex cells slots (pc + 3) loc (.int r :: rest) M1) : G Z X Y ex cells slots pc loc stk M := G.callS pc hct hm hs w1 hR hr hst hrest hd (fun v M' hp => by
  rw [hz.1, hz.2]
  show G Z X Y ex cells slots _ _ _ _
  obtain ⟨⟨rfl, rfl, h1⟩, h2⟩ := hp
  exact kk h1 h2)
theorem G.cnZ {Z : Sys} {X : Cx} {Y : My} {ex : Prop} {cells slots : Nat} {loc : List (Nat × Value)} {rest : List Value} {M : Mem} (pc : Nat) {host : String} {idx maxL : Nat} {y : MethodName} {cc : ByteArray} {ret : Option FieldType} {rm R : Room} {As stk : List Value} {r : Int32} {M1 : Mem} (hct : Ct Z y cc maxL ret rm As M ex (PostZ r M1)) (hm : MOk y cc maxL ret As.length) (hs : Cond.static y ∈ TBL) (w1 : Cond.methodLinkNest Y.2.1 idx y host ∈ NST) (hR : xR X = R) (hr : RmOk R cells slots maxL rm) (hz : rm.cells = 0 ∧ rm.slots = 0) (hst : As.reverse ++ rest = stk) (hrest : (rest.map fun v => v.category).sum ≤ 8) (hd : decode Y.1 pc = .ok (.invokestatic idx, 3)) (kk : St M1 → (r = 0 ∨ r = 1) → G Z X Y ex cells slots (pc + 3) loc (.int r :: rest) M1) : G Z X Y ex cells slots pc loc stk M := G.callSN pc hct hm hs w1 hR hr hst hrest hd (fun v M' hp => by
  rw [hz.1, hz.2]
  show G Z X Y ex cells slots _ _ _ _
  obtain ⟨⟨rfl, rfl, h1⟩, h2⟩ := hp
  exact kk h1 h2)
theorem G.cvL {Z : Sys} {X : Cx} {Y : My} {ex : Prop} {cells slots : Nat} {loc : List (Nat × Value)} {rest : List Value} {M : Mem} (pc : Nat) {ci N b : Nat} {C : String} {T : u_T} {ty : Nat → FieldType} {idx maxL : Nat} {y : MethodName} {cc : ByteArray} {ret : Option FieldType} {rm R : Room} {As stk : List Value} {r : Int64} {M1 : Mem} (hc : ClsOk ci C T ty N) (hb : (mK M)[b]? = some (ci, N)) (hct : Ct Z y cc maxL ret rm (.ref (zs Z + b) :: As) M ex (PostL r M1)) (hm : MOk y cc maxL ret As.length) (hv : VOk y) (hyC : y.cls = C) (w1 : Cond.methodLink Y.2.1 idx y ∈ TBL) (hR : xR X = R) (hr : RmOk R cells slots maxL rm) (hz : rm.cells = 0 ∧ rm.slots = 0) (hst : As.reverse ++ .ref (zs Z + b) :: rest = stk) (hrest : (rest.map fun v => v.category).sum ≤ 8) (hd : decode Y.1 pc = .ok (.invokevirtual idx, 3)) (kk : St M1 → G Z X Y ex cells slots (pc + 3) loc (.long r :: rest) M1) : G Z X Y ex cells slots pc loc stk M := G.callV pc hc hb hct hm hv hyC w1 hR hr hst hrest hd (fun v M' hp => by
  rw [hz.1, hz.2]
  show G Z X Y ex cells slots _ _ _ _
  obtain ⟨rfl, rfl, h1⟩ := hp
  exact kk h1)
theorem G.csL {Z : Sys} {X : Cx} {Y : My} {ex : Prop} {cells slots : Nat} {loc : List (Nat × Value)} {rest : List Value} {M : Mem} (pc : Nat) {idx maxL : Nat} {y : MethodName} {cc : ByteArray} {ret : Option FieldType} {rm R : Room} {As stk : List Value} {r : Int64} {M1 : Mem} (hct : Ct Z y cc maxL ret rm As M ex (PostL r M1)) (hm : MOk y cc maxL ret As.length) (hs : Cond.static y ∈ TBL) (w1 : Cond.methodLink Y.2.1 idx y ∈ TBL) (hR : xR X = R) (hr : RmOk R cells slots maxL rm) (hz : rm.cells = 0 ∧ rm.slots = 0) (hst : As.reverse ++ rest = stk) (hrest : (rest.map fun v => v.category).sum ≤ 8) (hd : decode Y.1 pc = .ok (.invokestatic idx, 3)) (kk : St M1 → G Z X Y ex cells slots (pc + 3) loc (.long r :: rest) M1) : G Z X Y ex cells slots pc loc stk M := G.callS pc hct hm hs w1 hR hr hst hrest hd (fun v M' hp => by
  rw [hz.1, hz.2]
  show G Z X Y ex cells slots _ _ _ _
  obtain ⟨rfl, rfl, h1⟩ := hp
  exact kk h1)
theorem G.cnL {Z : Sys} {X : Cx} {Y : My} {ex : Prop} {cells slots : Nat} {loc : List (Nat × Value)} {rest : List Value} {M : Mem} (pc : Nat) {host : String} {idx maxL : Nat} {y : MethodName} {cc : ByteArray} {ret : Option FieldType} {rm R : Room} {As stk : List Value} {r : Int64} {M1 : Mem} (hct : Ct Z y cc maxL ret rm As M ex (PostL r M1)) (hm : MOk y cc maxL ret As.length) (hs : Cond.static y ∈ TBL) (w1 : Cond.methodLinkNest Y.2.1 idx y host ∈ NST) (hR : xR X = R) (hr : RmOk R cells slots maxL rm) (hz : rm.cells = 0 ∧ rm.slots = 0) (hst : As.reverse ++ rest = stk) (hrest : (rest.map fun v => v.category).sum ≤ 8) (hd : decode Y.1 pc = .ok (.invokestatic idx, 3)) (kk : St M1 → G Z X Y ex cells slots (pc + 3) loc (.long r :: rest) M1) : G Z X Y ex cells slots pc loc stk M := G.callSN pc hct hm hs w1 hR hr hst hrest hd (fun v M' hp => by
  rw [hz.1, hz.2]
  show G Z X Y ex cells slots _ _ _ _
  obtain ⟨rfl, rfl, h1⟩ := hp
  exact kk h1)
theorem G.cvV {Z : Sys} {X : Cx} {Y : My} {ex : Prop} {cells slots : Nat} {loc : List (Nat × Value)} {rest : List Value} {M : Mem} (pc : Nat) {ci N b : Nat} {C : String} {T : u_T} {ty : Nat → FieldType} {idx maxL : Nat} {y : MethodName} {cc : ByteArray} {ret : Option FieldType} {rm R : Room} {As stk : List Value}  {M1 : Mem} (hc : ClsOk ci C T ty N) (hb : (mK M)[b]? = some (ci, N)) (hct : Ct Z y cc maxL ret rm (.ref (zs Z + b) :: As) M ex (PostV M1)) (hm : MOk y cc maxL ret As.length) (hv : VOk y) (hyC : y.cls = C) (w1 : Cond.methodLink Y.2.1 idx y ∈ TBL) (hR : xR X = R) (hr : RmOk R cells slots maxL rm) (hz : rm.cells = 0 ∧ rm.slots = 0) (hst : As.reverse ++ .ref (zs Z + b) :: rest = stk) (hrest : (rest.map fun v => v.category).sum ≤ 8) (hd : decode Y.1 pc = .ok (.invokevirtual idx, 3)) (kk : St M1 → G Z X Y ex cells slots (pc + 3) loc rest M1) : G Z X Y ex cells slots pc loc stk M := G.callV pc hc hb hct hm hv hyC w1 hR hr hst hrest hd (fun v M' hp => by
  rw [hz.1, hz.2]
  show G Z X Y ex cells slots _ _ _ _
  obtain ⟨rfl, rfl, h1⟩ := hp
  exact kk h1)
theorem G.csV {Z : Sys} {X : Cx} {Y : My} {ex : Prop} {cells slots : Nat} {loc : List (Nat × Value)} {rest : List Value} {M : Mem} (pc : Nat) {idx maxL : Nat} {y : MethodName} {cc : ByteArray} {ret : Option FieldType} {rm R : Room} {As stk : List Value}  {M1 : Mem} (hct : Ct Z y cc maxL ret rm As M ex (PostV M1)) (hm : MOk y cc maxL ret As.length) (hs : Cond.static y ∈ TBL) (w1 : Cond.methodLink Y.2.1 idx y ∈ TBL) (hR : xR X = R) (hr : RmOk R cells slots maxL rm) (hz : rm.cells = 0 ∧ rm.slots = 0) (hst : As.reverse ++ rest = stk) (hrest : (rest.map fun v => v.category).sum ≤ 8) (hd : decode Y.1 pc = .ok (.invokestatic idx, 3)) (kk : St M1 → G Z X Y ex cells slots (pc + 3) loc rest M1) : G Z X Y ex cells slots pc loc stk M := G.callS pc hct hm hs w1 hR hr hst hrest hd (fun v M' hp => by
  rw [hz.1, hz.2]
  show G Z X Y ex cells slots _ _ _ _
  obtain ⟨rfl, rfl, h1⟩ := hp
  exact kk h1)
theorem G.cnV {Z : Sys} {X : Cx} {Y : My} {ex : Prop} {cells slots : Nat} {loc : List (Nat × Value)} {rest : List Value} {M : Mem} (pc : Nat) {host : String} {idx maxL : Nat} {y : MethodName} {cc : ByteArray} {ret : Option FieldType} {rm R : Room} {As stk : List Value}  {M1 : Mem} (hct : Ct Z y cc maxL ret rm As M ex (PostV M1)) (hm : MOk y cc maxL ret As.length) (hs : Cond.static y ∈ TBL) (w1 : Cond.methodLinkNest Y.2.1 idx y host ∈ NST) (hR : xR X = R) (hr : RmOk R cells slots maxL rm) (hz : rm.cells = 0 ∧ rm.slots = 0) (hst : As.reverse ++ rest = stk) (hrest : (rest.map fun v => v.category).sum ≤ 8) (hd : decode Y.1 pc = .ok (.invokestatic idx, 3)) (kk : St M1 → G Z X Y ex cells slots (pc + 3) loc rest M1) : G Z X Y ex cells slots pc loc stk M := G.callSN pc hct hm hs w1 hR hr hst hrest hd (fun v M' hp => by
  rw [hz.1, hz.2]
  show G Z X Y ex cells slots _ _ _ _
  obtain ⟨rfl, rfl, h1⟩ := hp
  exact kk h1)
section RT
variable {Z : Sys} {X : Cx} {Y : My} {ex : Prop} {cells slots : Nat} {loc : List (Nat × Value)} {rest : List Value} {M : Mem}
theorem G.rI (pc : Nat) {r : Int32} (hq : RetOk Z X (some .int) ex (PostI r M) cells slots) (hd : decode Y.1 pc = .ok (.ireturn, 1)) (hs : St M) : G Z X Y ex cells slots pc loc [.int r] M := G.iret pc hq hd ⟨rfl, rfl, hs⟩
theorem G.rZ (pc : Nat) {r : Int32} (hq : RetOk Z X (some .boolean) ex (PostZ r M) cells slots) (hd : decode Y.1 pc = .ok (.ireturn, 1)) (hs : St M) (hz : r = 0 ∨ r = 1) : G Z X Y ex cells slots pc loc [.int r] M := G.zret pc hq hz hd ⟨⟨rfl, rfl, hs⟩, hz⟩
theorem G.rL (pc : Nat) {r : Int64} (hq : RetOk Z X (some .long) ex (PostL r M) cells slots) (hd : decode Y.1 pc = .ok (.lreturn, 1)) (hs : St M) : G Z X Y ex cells slots pc loc [.long r] M := G.lret pc hq hd ⟨rfl, rfl, hs⟩
theorem G.rV (pc : Nat) (hq : RetOk Z X none ex (PostV M) cells slots) (hd : decode Y.1 pc = .ok (.return_, 1)) (hs : St M) : G Z X Y ex cells slots pc loc [] M := G.vret pc hq hd ⟨rfl, rfl, hs⟩
theorem G.ia (pc j : Nat) {a n : Nat} {i : Int32} (hk : (mK M)[a]? = some (10, n)) (hin : inR i n) (hj : i.toNatClampNeg = j) (hd : decode Y.1 pc = .ok (.iaload, 1)) (kk : G Z X Y ex cells slots (pc + 1) loc (.int (mI M a j) :: rest) M) : G Z X Y ex cells slots pc loc (.int i :: .ref (zs Z + a) :: rest) M := by subst hj; exact G.iald pc hk hin hd kk
theorem G.za (pc j : Nat) {a n : Nat} {i : Int32} (hk : (mK M)[a]? = some (11, n)) (hin : inR i n) (hj : i.toNatClampNeg = j) (hd : decode Y.1 pc = .ok (.baload, 1)) (kk : G Z X Y ex cells slots (pc + 1) loc (.int (mI M a j) :: rest) M) : G Z X Y ex cells slots pc loc (.int i :: .ref (zs Z + a) :: rest) M := by subst hj; exact G.zald pc hk hin hd kk
theorem G.ist (pc j : Nat) {a n : Nat} {i x : Int32} (hk : (mK M)[a]? = some (10, n)) (hin : inR i n) (hj : i.toNatClampNeg = j) (hd : decode Y.1 pc = .ok (.iastore, 1)) (kk : G Z X Y ex cells slots (pc + 1) loc rest (sI M a j x)) : G Z X Y ex cells slots pc loc (.int x :: .int i :: .ref (zs Z + a) :: rest) M := by subst hj; exact G.iast pc hk hin hd kk
theorem G.zt (pc j : Nat) (w : Int32) {a n : Nat} {i x : Int32} (hk : (mK M)[a]? = some (11, n)) (hin : inR i n) (hj : i.toNatClampNeg = j) (hw : vp_nar .boolean x = w) (hd : decode Y.1 pc = .ok (.bastore, 1)) (kk : G Z X Y ex cells slots (pc + 1) loc rest (sI M a j w)) : G Z X Y ex cells slots pc loc (.int x :: .int i :: .ref (zs Z + a) :: rest) M := by subst hj; subst hw; exact G.zast pc hk hin hd kk
theorem G.aa (pc j : Nat) {a n t : Nat} {ft : FieldType} {i : Int32} (r : Nat) (hk : (mK M)[a]? = some (t, n)) (ht : 13 ≤ t) (htt : (tysZ Z)[t - 10]? = some (zA Z t, ft)) (hft : ft.isReference = true) (hin : inR i n) (hj : i.toNatClampNeg = j) (hp : mP M a j = some r) (hd : decode Y.1 pc = .ok (.aaload, 1)) (kk : G Z X Y ex cells slots (pc + 1) loc (.ref (zs Z + r) :: rest) M) : G Z X Y ex cells slots pc loc (.int i :: .ref (zs Z + a) :: rest) M := by subst hj; exact G.aald pc r hk ht htt hft hin hp hd kk
end RT
end
section
/-! small functions of the machine's arithmetic, rows with them; switches; the group of recursive methods -/
def jrem (x y : Int32) : Int32 := x - x / y * y
def jmax (x y : Int32) : Int32 := if x < y then y else x
def jmin (x y : Int32) : Int32 := if y < x then y else x
def jabs (x : Int32) : Int32 := if 0 ≤ x then x else 0 - x
def jushr (x y : Int32) : Int32 := (x.toUInt32 >>> (y.toUInt32 &&& Int32.toUInt32 31)).toInt32
theorem nz_ok {v : Int32} (h : v = 0 ∨ v = 1) : narrow .boolean (.int v) = .int v := by rcases h with rfl | rfl <;> rfl
theorem ln_k {a t n : Nat} (h : K0[a]? = some (t, n)) : K0[a]? = some (t, ln a) := by rw [ln_of h]; exact h
theorem lk_d {l : List (Int × Int)} {d k : Int} (h : ∀ a ∈ l.map (fun q => q.1), k ≠ a) : Op.lookupswitch.offset l d k = d := by
  induction l with
  | nil => rfl
  | cons p r ih =>
    obtain ⟨b, q⟩ := p
    show (if b = k then q else Op.lookupswitch.offset r d k) = d
    rw [if_neg (fun e => h b (by simp) e.symm)]
    exact ih (fun a ha => h a (by simp only [List.map_cons, List.mem_cons]; exact Or.inr ha))
section PROWS
variable {Z : Sys} {X : Cx} {Y : My} {ex : Prop} {cells slots : Nat} {loc loc' : List (Nat × Value)} {rest : List Value} {M : Mem}
theorem G.iremJ (pc : Nat) {x y : Int32} (hd : decode Y.1 pc = .ok (.irem, 1)) (hne : ¬ y = 0) (k : G Z X Y ex cells slots (pc + 1) loc (.int (jrem x y) :: rest) M) : G Z X Y ex cells slots pc loc (.int y :: .int x :: rest) M := G.irem pc hd hne k
theorem G.iushr (pc : Nat) {x y : Int32} (hd : decode Y.1 pc = .ok (.iushr, 1)) (k : G Z X Y ex cells slots (pc + 1) loc (.int (jushr x y) :: rest) M) : G Z X Y ex cells slots pc loc (.int y :: .int x :: rest) M := fun O ls H locs hl hP hS => lv_iushr O.1 O.2.1 hd rfl (k O ls H locs hl hP hS)
theorem G.mmaxJ (pc : Nat) {idx : Nat} {x y : Int32} (w1 : Cond.methodLink Y.2.1 idx Lib.Math.max.name ∈ TBL) (w2 : Cond.static Lib.Math.max.name ∈ TBL) (w3 : Cond.initialized "java/lang/Math" ∈ TBL) (w4 : Cond.code Lib.Math.max.name Lib.Math.max.code 2 (some .int) ∈ TBL) {R : Room} (hR : xR X = R) (hr : 1 ≤ R.frames ∧ (rest.map fun v => v.category).sum + 13 ≤ R.locals ∧ cells ≤ R.cells ∧ slots ≤ R.slots) (hd : decode Y.1 pc = .ok (.invokestatic idx, 3)) (kk : G Z X Y ex cells slots (pc + 3) loc (.int (jmax x y) :: rest) M) : G Z X Y ex cells slots pc loc (.int y :: .int x :: rest) M := G.mmax pc w1 w2 w3 w4 hR hr hd kk
theorem G.mminJ (pc : Nat) {idx : Nat} {x y : Int32} (w1 : Cond.methodLink Y.2.1 idx Lib.Math.min.name ∈ TBL) (w2 : Cond.static Lib.Math.min.name ∈ TBL) (w3 : Cond.initialized "java/lang/Math" ∈ TBL) (w4 : Cond.code Lib.Math.min.name Lib.Math.min.code 2 (some .int) ∈ TBL) {R : Room} (hR : xR X = R) (hr : 1 ≤ R.frames ∧ (rest.map fun v => v.category).sum + 13 ≤ R.locals ∧ cells ≤ R.cells ∧ slots ≤ R.slots) (hd : decode Y.1 pc = .ok (.invokestatic idx, 3)) (kk : G Z X Y ex cells slots (pc + 3) loc (.int (jmin x y) :: rest) M) : G Z X Y ex cells slots pc loc (.int y :: .int x :: rest) M := G.mmin pc w1 w2 w3 w4 hR hr hd kk
theorem G.mabsJ (pc : Nat) {idx : Nat} {x : Int32} (w1 : Cond.methodLink Y.2.1 idx Lib.Math.abs.name ∈ TBL) (w2 : Cond.static Lib.Math.abs.name ∈ TBL) (w3 : Cond.initialized "java/lang/Math" ∈ TBL) (w4 : Cond.code Lib.Math.abs.name Lib.Math.abs.code 1 (some .int) ∈ TBL) {R : Room} (hR : xR X = R) (hr : 1 ≤ R.frames ∧ (rest.map fun v => v.category).sum + 13 ≤ R.locals ∧ cells ≤ R.cells ∧ slots ≤ R.slots) (hd : decode Y.1 pc = .ok (.invokestatic idx, 3)) (kk : G Z X Y ex cells slots (pc + 3) loc (.int (jabs x) :: rest) M) : G Z X Y ex cells slots pc loc (.int x :: rest) M := G.mabs pc w1 w2 w3 w4 hR hr hd kk
end PROWS
/-- the room of a method of the group or, and, test, d levels deep -/
def rmP (d : Nat) : Room := { frames := 20 + 2 * d, cells := 0, slots := 0, locals := 1000 + 60 * d }
theorem rmP_r {d n : Nat} (h : n ≤ 20) : RmOk (rmP (d + 1)) 0 0 n (rmP d) := by
  refine ⟨?_, ?_, ?_, ?_⟩ <;> simp only [rmP] <;> omega
theorem rmP_c {d n : Nat} {rm : Room} (h : RmOk (rmP 0) 0 0 n rm) : RmOk (rmP (d + 1)) 0 0 n rm := by
  obtain ⟨h1, h2, h3, h4⟩ := h
  simp only [rmP] at h1 h2 h3 h4
  refine ⟨?_, ?_, ?_, ?_⟩ <;> simp only [rmP] <;> omega
def RecOk (Z : Sys) (d : Nat) (rec : Nat → Mem → Option (Int32 × Mem)) : Prop := ∀ (M : Mem), St M → ∀ q : Int32 × Mem, (rec 0 M = some q → Ct Z yX9_or cX9_or 3 (some .boolean) (rmP d) [.ref (zs Z + 284)] M False (PostZ q.1 q.2)) ∧ (rec 1 M = some q → Ct Z yX9_and cX9_and 3 (some .boolean) (rmP d) [.ref (zs Z + 284)] M False (PostZ q.1 q.2)) ∧ (rec 2 M = some q → Ct Z yX9_test cX9_test 4 (some .boolean) (rmP d) [.ref (zs Z + 284)] M False (PostZ q.1 q.2))
theorem RecOk.o {Z : Sys} {d : Nat} {rec : Nat → Mem → Option (Int32 × Mem)} (h : RecOk Z d rec) {M : Mem} (hs : St M) {q : Int32 × Mem} (e : rec 0 M = some q) : Ct Z yX9_or cX9_or 3 (some .boolean) (rmP d) [.ref (zs Z + 284)] M False (PostZ q.1 q.2) := (h M hs q).1 e
theorem RecOk.a {Z : Sys} {d : Nat} {rec : Nat → Mem → Option (Int32 × Mem)} (h : RecOk Z d rec) {M : Mem} (hs : St M) {q : Int32 × Mem} (e : rec 1 M = some q) : Ct Z yX9_and cX9_and 3 (some .boolean) (rmP d) [.ref (zs Z + 284)] M False (PostZ q.1 q.2) := (h M hs q).2.1 e
theorem RecOk.t {Z : Sys} {d : Nat} {rec : Nat → Mem → Option (Int32 × Mem)} (h : RecOk Z d rec) {M : Mem} (hs : St M) {q : Int32 × Mem} (e : rec 2 M = some q) : Ct Z yX9_test cX9_test 4 (some .boolean) (rmP d) [.ref (zs Z + 284)] M False (PostZ q.1 q.2) := (h M hs q).2.2 e
def DEP : Nat := 200
end
section
theorem wd_0 : Cond.selects RX5 yX5_madeOurs yX5_madeOurs ∈ TBL := List.mem_filter.mpr ⟨List.mem_append_left _ (List.mem_of_getElem? (i := 0) (by decide +kernel)), by decide +kernel⟩
theorem wd_1 : Cond.selects RX8 yX8_rowsRefusal yX8_rowsRefusal ∈ TBL := List.mem_filter.mpr ⟨List.mem_append_left _ (List.mem_of_getElem? (i := 1) (by decide +kernel)), by decide +kernel⟩
theorem wd_2 : Cond.selects RX6 yX6_leastNumber yX6_leastNumber ∈ TBL := List.mem_filter.mpr ⟨List.mem_append_left _ (List.mem_of_getElem? (i := 2) (by decide +kernel)), by decide +kernel⟩
theorem wd_3 : Cond.selects RX0 yX0_countFigures yX0_countFigures ∈ TBL := List.mem_filter.mpr ⟨List.mem_append_left _ (List.mem_of_getElem? (i := 3) (by decide +kernel)), by decide +kernel⟩
theorem wd_4 : Cond.selects RX0 yX0_putInOrder yX0_putInOrder ∈ TBL := List.mem_filter.mpr ⟨List.mem_append_left _ (List.mem_of_getElem? (i := 4) (by decide +kernel)), by decide +kernel⟩
theorem wd_5 : Cond.selects RX7 yX7_sharesIn yX7_sharesIn ∈ TBL := List.mem_filter.mpr ⟨List.mem_append_left _ (List.mem_of_getElem? (i := 5) (by decide +kernel)), by decide +kernel⟩
theorem wd_6 : Cond.selects RX0 yX0_mostFalling yX0_mostFalling ∈ TBL := List.mem_filter.mpr ⟨List.mem_append_left _ (List.mem_of_getElem? (i := 6) (by decide +kernel)), by decide +kernel⟩
theorem wd_7 : Cond.selects RX4 yX4_consider yX4_consider ∈ TBL := List.mem_filter.mpr ⟨List.mem_append_left _ (List.mem_of_getElem? (i := 7) (by decide +kernel)), by decide +kernel⟩
theorem wd_8 : Cond.selects RX0 yX0_unevenness yX0_unevenness ∈ TBL := List.mem_filter.mpr ⟨List.mem_append_left _ (List.mem_of_getElem? (i := 8) (by decide +kernel)), by decide +kernel⟩
theorem wd_9 : Cond.selects RX0 yX0_drawn yX0_drawn ∈ TBL := List.mem_filter.mpr ⟨List.mem_append_left _ (List.mem_of_getElem? (i := 9) (by decide +kernel)), by decide +kernel⟩
theorem wd_10 : Cond.selects RX8 yX8_textRefusal yX8_textRefusal ∈ TBL := List.mem_filter.mpr ⟨List.mem_append_left _ (List.mem_of_getElem? (i := 10) (by decide +kernel)), by decide +kernel⟩
theorem wd_11 : Cond.selects RX8 yX8_rowRefusal yX8_rowRefusal ∈ TBL := List.mem_filter.mpr ⟨List.mem_append_left _ (List.mem_of_getElem? (i := 11) (by decide +kernel)), by decide +kernel⟩
theorem wd_12 : Cond.selects RX2 yX2_goesOn yX2_goesOn ∈ TBL := List.mem_filter.mpr ⟨List.mem_append_left _ (List.mem_of_getElem? (i := 12) (by decide +kernel)), by decide +kernel⟩
theorem wd_13 : Cond.selects RX2 yX2_become yX2_become ∈ TBL := List.mem_filter.mpr ⟨List.mem_append_left _ (List.mem_of_getElem? (i := 13) (by decide +kernel)), by decide +kernel⟩
theorem wd_14 : Cond.selects RX2 yX2_beginsTest yX2_beginsTest ∈ TBL := List.mem_filter.mpr ⟨List.mem_append_left _ (List.mem_of_getElem? (i := 14) (by decide +kernel)), by decide +kernel⟩
theorem wd_15 : Cond.selects RX2 yX2_beginsAtom yX2_beginsAtom ∈ TBL := List.mem_filter.mpr ⟨List.mem_append_left _ (List.mem_of_getElem? (i := 15) (by decide +kernel)), by decide +kernel⟩
theorem wd_16 : Cond.selects RX2 yX2_addsDigit yX2_addsDigit ∈ TBL := List.mem_filter.mpr ⟨List.mem_append_left _ (List.mem_of_getElem? (i := 16) (by decide +kernel)), by decide +kernel⟩
theorem wd_17 : Cond.selects RX2 yX2_followsAtom yX2_followsAtom ∈ TBL := List.mem_filter.mpr ⟨List.mem_append_left _ (List.mem_of_getElem? (i := 17) (by decide +kernel)), by decide +kernel⟩
theorem wd_18 : Cond.selects RX2 yX2_followsTest yX2_followsTest ∈ TBL := List.mem_filter.mpr ⟨List.mem_append_left _ (List.mem_of_getElem? (i := 18) (by decide +kernel)), by decide +kernel⟩
theorem wd_19 : Cond.selects RX2 yX2_isWhole yX2_isWhole ∈ TBL := List.mem_filter.mpr ⟨List.mem_append_left _ (List.mem_of_getElem? (i := 19) (by decide +kernel)), by decide +kernel⟩
theorem wd_20 : Cond.selects RX3 yX3_beginGroup yX3_beginGroup ∈ TBL := List.mem_filter.mpr ⟨List.mem_append_left _ (List.mem_of_getElem? (i := 20) (by decide +kernel)), by decide +kernel⟩
theorem wd_21 : Cond.selects RX3 yX3_beginSum yX3_beginSum ∈ TBL := List.mem_filter.mpr ⟨List.mem_append_left _ (List.mem_of_getElem? (i := 21) (by decide +kernel)), by decide +kernel⟩
theorem wd_22 : Cond.selects RX3 yX3_beginProduct yX3_beginProduct ∈ TBL := List.mem_filter.mpr ⟨List.mem_append_left _ (List.mem_of_getElem? (i := 22) (by decide +kernel)), by decide +kernel⟩
theorem wd_23 : Cond.selects RX3 yX3_takeAtom yX3_takeAtom ∈ TBL := List.mem_filter.mpr ⟨List.mem_append_left _ (List.mem_of_getElem? (i := 23) (by decide +kernel)), by decide +kernel⟩
theorem wd_24 : Cond.selects RX3 yX3_takeDigit yX3_takeDigit ∈ TBL := List.mem_filter.mpr ⟨List.mem_append_left _ (List.mem_of_getElem? (i := 24) (by decide +kernel)), by decide +kernel⟩
theorem wd_25 : Cond.selects RX3 yX3_takeSign yX3_takeSign ∈ TBL := List.mem_filter.mpr ⟨List.mem_append_left _ (List.mem_of_getElem? (i := 25) (by decide +kernel)), by decide +kernel⟩
theorem wd_26 : Cond.selects RX3 yX3_endProduct yX3_endProduct ∈ TBL := List.mem_filter.mpr ⟨List.mem_append_left _ (List.mem_of_getElem? (i := 26) (by decide +kernel)), by decide +kernel⟩
theorem wd_27 : Cond.selects RX3 yX3_endTest yX3_endTest ∈ TBL := List.mem_filter.mpr ⟨List.mem_append_left _ (List.mem_of_getElem? (i := 27) (by decide +kernel)), by decide +kernel⟩
theorem wd_28 : Cond.selects RX3 yX3_compared yX3_compared ∈ TBL := List.mem_filter.mpr ⟨List.mem_append_left _ (List.mem_of_getElem? (i := 28) (by decide +kernel)), by decide +kernel⟩
theorem wd_29 : Cond.selects RX3 yX3_join yX3_join ∈ TBL := List.mem_filter.mpr ⟨List.mem_append_left _ (List.mem_of_getElem? (i := 29) (by decide +kernel)), by decide +kernel⟩
theorem wd_30 : Cond.selects RX3 yX3_takeJoint yX3_takeJoint ∈ TBL := List.mem_filter.mpr ⟨List.mem_append_left _ (List.mem_of_getElem? (i := 30) (by decide +kernel)), by decide +kernel⟩
theorem wd_31 : Cond.selects RX8 yX8_sheetRefusal yX8_sheetRefusal ∈ TBL := List.mem_filter.mpr ⟨List.mem_append_left _ (List.mem_of_getElem? (i := 31) (by decide +kernel)), by decide +kernel⟩
theorem wd_33 : Cond.selects RX9 yX9_isHall yX9_isHall ∈ TBL := List.mem_filter.mpr ⟨List.mem_append_left _ (List.mem_of_getElem? (i := 33) (by decide +kernel)), by decide +kernel⟩
theorem wd_34 : Cond.selects RX9 yX9_get yX9_get ∈ TBL := List.mem_filter.mpr ⟨List.mem_append_left _ (List.mem_of_getElem? (i := 34) (by decide +kernel)), by decide +kernel⟩
theorem wd_35 : Cond.selects RX9 yX9_becomes yX9_becomes ∈ TBL := List.mem_filter.mpr ⟨List.mem_append_left _ (List.mem_of_getElem? (i := 35) (by decide +kernel)), by decide +kernel⟩
theorem wd_36 : Cond.selects RX9 yX9_tellsCame yX9_tellsCame ∈ TBL := List.mem_filter.mpr ⟨List.mem_append_left _ (List.mem_of_getElem? (i := 36) (by decide +kernel)), by decide +kernel⟩
theorem wd_37 : Cond.selects RX9 yX9_tellsOurs yX9_tellsOurs ∈ TBL := List.mem_filter.mpr ⟨List.mem_append_left _ (List.mem_of_getElem? (i := 37) (by decide +kernel)), by decide +kernel⟩
theorem wd_38 : Cond.selects RX9 yX9_has yX9_has ∈ TBL := List.mem_filter.mpr ⟨List.mem_append_left _ (List.mem_of_getElem? (i := 38) (by decide +kernel)), by decide +kernel⟩
theorem wd_39 : Cond.selects RX9 yX9_share yX9_share ∈ TBL := List.mem_filter.mpr ⟨List.mem_append_left _ (List.mem_of_getElem? (i := 39) (by decide +kernel)), by decide +kernel⟩
theorem wd_40 : Cond.selects RX9 yX9_writes yX9_writes ∈ TBL := List.mem_filter.mpr ⟨List.mem_append_left _ (List.mem_of_getElem? (i := 40) (by decide +kernel)), by decide +kernel⟩
theorem wd_41 : Cond.selects RX9 yX9_there yX9_there ∈ TBL := List.mem_filter.mpr ⟨List.mem_append_left _ (List.mem_of_getElem? (i := 41) (by decide +kernel)), by decide +kernel⟩
theorem wd_42 : Cond.selects RX9 yX9_counts yX9_counts ∈ TBL := List.mem_filter.mpr ⟨List.mem_append_left _ (List.mem_of_getElem? (i := 42) (by decide +kernel)), by decide +kernel⟩
theorem wd_43 : Cond.selects RX9 yX9_hasFigure yX9_hasFigure ∈ TBL := List.mem_filter.mpr ⟨List.mem_append_left _ (List.mem_of_getElem? (i := 43) (by decide +kernel)), by decide +kernel⟩
theorem wd_44 : Cond.selects RX9 yX9_middleOf yX9_middleOf ∈ TBL := List.mem_filter.mpr ⟨List.mem_append_left _ (List.mem_of_getElem? (i := 44) (by decide +kernel)), by decide +kernel⟩
theorem wd_45 : Cond.selects RX9 yX9_leftOf yX9_leftOf ∈ TBL := List.mem_filter.mpr ⟨List.mem_append_left _ (List.mem_of_getElem? (i := 45) (by decide +kernel)), by decide +kernel⟩
theorem wd_46 : Cond.selects RX9 yX9_findWatched yX9_findWatched ∈ TBL := List.mem_filter.mpr ⟨List.mem_append_left _ (List.mem_of_getElem? (i := 46) (by decide +kernel)), by decide +kernel⟩
theorem wd_47 : Cond.selects RX9 yX9_costOf yX9_costOf ∈ TBL := List.mem_filter.mpr ⟨List.mem_append_left _ (List.mem_of_getElem? (i := 47) (by decide +kernel)), by decide +kernel⟩
theorem wd_48 : Cond.selects RX9 yX9_written yX9_written ∈ TBL := List.mem_filter.mpr ⟨List.mem_append_left _ (List.mem_of_getElem? (i := 48) (by decide +kernel)), by decide +kernel⟩
theorem wd_49 : Cond.selects RX9 yX9_sentUp yX9_sentUp ∈ TBL := List.mem_filter.mpr ⟨List.mem_append_left _ (List.mem_of_getElem? (i := 49) (by decide +kernel)), by decide +kernel⟩
theorem wd_50 : Cond.selects RX9 yX9_untrueAll yX9_untrueAll ∈ TBL := List.mem_filter.mpr ⟨List.mem_append_left _ (List.mem_of_getElem? (i := 50) (by decide +kernel)), by decide +kernel⟩
theorem wd_51 : Cond.selects RX9 yX9_untrueOf yX9_untrueOf ∈ TBL := List.mem_filter.mpr ⟨List.mem_append_left _ (List.mem_of_getElem? (i := 51) (by decide +kernel)), by decide +kernel⟩
theorem wd_52 : Cond.selects RX9 yX9_falls yX9_falls ∈ TBL := List.mem_filter.mpr ⟨List.mem_append_left _ (List.mem_of_getElem? (i := 52) (by decide +kernel)), by decide +kernel⟩
theorem wd_53 : Cond.selects RX9 yX9_findAgain yX9_findAgain ∈ TBL := List.mem_filter.mpr ⟨List.mem_append_left _ (List.mem_of_getElem? (i := 53) (by decide +kernel)), by decide +kernel⟩
theorem wd_54 : Cond.selects RX9 yX9_costAgain yX9_costAgain ∈ TBL := List.mem_filter.mpr ⟨List.mem_append_left _ (List.mem_of_getElem? (i := 54) (by decide +kernel)), by decide +kernel⟩
theorem wd_55 : Cond.selects RX9 yX9_worthAgain yX9_worthAgain ∈ TBL := List.mem_filter.mpr ⟨List.mem_append_left _ (List.mem_of_getElem? (i := 55) (by decide +kernel)), by decide +kernel⟩
theorem wd_56 : Cond.selects RX9 yX9_measureNow yX9_measureNow ∈ TBL := List.mem_filter.mpr ⟨List.mem_append_left _ (List.mem_of_getElem? (i := 56) (by decide +kernel)), by decide +kernel⟩
theorem wd_57 : Cond.selects RX9 yX9_squares yX9_squares ∈ TBL := List.mem_filter.mpr ⟨List.mem_append_left _ (List.mem_of_getElem? (i := 57) (by decide +kernel)), by decide +kernel⟩
theorem wd_58 : Cond.selects RX9 yX9_makes yX9_makes ∈ TBL := List.mem_filter.mpr ⟨List.mem_append_left _ (List.mem_of_getElem? (i := 58) (by decide +kernel)), by decide +kernel⟩
theorem wd_59 : Cond.selects RX9 yX9_hundredths yX9_hundredths ∈ TBL := List.mem_filter.mpr ⟨List.mem_append_left _ (List.mem_of_getElem? (i := 59) (by decide +kernel)), by decide +kernel⟩
theorem wd_60 : Cond.selects RX9 yX9_wrongRow yX9_wrongRow ∈ TBL := List.mem_filter.mpr ⟨List.mem_append_left _ (List.mem_of_getElem? (i := 60) (by decide +kernel)), by decide +kernel⟩
theorem wd_61 : Cond.selects RX9 yX9_faultOf yX9_faultOf ∈ TBL := List.mem_filter.mpr ⟨List.mem_append_left _ (List.mem_of_getElem? (i := 61) (by decide +kernel)), by decide +kernel⟩
theorem wd_62 : Cond.selects RX9 yX9_begins yX9_begins ∈ TBL := List.mem_filter.mpr ⟨List.mem_append_left _ (List.mem_of_getElem? (i := 62) (by decide +kernel)), by decide +kernel⟩
theorem wd_63 : Cond.selects RX9 yX9_sign yX9_sign ∈ TBL := List.mem_filter.mpr ⟨List.mem_append_left _ (List.mem_of_getElem? (i := 63) (by decide +kernel)), by decide +kernel⟩
theorem wd_64 : Cond.selects RX9 yX9_takes yX9_takes ∈ TBL := List.mem_filter.mpr ⟨List.mem_append_left _ (List.mem_of_getElem? (i := 64) (by decide +kernel)), by decide +kernel⟩
theorem wd_65 : Cond.selects RX9 yX9_or yX9_or ∈ TBL := List.mem_filter.mpr ⟨List.mem_append_left _ (List.mem_of_getElem? (i := 65) (by decide +kernel)), by decide +kernel⟩
theorem wd_66 : Cond.selects RX9 yX9_and yX9_and ∈ TBL := List.mem_filter.mpr ⟨List.mem_append_left _ (List.mem_of_getElem? (i := 66) (by decide +kernel)), by decide +kernel⟩
theorem wd_67 : Cond.selects RX9 yX9_test yX9_test ∈ TBL := List.mem_filter.mpr ⟨List.mem_append_left _ (List.mem_of_getElem? (i := 67) (by decide +kernel)), by decide +kernel⟩
theorem wd_68 : Cond.selects RX9 yX9_breaks yX9_breaks ∈ TBL := List.mem_filter.mpr ⟨List.mem_append_left _ (List.mem_of_getElem? (i := 68) (by decide +kernel)), by decide +kernel⟩
theorem wd_69 : Cond.selects RX9 yX9_sum_ yX9_sum_ ∈ TBL := List.mem_filter.mpr ⟨List.mem_append_left _ (List.mem_of_getElem? (i := 69) (by decide +kernel)), by decide +kernel⟩
theorem wd_70 : Cond.selects RX9 yX9_product yX9_product ∈ TBL := List.mem_filter.mpr ⟨List.mem_append_left _ (List.mem_of_getElem? (i := 70) (by decide +kernel)), by decide +kernel⟩
theorem wd_71 : Cond.selects RX9 yX9_atom yX9_atom ∈ TBL := List.mem_filter.mpr ⟨List.mem_append_left _ (List.mem_of_getElem? (i := 71) (by decide +kernel)), by decide +kernel⟩
theorem wd_72 : Cond.selects RX9 yX9_fieldOf yX9_fieldOf ∈ TBL := List.mem_filter.mpr ⟨List.mem_append_left _ (List.mem_of_getElem? (i := 72) (by decide +kernel)), by decide +kernel⟩
theorem wd_73 : Cond.selects RX9 yX9_markOf yX9_markOf ∈ TBL := List.mem_filter.mpr ⟨List.mem_append_left _ (List.mem_of_getElem? (i := 73) (by decide +kernel)), by decide +kernel⟩
theorem wd_74 : Cond.selects RX9 yX9_weightOf yX9_weightOf ∈ TBL := List.mem_filter.mpr ⟨List.mem_append_left _ (List.mem_of_getElem? (i := 74) (by decide +kernel)), by decide +kernel⟩
theorem wd_75 : Cond.selects RX9 yX9_wrongKept yX9_wrongKept ∈ TBL := List.mem_filter.mpr ⟨List.mem_append_left _ (List.mem_of_getElem? (i := 75) (by decide +kernel)), by decide +kernel⟩
theorem wd_77 : Cond.initialized RX8 ∈ TBL := List.mem_filter.mpr ⟨List.mem_append_right _ (List.mem_of_getElem? (i := 1) (by decide +kernel)), by decide +kernel⟩
theorem wd_78 : Cond.initialized RX0 ∈ TBL := List.mem_filter.mpr ⟨List.mem_append_right _ (List.mem_of_getElem? (i := 2) (by decide +kernel)), by decide +kernel⟩
theorem wd_79 : Cond.initialized RX3 ∈ TBL := List.mem_filter.mpr ⟨List.mem_append_right _ (List.mem_of_getElem? (i := 3) (by decide +kernel)), by decide +kernel⟩
theorem wd_80 : Cond.initialized RX1 ∈ TBL := List.mem_filter.mpr ⟨List.mem_append_right _ (List.mem_of_getElem? (i := 4) (by decide +kernel)), by decide +kernel⟩
theorem wd_81 : Cond.initialized RX5 ∈ TBL := List.mem_filter.mpr ⟨List.mem_append_right _ (List.mem_of_getElem? (i := 5) (by decide +kernel)), by decide +kernel⟩
theorem wd_82 : Cond.initialized RX7 ∈ TBL := List.mem_filter.mpr ⟨List.mem_append_right _ (List.mem_of_getElem? (i := 6) (by decide +kernel)), by decide +kernel⟩
theorem wd_83 : Cond.initialized RX4 ∈ TBL := List.mem_filter.mpr ⟨List.mem_append_right _ (List.mem_of_getElem? (i := 7) (by decide +kernel)), by decide +kernel⟩
theorem wd_84 : Cond.initialized RX2 ∈ TBL := List.mem_filter.mpr ⟨List.mem_append_right _ (List.mem_of_getElem? (i := 8) (by decide +kernel)), by decide +kernel⟩
theorem wd_85 : Cond.initialized RX6 ∈ TBL := List.mem_filter.mpr ⟨List.mem_append_right _ (List.mem_of_getElem? (i := 9) (by decide +kernel)), by decide +kernel⟩
theorem wd_86 : Cond.initialized RX9 ∈ TBL := List.mem_filter.mpr ⟨List.mem_append_right _ (List.mem_of_getElem? (i := 10) (by decide +kernel)), by decide +kernel⟩
theorem wd_87 : Cond.initialized RJ9 ∈ TBL := List.mem_filter.mpr ⟨List.mem_append_right _ (List.mem_of_getElem? (i := 11) (by decide +kernel)), by decide +kernel⟩
theorem wd_88 : Cond.initialized RJ7 ∈ TBL := List.mem_filter.mpr ⟨List.mem_append_right _ (List.mem_of_getElem? (i := 12) (by decide +kernel)), by decide +kernel⟩
theorem wd_89 : Cond.initialized RJ6 ∈ TBL := List.mem_filter.mpr ⟨List.mem_append_right _ (List.mem_of_getElem? (i := 13) (by decide +kernel)), by decide +kernel⟩
theorem wd_90 : Cond.initialized RJ10 ∈ TBL := List.mem_filter.mpr ⟨List.mem_append_right _ (List.mem_of_getElem? (i := 14) (by decide +kernel)), by decide +kernel⟩
theorem wd_127 : Cond.fieldLink RX3 9 "HallSheets$MarkTruth" "any" "[Z" ∈ TBL := List.mem_filter.mpr ⟨List.mem_append_right _ (List.mem_of_getElem? (i := 51) (by decide +kernel)), by decide +kernel⟩
theorem wd_128 : Cond.fieldLink RX3 15 "HallSheets$MarkTruth" "all" "[Z" ∈ TBL := List.mem_filter.mpr ⟨List.mem_append_right _ (List.mem_of_getElem? (i := 52) (by decide +kernel)), by decide +kernel⟩
theorem wd_129 : Cond.fieldLink RX3 18 "HallSheets$MarkTruth" "turned" "[Z" ∈ TBL := List.mem_filter.mpr ⟨List.mem_append_right _ (List.mem_of_getElem? (i := 53) (by decide +kernel)), by decide +kernel⟩
theorem wd_130 : Cond.fieldLink RX3 21 "HallSheets$MarkTruth" "depth" "I" ∈ TBL := List.mem_filter.mpr ⟨List.mem_append_right _ (List.mem_of_getElem? (i := 54) (by decide +kernel)), by decide +kernel⟩
theorem wd_131 : Cond.fieldLink RX3 111 "HallSheets$MarkTruth" "left" "I" ∈ TBL := List.mem_filter.mpr ⟨List.mem_append_right _ (List.mem_of_getElem? (i := 55) (by decide +kernel)), by decide +kernel⟩
theorem wd_132 : Cond.fieldLink RX3 31 "HallSheets$MarkTruth" "comparison" "I" ∈ TBL := List.mem_filter.mpr ⟨List.mem_append_right _ (List.mem_of_getElem? (i := 56) (by decide +kernel)), by decide +kernel⟩
theorem wd_133 : Cond.fieldLink RX3 93 "HallSheets$MarkTruth" "sum" "I" ∈ TBL := List.mem_filter.mpr ⟨List.mem_append_right _ (List.mem_of_getElem? (i := 57) (by decide +kernel)), by decide +kernel⟩
theorem wd_134 : Cond.fieldLink RX3 96 "HallSheets$MarkTruth" "adding" "I" ∈ TBL := List.mem_filter.mpr ⟨List.mem_append_right _ (List.mem_of_getElem? (i := 58) (by decide +kernel)), by decide +kernel⟩
theorem wd_135 : Cond.fieldLink RX3 102 "HallSheets$MarkTruth" "product" "I" ∈ TBL := List.mem_filter.mpr ⟨List.mem_append_right _ (List.mem_of_getElem? (i := 59) (by decide +kernel)), by decide +kernel⟩
theorem wd_136 : Cond.fieldLink RX3 105 "HallSheets$MarkTruth" "scaling" "I" ∈ TBL := List.mem_filter.mpr ⟨List.mem_append_right _ (List.mem_of_getElem? (i := 60) (by decide +kernel)), by decide +kernel⟩
theorem wd_137 : Cond.fieldLink RX3 34 "HallSheets$MarkTruth" "number" "I" ∈ TBL := List.mem_filter.mpr ⟨List.mem_append_right _ (List.mem_of_getElem? (i := 61) (by decide +kernel)), by decide +kernel⟩
theorem wd_174 : Cond.fieldLink RX5 9 "HallSheets$Sheet" "kind" "I" ∈ TBL := List.mem_filter.mpr ⟨List.mem_append_right _ (List.mem_of_getElem? (i := 98) (by decide +kernel)), by decide +kernel⟩
theorem wd_175 : Cond.fieldLink RX1 40 "HallSheets$Sheet" "kind" "I" ∈ TBL := List.mem_filter.mpr ⟨List.mem_append_right _ (List.mem_of_getElem? (i := 99) (by decide +kernel)), by decide +kernel⟩
theorem wd_176 : Cond.fieldLink RX8 84 "HallSheets$Sheet" "kind" "I" ∈ TBL := List.mem_filter.mpr ⟨List.mem_append_right _ (List.mem_of_getElem? (i := 100) (by decide +kernel)), by decide +kernel⟩
theorem wd_177 : Cond.fieldLink RX5 13 "HallSheets$Sheet" "number" "I" ∈ TBL := List.mem_filter.mpr ⟨List.mem_append_right _ (List.mem_of_getElem? (i := 101) (by decide +kernel)), by decide +kernel⟩
theorem wd_178 : Cond.fieldLink RX1 43 "HallSheets$Sheet" "number" "I" ∈ TBL := List.mem_filter.mpr ⟨List.mem_append_right _ (List.mem_of_getElem? (i := 102) (by decide +kernel)), by decide +kernel⟩
theorem wd_179 : Cond.fieldLink RX8 87 "HallSheets$Sheet" "number" "I" ∈ TBL := List.mem_filter.mpr ⟨List.mem_append_right _ (List.mem_of_getElem? (i := 103) (by decide +kernel)), by decide +kernel⟩
theorem wd_186 : Cond.fieldLink RX1 12 "HallSheets$Hall" "sheet" "LHallSheets$Sheet;" ∈ TBL := List.mem_filter.mpr ⟨List.mem_append_right _ (List.mem_of_getElem? (i := 110) (by decide +kernel)), by decide +kernel⟩
theorem wd_187 : Cond.fieldLink RX6 35 "HallSheets$Hall" "sheet" "LHallSheets$Sheet;" ∈ TBL := List.mem_filter.mpr ⟨List.mem_append_right _ (List.mem_of_getElem? (i := 111) (by decide +kernel)), by decide +kernel⟩
theorem wd_188 : Cond.fieldLink RX8 80 "HallSheets$Hall" "sheet" "LHallSheets$Sheet;" ∈ TBL := List.mem_filter.mpr ⟨List.mem_append_right _ (List.mem_of_getElem? (i := 112) (by decide +kernel)), by decide +kernel⟩
theorem wd_189 : Cond.fieldLink RX1 18 "HallSheets$Hall" "list" "I" ∈ TBL := List.mem_filter.mpr ⟨List.mem_append_right _ (List.mem_of_getElem? (i := 113) (by decide +kernel)), by decide +kernel⟩
theorem wd_190 : Cond.fieldLink RX8 66 "HallSheets$Hall" "list" "I" ∈ TBL := List.mem_filter.mpr ⟨List.mem_append_right _ (List.mem_of_getElem? (i := 114) (by decide +kernel)), by decide +kernel⟩
theorem wd_191 : Cond.fieldLink RX3 70 "HallSheets$Hall" "list" "I" ∈ TBL := List.mem_filter.mpr ⟨List.mem_append_right _ (List.mem_of_getElem? (i := 115) (by decide +kernel)), by decide +kernel⟩
theorem wd_192 : Cond.fieldLink RX0 89 "HallSheets$Hall" "list" "I" ∈ TBL := List.mem_filter.mpr ⟨List.mem_append_right _ (List.mem_of_getElem? (i := 116) (by decide +kernel)), by decide +kernel⟩
theorem wd_193 : Cond.fieldLink RX1 22 "HallSheets$Hall" "town" "I" ∈ TBL := List.mem_filter.mpr ⟨List.mem_append_right _ (List.mem_of_getElem? (i := 117) (by decide +kernel)), by decide +kernel⟩
theorem wd_194 : Cond.fieldLink RX4 48 "HallSheets$Hall" "town" "I" ∈ TBL := List.mem_filter.mpr ⟨List.mem_append_right _ (List.mem_of_getElem? (i := 118) (by decide +kernel)), by decide +kernel⟩
theorem wd_195 : Cond.fieldLink RX3 73 "HallSheets$Hall" "town" "I" ∈ TBL := List.mem_filter.mpr ⟨List.mem_append_right _ (List.mem_of_getElem? (i := 119) (by decide +kernel)), by decide +kernel⟩
theorem wd_196 : Cond.fieldLink RX0 131 "HallSheets$Hall" "town" "I" ∈ TBL := List.mem_filter.mpr ⟨List.mem_append_right _ (List.mem_of_getElem? (i := 120) (by decide +kernel)), by decide +kernel⟩
theorem wd_197 : Cond.fieldLink RX1 25 "HallSheets$Hall" "kin" "I" ∈ TBL := List.mem_filter.mpr ⟨List.mem_append_right _ (List.mem_of_getElem? (i := 121) (by decide +kernel)), by decide +kernel⟩
theorem wd_198 : Cond.fieldLink RX3 76 "HallSheets$Hall" "kin" "I" ∈ TBL := List.mem_filter.mpr ⟨List.mem_append_right _ (List.mem_of_getElem? (i := 122) (by decide +kernel)), by decide +kernel⟩
theorem wd_199 : Cond.fieldLink RX0 128 "HallSheets$Hall" "kin" "I" ∈ TBL := List.mem_filter.mpr ⟨List.mem_append_right _ (List.mem_of_getElem? (i := 123) (by decide +kernel)), by decide +kernel⟩
theorem wd_200 : Cond.fieldLink RX1 28 "HallSheets$Hall" "district" "I" ∈ TBL := List.mem_filter.mpr ⟨List.mem_append_right _ (List.mem_of_getElem? (i := 124) (by decide +kernel)), by decide +kernel⟩
theorem wd_201 : Cond.fieldLink RX3 79 "HallSheets$Hall" "district" "I" ∈ TBL := List.mem_filter.mpr ⟨List.mem_append_right _ (List.mem_of_getElem? (i := 125) (by decide +kernel)), by decide +kernel⟩
theorem wd_202 : Cond.fieldLink RX0 142 "HallSheets$Hall" "district" "I" ∈ TBL := List.mem_filter.mpr ⟨List.mem_append_right _ (List.mem_of_getElem? (i := 126) (by decide +kernel)), by decide +kernel⟩
theorem wd_203 : Cond.fieldLink RX1 31 "HallSheets$Hall" "earlier" "I" ∈ TBL := List.mem_filter.mpr ⟨List.mem_append_right _ (List.mem_of_getElem? (i := 127) (by decide +kernel)), by decide +kernel⟩
theorem wd_204 : Cond.fieldLink RX3 82 "HallSheets$Hall" "earlier" "I" ∈ TBL := List.mem_filter.mpr ⟨List.mem_append_right _ (List.mem_of_getElem? (i := 128) (by decide +kernel)), by decide +kernel⟩
theorem wd_205 : Cond.fieldLink RX8 177 "HallSheets$Hall" "earlier" "I" ∈ TBL := List.mem_filter.mpr ⟨List.mem_append_right _ (List.mem_of_getElem? (i := 129) (by decide +kernel)), by decide +kernel⟩
theorem wd_206 : Cond.fieldLink RX6 29 "HallSheets$Hall" "trueCame" "I" ∈ TBL := List.mem_filter.mpr ⟨List.mem_append_right _ (List.mem_of_getElem? (i := 130) (by decide +kernel)), by decide +kernel⟩
theorem wd_207 : Cond.fieldLink RX1 34 "HallSheets$Hall" "trueCame" "I" ∈ TBL := List.mem_filter.mpr ⟨List.mem_append_right _ (List.mem_of_getElem? (i := 131) (by decide +kernel)), by decide +kernel⟩
theorem wd_208 : Cond.fieldLink RX8 72 "HallSheets$Hall" "trueCame" "I" ∈ TBL := List.mem_filter.mpr ⟨List.mem_append_right _ (List.mem_of_getElem? (i := 132) (by decide +kernel)), by decide +kernel⟩
theorem wd_209 : Cond.fieldLink RX0 200 "HallSheets$Hall" "trueCame" "I" ∈ TBL := List.mem_filter.mpr ⟨List.mem_append_right _ (List.mem_of_getElem? (i := 133) (by decide +kernel)), by decide +kernel⟩
theorem wd_210 : Cond.fieldLink RX1 37 "HallSheets$Hall" "trueOurs" "I" ∈ TBL := List.mem_filter.mpr ⟨List.mem_append_right _ (List.mem_of_getElem? (i := 134) (by decide +kernel)), by decide +kernel⟩
theorem wd_211 : Cond.fieldLink RX8 75 "HallSheets$Hall" "trueOurs" "I" ∈ TBL := List.mem_filter.mpr ⟨List.mem_append_right _ (List.mem_of_getElem? (i := 135) (by decide +kernel)), by decide +kernel⟩
theorem wd_212 : Cond.fieldLink RX0 203 "HallSheets$Hall" "trueOurs" "I" ∈ TBL := List.mem_filter.mpr ⟨List.mem_append_right _ (List.mem_of_getElem? (i := 136) (by decide +kernel)), by decide +kernel⟩
theorem wd_213 : Cond.fieldLink RX1 46 "HallSheets$Hall" "watched" "Z" ∈ TBL := List.mem_filter.mpr ⟨List.mem_append_right _ (List.mem_of_getElem? (i := 137) (by decide +kernel)), by decide +kernel⟩
theorem wd_214 : Cond.fieldLink RX7 47 "HallSheets$Hall" "watched" "Z" ∈ TBL := List.mem_filter.mpr ⟨List.mem_append_right _ (List.mem_of_getElem? (i := 138) (by decide +kernel)), by decide +kernel⟩
theorem wd_215 : Cond.fieldLink RX3 89 "HallSheets$Hall" "watched" "Z" ∈ TBL := List.mem_filter.mpr ⟨List.mem_append_right _ (List.mem_of_getElem? (i := 139) (by decide +kernel)), by decide +kernel⟩
theorem wd_216 : Cond.fieldLink RX0 86 "HallSheets$Hall" "watched" "Z" ∈ TBL := List.mem_filter.mpr ⟨List.mem_append_right _ (List.mem_of_getElem? (i := 140) (by decide +kernel)), by decide +kernel⟩
theorem wd_217 : Cond.fieldLink RX8 183 "HallSheets$Hall" "watched" "Z" ∈ TBL := List.mem_filter.mpr ⟨List.mem_append_right _ (List.mem_of_getElem? (i := 141) (by decide +kernel)), by decide +kernel⟩
theorem wd_218 : Cond.fieldLink RX7 37 "HallSheets$Hall" "missing" "Z" ∈ TBL := List.mem_filter.mpr ⟨List.mem_append_right _ (List.mem_of_getElem? (i := 142) (by decide +kernel)), by decide +kernel⟩
theorem wd_219 : Cond.fieldLink RX4 38 "HallSheets$Hall" "missing" "Z" ∈ TBL := List.mem_filter.mpr ⟨List.mem_append_right _ (List.mem_of_getElem? (i := 143) (by decide +kernel)), by decide +kernel⟩
theorem wd_220 : Cond.fieldLink RX1 50 "HallSheets$Hall" "missing" "Z" ∈ TBL := List.mem_filter.mpr ⟨List.mem_append_right _ (List.mem_of_getElem? (i := 144) (by decide +kernel)), by decide +kernel⟩
theorem wd_221 : Cond.fieldLink RX8 105 "HallSheets$Hall" "missing" "Z" ∈ TBL := List.mem_filter.mpr ⟨List.mem_append_right _ (List.mem_of_getElem? (i := 145) (by decide +kernel)), by decide +kernel⟩
theorem wd_222 : Cond.fieldLink RX0 78 "HallSheets$Hall" "missing" "Z" ∈ TBL := List.mem_filter.mpr ⟨List.mem_append_right _ (List.mem_of_getElem? (i := 146) (by decide +kernel)), by decide +kernel⟩
theorem wd_223 : Cond.fieldLink RX4 51 "HallSheets$Hall" "came" "I" ∈ TBL := List.mem_filter.mpr ⟨List.mem_append_right _ (List.mem_of_getElem? (i := 147) (by decide +kernel)), by decide +kernel⟩
theorem wd_224 : Cond.fieldLink RX1 57 "HallSheets$Hall" "came" "I" ∈ TBL := List.mem_filter.mpr ⟨List.mem_append_right _ (List.mem_of_getElem? (i := 148) (by decide +kernel)), by decide +kernel⟩
theorem wd_225 : Cond.fieldLink RX3 62 "HallSheets$Hall" "came" "I" ∈ TBL := List.mem_filter.mpr ⟨List.mem_append_right _ (List.mem_of_getElem? (i := 149) (by decide +kernel)), by decide +kernel⟩
theorem wd_226 : Cond.fieldLink RX8 109 "HallSheets$Hall" "came" "I" ∈ TBL := List.mem_filter.mpr ⟨List.mem_append_right _ (List.mem_of_getElem? (i := 150) (by decide +kernel)), by decide +kernel⟩
theorem wd_227 : Cond.fieldLink RX0 115 "HallSheets$Hall" "came" "I" ∈ TBL := List.mem_filter.mpr ⟨List.mem_append_right _ (List.mem_of_getElem? (i := 151) (by decide +kernel)), by decide +kernel⟩
theorem wd_228 : Cond.fieldLink RX1 60 "HallSheets$Hall" "ours" "I" ∈ TBL := List.mem_filter.mpr ⟨List.mem_append_right _ (List.mem_of_getElem? (i := 152) (by decide +kernel)), by decide +kernel⟩
theorem wd_229 : Cond.fieldLink RX3 67 "HallSheets$Hall" "ours" "I" ∈ TBL := List.mem_filter.mpr ⟨List.mem_append_right _ (List.mem_of_getElem? (i := 153) (by decide +kernel)), by decide +kernel⟩
theorem wd_230 : Cond.fieldLink RX8 112 "HallSheets$Hall" "ours" "I" ∈ TBL := List.mem_filter.mpr ⟨List.mem_append_right _ (List.mem_of_getElem? (i := 154) (by decide +kernel)), by decide +kernel⟩
theorem wd_231 : Cond.fieldLink RX0 118 "HallSheets$Hall" "ours" "I" ∈ TBL := List.mem_filter.mpr ⟨List.mem_append_right _ (List.mem_of_getElem? (i := 155) (by decide +kernel)), by decide +kernel⟩
theorem wd_257 : Cond.fieldLink RX0 13 "HallSheets$Country" "halls" "[LHallSheets$Hall;" ∈ TBL := List.mem_filter.mpr ⟨List.mem_append_right _ (List.mem_of_getElem? (i := 181) (by decide +kernel)), by decide +kernel⟩
theorem wd_258 : Cond.fieldLink RX7 33 "HallSheets$Country" "halls" "[LHallSheets$Hall;" ∈ TBL := List.mem_filter.mpr ⟨List.mem_append_right _ (List.mem_of_getElem? (i := 182) (by decide +kernel)), by decide +kernel⟩
theorem wd_259 : Cond.fieldLink RX4 34 "HallSheets$Country" "halls" "[LHallSheets$Hall;" ∈ TBL := List.mem_filter.mpr ⟨List.mem_append_right _ (List.mem_of_getElem? (i := 183) (by decide +kernel)), by decide +kernel⟩
theorem wd_260 : Cond.fieldLink RX8 62 "HallSheets$Country" "halls" "[LHallSheets$Hall;" ∈ TBL := List.mem_filter.mpr ⟨List.mem_append_right _ (List.mem_of_getElem? (i := 184) (by decide +kernel)), by decide +kernel⟩
theorem wd_261 : Cond.fieldLink RX0 53 "HallSheets$Country" "hallCount" "I" ∈ TBL := List.mem_filter.mpr ⟨List.mem_append_right _ (List.mem_of_getElem? (i := 185) (by decide +kernel)), by decide +kernel⟩
theorem wd_262 : Cond.fieldLink RX7 28 "HallSheets$Country" "hallCount" "I" ∈ TBL := List.mem_filter.mpr ⟨List.mem_append_right _ (List.mem_of_getElem? (i := 186) (by decide +kernel)), by decide +kernel⟩
theorem wd_263 : Cond.fieldLink RX4 30 "HallSheets$Country" "hallCount" "I" ∈ TBL := List.mem_filter.mpr ⟨List.mem_append_right _ (List.mem_of_getElem? (i := 187) (by decide +kernel)), by decide +kernel⟩
theorem wd_264 : Cond.fieldLink RX8 118 "HallSheets$Country" "hallCount" "I" ∈ TBL := List.mem_filter.mpr ⟨List.mem_append_right _ (List.mem_of_getElem? (i := 188) (by decide +kernel)), by decide +kernel⟩
theorem wd_265 : Cond.fieldLink RX0 17 "HallSheets$Country" "laws" "[I" ∈ TBL := List.mem_filter.mpr ⟨List.mem_append_right _ (List.mem_of_getElem? (i := 189) (by decide +kernel)), by decide +kernel⟩
theorem wd_266 : Cond.fieldLink RX8 94 "HallSheets$Country" "laws" "[I" ∈ TBL := List.mem_filter.mpr ⟨List.mem_append_right _ (List.mem_of_getElem? (i := 190) (by decide +kernel)), by decide +kernel⟩
theorem wd_267 : Cond.fieldLink RX0 21 "HallSheets$Country" "told" "[Z" ∈ TBL := List.mem_filter.mpr ⟨List.mem_append_right _ (List.mem_of_getElem? (i := 191) (by decide +kernel)), by decide +kernel⟩
theorem wd_268 : Cond.fieldLink RX8 208 "HallSheets$Country" "told" "[Z" ∈ TBL := List.mem_filter.mpr ⟨List.mem_append_right _ (List.mem_of_getElem? (i := 192) (by decide +kernel)), by decide +kernel⟩
theorem wd_269 : Cond.fieldLink RX0 25 "HallSheets$Country" "toldCame" "[I" ∈ TBL := List.mem_filter.mpr ⟨List.mem_append_right _ (List.mem_of_getElem? (i := 193) (by decide +kernel)), by decide +kernel⟩
theorem wd_270 : Cond.fieldLink RX8 212 "HallSheets$Country" "toldCame" "[I" ∈ TBL := List.mem_filter.mpr ⟨List.mem_append_right _ (List.mem_of_getElem? (i := 194) (by decide +kernel)), by decide +kernel⟩
theorem wd_271 : Cond.fieldLink RX0 28 "HallSheets$Country" "toldOurs" "[I" ∈ TBL := List.mem_filter.mpr ⟨List.mem_append_right _ (List.mem_of_getElem? (i := 195) (by decide +kernel)), by decide +kernel⟩
theorem wd_272 : Cond.fieldLink RX8 214 "HallSheets$Country" "toldOurs" "[I" ∈ TBL := List.mem_filter.mpr ⟨List.mem_append_right _ (List.mem_of_getElem? (i := 196) (by decide +kernel)), by decide +kernel⟩
theorem wd_273 : Cond.fieldLink RX0 33 "HallSheets$Country" "markTexts" "[[I" ∈ TBL := List.mem_filter.mpr ⟨List.mem_append_right _ (List.mem_of_getElem? (i := 197) (by decide +kernel)), by decide +kernel⟩
theorem wd_274 : Cond.fieldLink RX0 36 "HallSheets$Country" "markSizes" "[I" ∈ TBL := List.mem_filter.mpr ⟨List.mem_append_right _ (List.mem_of_getElem? (i := 198) (by decide +kernel)), by decide +kernel⟩
theorem wd_275 : Cond.fieldLink RX0 67 "HallSheets$Country" "markCount" "I" ∈ TBL := List.mem_filter.mpr ⟨List.mem_append_right _ (List.mem_of_getElem? (i := 199) (by decide +kernel)), by decide +kernel⟩
theorem wd_276 : Cond.fieldLink RX8 284 "HallSheets$Country" "markCount" "I" ∈ TBL := List.mem_filter.mpr ⟨List.mem_append_right _ (List.mem_of_getElem? (i := 200) (by decide +kernel)), by decide +kernel⟩
theorem wd_277 : Cond.fieldLink RX0 42 "HallSheets$Country" "markTruth" "LHallSheets$MarkTruth;" ∈ TBL := List.mem_filter.mpr ⟨List.mem_append_right _ (List.mem_of_getElem? (i := 201) (by decide +kernel)), by decide +kernel⟩
theorem wd_278 : Cond.fieldLink RX0 46 "HallSheets$Country" "figureCounts" "[I" ∈ TBL := List.mem_filter.mpr ⟨List.mem_append_right _ (List.mem_of_getElem? (i := 202) (by decide +kernel)), by decide +kernel⟩
theorem wd_279 : Cond.fieldLink RX0 49 "HallSheets$Country" "inOrder" "[I" ∈ TBL := List.mem_filter.mpr ⟨List.mem_append_right _ (List.mem_of_getElem? (i := 203) (by decide +kernel)), by decide +kernel⟩
theorem wd_313 : Cond.fieldLink RX7 9 "HallSheets$Watchers" "shares" "[I" ∈ TBL := List.mem_filter.mpr ⟨List.mem_append_right _ (List.mem_of_getElem? (i := 237) (by decide +kernel)), by decide +kernel⟩
theorem wd_314 : Cond.fieldLink RX7 15 "HallSheets$Watchers" "all" "I" ∈ TBL := List.mem_filter.mpr ⟨List.mem_append_right _ (List.mem_of_getElem? (i := 238) (by decide +kernel)), by decide +kernel⟩
theorem wd_315 : Cond.fieldLink RX7 19 "HallSheets$Watchers" "allShares" "I" ∈ TBL := List.mem_filter.mpr ⟨List.mem_append_right _ (List.mem_of_getElem? (i := 239) (by decide +kernel)), by decide +kernel⟩
theorem wd_316 : Cond.fieldLink RX7 22 "HallSheets$Watchers" "watched" "I" ∈ TBL := List.mem_filter.mpr ⟨List.mem_append_right _ (List.mem_of_getElem? (i := 240) (by decide +kernel)), by decide +kernel⟩
theorem wd_317 : Cond.fieldLink RX7 25 "HallSheets$Watchers" "watchedShares" "I" ∈ TBL := List.mem_filter.mpr ⟨List.mem_append_right _ (List.mem_of_getElem? (i := 241) (by decide +kernel)), by decide +kernel⟩
theorem wd_335 : Cond.fieldLink RX4 9 "HallSheets$Recount" "best" "[I" ∈ TBL := List.mem_filter.mpr ⟨List.mem_append_right _ (List.mem_of_getElem? (i := 259) (by decide +kernel)), by decide +kernel⟩
theorem wd_336 : Cond.fieldLink RX8 253 "HallSheets$Recount" "best" "[I" ∈ TBL := List.mem_filter.mpr ⟨List.mem_append_right _ (List.mem_of_getElem? (i := 260) (by decide +kernel)), by decide +kernel⟩
theorem wd_337 : Cond.fieldLink RX4 15 "HallSheets$Recount" "chosen" "[I" ∈ TBL := List.mem_filter.mpr ⟨List.mem_append_right _ (List.mem_of_getElem? (i := 261) (by decide +kernel)), by decide +kernel⟩
theorem wd_338 : Cond.fieldLink RX8 256 "HallSheets$Recount" "chosen" "[I" ∈ TBL := List.mem_filter.mpr ⟨List.mem_append_right _ (List.mem_of_getElem? (i := 262) (by decide +kernel)), by decide +kernel⟩
theorem wd_350 : Cond.fieldLink RX2 9 "HallSheets$MarkGrammar" "state" "I" ∈ TBL := List.mem_filter.mpr ⟨List.mem_append_right _ (List.mem_of_getElem? (i := 274) (by decide +kernel)), by decide +kernel⟩
theorem wd_351 : Cond.fieldLink RX2 13 "HallSheets$MarkGrammar" "depth" "I" ∈ TBL := List.mem_filter.mpr ⟨List.mem_append_right _ (List.mem_of_getElem? (i := 275) (by decide +kernel)), by decide +kernel⟩
theorem wd_352 : Cond.fieldLink RX2 24 "HallSheets$MarkGrammar" "compared" "Z" ∈ TBL := List.mem_filter.mpr ⟨List.mem_append_right _ (List.mem_of_getElem? (i := 276) (by decide +kernel)), by decide +kernel⟩
theorem wd_353 : Cond.fieldLink RX2 49 "HallSheets$MarkGrammar" "digits" "I" ∈ TBL := List.mem_filter.mpr ⟨List.mem_append_right _ (List.mem_of_getElem? (i := 277) (by decide +kernel)), by decide +kernel⟩
theorem wd_354 : Cond.fieldLink RX2 52 "HallSheets$MarkGrammar" "zeroAhead" "Z" ∈ TBL := List.mem_filter.mpr ⟨List.mem_append_right _ (List.mem_of_getElem? (i := 278) (by decide +kernel)), by decide +kernel⟩
theorem wd_373 : Cond.fieldLink RX6 11 "HallSheets$Shelf" "held" "I" ∈ TBL := List.mem_filter.mpr ⟨List.mem_append_right _ (List.mem_of_getElem? (i := 297) (by decide +kernel)), by decide +kernel⟩
theorem wd_374 : Cond.fieldLink RX8 308 "HallSheets$Shelf" "held" "I" ∈ TBL := List.mem_filter.mpr ⟨List.mem_append_right _ (List.mem_of_getElem? (i := 298) (by decide +kernel)), by decide +kernel⟩
theorem wd_375 : Cond.fieldLink RX6 18 "HallSheets$Shelf" "sheet" "LHallSheets$Sheet;" ∈ TBL := List.mem_filter.mpr ⟨List.mem_append_right _ (List.mem_of_getElem? (i := 299) (by decide +kernel)), by decide +kernel⟩
theorem wd_376 : Cond.fieldLink RX8 351 "HallSheets$Shelf" "sheet" "LHallSheets$Sheet;" ∈ TBL := List.mem_filter.mpr ⟨List.mem_append_right _ (List.mem_of_getElem? (i := 300) (by decide +kernel)), by decide +kernel⟩
theorem wd_377 : Cond.fieldLink RX6 26 "HallSheets$Shelf" "hall" "I" ∈ TBL := List.mem_filter.mpr ⟨List.mem_append_right _ (List.mem_of_getElem? (i := 301) (by decide +kernel)), by decide +kernel⟩
theorem wd_378 : Cond.fieldLink RX6 34 "HallSheets$Shelf" "trueCame" "I" ∈ TBL := List.mem_filter.mpr ⟨List.mem_append_right _ (List.mem_of_getElem? (i := 302) (by decide +kernel)), by decide +kernel⟩
theorem wd_379 : Cond.fieldLink RX6 40 "HallSheets$Shelf" "sort" "I" ∈ TBL := List.mem_filter.mpr ⟨List.mem_append_right _ (List.mem_of_getElem? (i := 303) (by decide +kernel)), by decide +kernel⟩
theorem wd_380 : Cond.fieldLink RX8 366 "HallSheets$Shelf" "sort" "I" ∈ TBL := List.mem_filter.mpr ⟨List.mem_append_right _ (List.mem_of_getElem? (i := 304) (by decide +kernel)), by decide +kernel⟩
theorem wd_381 : Cond.fieldLink RX6 43 "HallSheets$Shelf" "size" "I" ∈ TBL := List.mem_filter.mpr ⟨List.mem_append_right _ (List.mem_of_getElem? (i := 305) (by decide +kernel)), by decide +kernel⟩
theorem wd_382 : Cond.fieldLink RX8 274 "HallSheets$Shelf" "size" "I" ∈ TBL := List.mem_filter.mpr ⟨List.mem_append_right _ (List.mem_of_getElem? (i := 306) (by decide +kernel)), by decide +kernel⟩
theorem wd_383 : Cond.fieldLink RX6 22 "HallSheets$Shelf" "elements" "[I" ∈ TBL := List.mem_filter.mpr ⟨List.mem_append_right _ (List.mem_of_getElem? (i := 307) (by decide +kernel)), by decide +kernel⟩
theorem wd_384 : Cond.fieldLink RX8 139 "HallSheets$Shelf" "elements" "[I" ∈ TBL := List.mem_filter.mpr ⟨List.mem_append_right _ (List.mem_of_getElem? (i := 308) (by decide +kernel)), by decide +kernel⟩
theorem wd_400 : Cond.fieldLink RX8 10 "HallSheets" "now" "LHallSheets$Country;" ∈ TBL := List.mem_filter.mpr ⟨List.mem_append_right _ (List.mem_of_getElem? (i := 324) (by decide +kernel)), by decide +kernel⟩
theorem wd_401 : Cond.fieldLink RX8 16 "HallSheets" "then" "LHallSheets$Country;" ∈ TBL := List.mem_filter.mpr ⟨List.mem_append_right _ (List.mem_of_getElem? (i := 325) (by decide +kernel)), by decide +kernel⟩
theorem wd_402 : Cond.fieldLink RX8 19 "HallSheets" "mind" "LHallSheets$Country;" ∈ TBL := List.mem_filter.mpr ⟨List.mem_append_right _ (List.mem_of_getElem? (i := 326) (by decide +kernel)), by decide +kernel⟩
theorem wd_403 : Cond.fieldLink RX8 293 "HallSheets" "imageTaken" "Z" ∈ TBL := List.mem_filter.mpr ⟨List.mem_append_right _ (List.mem_of_getElem? (i := 327) (by decide +kernel)), by decide +kernel⟩
theorem wd_404 : Cond.fieldLink RX8 24 "HallSheets" "shelves" "[LHallSheets$Shelf;" ∈ TBL := List.mem_filter.mpr ⟨List.mem_append_right _ (List.mem_of_getElem? (i := 328) (by decide +kernel)), by decide +kernel⟩
theorem wd_405 : Cond.fieldLink RX8 31 "HallSheets" "watchers" "LHallSheets$Watchers;" ∈ TBL := List.mem_filter.mpr ⟨List.mem_append_right _ (List.mem_of_getElem? (i := 329) (by decide +kernel)), by decide +kernel⟩
theorem wd_406 : Cond.fieldLink RX8 38 "HallSheets" "recount" "LHallSheets$Recount;" ∈ TBL := List.mem_filter.mpr ⟨List.mem_append_right _ (List.mem_of_getElem? (i := 330) (by decide +kernel)), by decide +kernel⟩
theorem wd_407 : Cond.fieldLink RX8 45 "HallSheets" "grammar" "LHallSheets$MarkGrammar;" ∈ TBL := List.mem_filter.mpr ⟨List.mem_append_right _ (List.mem_of_getElem? (i := 331) (by decide +kernel)), by decide +kernel⟩
theorem wd_429 : Cond.methodLink RX8 50 yX8_within ∈ TBL := List.mem_filter.mpr ⟨List.mem_append_right _ (List.mem_of_getElem? (i := 353) (by decide +kernel)), by decide +kernel⟩
theorem wd_430 : Cond.static yX8_within ∈ TBL := List.mem_filter.mpr ⟨List.mem_append_right _ (List.mem_of_getElem? (i := 354) (by decide +kernel)), by decide +kernel⟩
theorem wd_431 : Cond.code yX8_within cX8_within 3 (some .boolean) ∈ TBL := List.mem_filter.mpr ⟨List.mem_append_right _ (List.mem_of_getElem? (i := 355) (by decide +kernel)), by decide +kernel⟩
theorem wd_432 : Cond.methodLink RX8 54 yX0_addHall ∈ TBL := List.mem_filter.mpr ⟨List.mem_append_right _ (List.mem_of_getElem? (i := 356) (by decide +kernel)), by decide +kernel⟩
theorem wd_433 : Cond.instanceMethod yX0_addHall ∈ TBL := List.mem_filter.mpr ⟨List.mem_append_right _ (List.mem_of_getElem? (i := 357) (by decide +kernel)), by decide +kernel⟩
theorem wd_434 : Cond.selects RX0 yX0_addHall yX0_addHall ∈ TBL := List.mem_filter.mpr ⟨List.mem_append_right _ (List.mem_of_getElem? (i := 358) (by decide +kernel)), by decide +kernel⟩
theorem wd_435 : Cond.code yX0_addHall cX0_addHall 4 (some .int) ∈ TBL := List.mem_filter.mpr ⟨List.mem_append_right _ (List.mem_of_getElem? (i := 359) (by decide +kernel)), by decide +kernel⟩
theorem wd_436 : Cond.methodLink RX0 74 yX1_begin ∈ TBL := List.mem_filter.mpr ⟨List.mem_append_right _ (List.mem_of_getElem? (i := 360) (by decide +kernel)), by decide +kernel⟩
theorem wd_437 : Cond.instanceMethod yX1_begin ∈ TBL := List.mem_filter.mpr ⟨List.mem_append_right _ (List.mem_of_getElem? (i := 361) (by decide +kernel)), by decide +kernel⟩
theorem wd_438 : Cond.selects RX1 yX1_begin yX1_begin ∈ TBL := List.mem_filter.mpr ⟨List.mem_append_right _ (List.mem_of_getElem? (i := 362) (by decide +kernel)), by decide +kernel⟩
theorem wd_439 : Cond.code yX1_begin cX1_begin 4 none ∈ TBL := List.mem_filter.mpr ⟨List.mem_append_right _ (List.mem_of_getElem? (i := 363) (by decide +kernel)), by decide +kernel⟩
theorem wd_444 : Cond.methodLink RX8 58 yX0_isHall ∈ TBL := List.mem_filter.mpr ⟨List.mem_append_right _ (List.mem_of_getElem? (i := 368) (by decide +kernel)), by decide +kernel⟩
theorem wd_445 : Cond.instanceMethod yX0_isHall ∈ TBL := List.mem_filter.mpr ⟨List.mem_append_right _ (List.mem_of_getElem? (i := 369) (by decide +kernel)), by decide +kernel⟩
theorem wd_446 : Cond.selects RX0 yX0_isHall yX0_isHall ∈ TBL := List.mem_filter.mpr ⟨List.mem_append_right _ (List.mem_of_getElem? (i := 370) (by decide +kernel)), by decide +kernel⟩
theorem wd_447 : Cond.code yX0_isHall cX0_isHall 2 (some .boolean) ∈ TBL := List.mem_filter.mpr ⟨List.mem_append_right _ (List.mem_of_getElem? (i := 371) (by decide +kernel)), by decide +kernel⟩
theorem wd_448 : Cond.methodLinkNest RX0 70 yX8_within "HallSheets" ∈ NST := List.mem_filter.mpr ⟨List.mem_append_right _ (List.mem_of_getElem? (i := 372) (by decide +kernel)), by decide +kernel⟩
theorem wd_457 : Cond.methodLink RX8 90 yX0_mostOfLaw ∈ TBL := List.mem_filter.mpr ⟨List.mem_append_right _ (List.mem_of_getElem? (i := 381) (by decide +kernel)), by decide +kernel⟩
theorem wd_458 : Cond.static yX0_mostOfLaw ∈ TBL := List.mem_filter.mpr ⟨List.mem_append_right _ (List.mem_of_getElem? (i := 382) (by decide +kernel)), by decide +kernel⟩
theorem wd_459 : Cond.code yX0_mostOfLaw cX0_mostOfLaw 1 (some .int) ∈ TBL := List.mem_filter.mpr ⟨List.mem_append_right _ (List.mem_of_getElem? (i := 383) (by decide +kernel)), by decide +kernel⟩
theorem wd_464 : Cond.methodLink RX8 98 yX1_toldCame ∈ TBL := List.mem_filter.mpr ⟨List.mem_append_right _ (List.mem_of_getElem? (i := 388) (by decide +kernel)), by decide +kernel⟩
theorem wd_465 : Cond.instanceMethod yX1_toldCame ∈ TBL := List.mem_filter.mpr ⟨List.mem_append_right _ (List.mem_of_getElem? (i := 389) (by decide +kernel)), by decide +kernel⟩
theorem wd_466 : Cond.selects RX1 yX1_toldCame yX1_toldCame ∈ TBL := List.mem_filter.mpr ⟨List.mem_append_right _ (List.mem_of_getElem? (i := 390) (by decide +kernel)), by decide +kernel⟩
theorem wd_467 : Cond.code yX1_toldCame cX1_toldCame 1 (some .int) ∈ TBL := List.mem_filter.mpr ⟨List.mem_append_right _ (List.mem_of_getElem? (i := 391) (by decide +kernel)), by decide +kernel⟩
theorem wd_468 : Cond.methodLink RX1 63 yX5_tellsCame ∈ TBL := List.mem_filter.mpr ⟨List.mem_append_right _ (List.mem_of_getElem? (i := 392) (by decide +kernel)), by decide +kernel⟩
theorem wd_469 : Cond.instanceMethod yX5_tellsCame ∈ TBL := List.mem_filter.mpr ⟨List.mem_append_right _ (List.mem_of_getElem? (i := 393) (by decide +kernel)), by decide +kernel⟩
theorem wd_470 : Cond.selects RX5 yX5_tellsCame yX5_tellsCame ∈ TBL := List.mem_filter.mpr ⟨List.mem_append_right _ (List.mem_of_getElem? (i := 394) (by decide +kernel)), by decide +kernel⟩
theorem wd_471 : Cond.code yX5_tellsCame cX5_tellsCame 3 (some .int) ∈ TBL := List.mem_filter.mpr ⟨List.mem_append_right _ (List.mem_of_getElem? (i := 395) (by decide +kernel)), by decide +kernel⟩
theorem wd_472 : Cond.methodLink RX5 16 yX5_toTen ∈ TBL := List.mem_filter.mpr ⟨List.mem_append_right _ (List.mem_of_getElem? (i := 396) (by decide +kernel)), by decide +kernel⟩
theorem wd_473 : Cond.static yX5_toTen ∈ TBL := List.mem_filter.mpr ⟨List.mem_append_right _ (List.mem_of_getElem? (i := 397) (by decide +kernel)), by decide +kernel⟩
theorem wd_474 : Cond.code yX5_toTen cX5_toTen 1 (some .int) ∈ TBL := List.mem_filter.mpr ⟨List.mem_append_right _ (List.mem_of_getElem? (i := 398) (by decide +kernel)), by decide +kernel⟩
theorem wd_475 : Cond.methodLink RX5 20 Lib.Math.min.name ∈ TBL := List.mem_filter.mpr ⟨List.mem_append_right _ (List.mem_of_getElem? (i := 399) (by decide +kernel)), by decide +kernel⟩
theorem wd_476 : Cond.static Lib.Math.min.name ∈ TBL := List.mem_filter.mpr ⟨List.mem_append_right _ (List.mem_of_getElem? (i := 400) (by decide +kernel)), by decide +kernel⟩
theorem wd_477 : Cond.code Lib.Math.min.name Lib.Math.min.code 2 (some .int) ∈ TBL := List.mem_filter.mpr ⟨List.mem_append_right _ (List.mem_of_getElem? (i := 401) (by decide +kernel)), by decide +kernel⟩
theorem wd_478 : Cond.methodLink RX8 102 yX1_toldOurs ∈ TBL := List.mem_filter.mpr ⟨List.mem_append_right _ (List.mem_of_getElem? (i := 402) (by decide +kernel)), by decide +kernel⟩
theorem wd_479 : Cond.instanceMethod yX1_toldOurs ∈ TBL := List.mem_filter.mpr ⟨List.mem_append_right _ (List.mem_of_getElem? (i := 403) (by decide +kernel)), by decide +kernel⟩
theorem wd_480 : Cond.selects RX1 yX1_toldOurs yX1_toldOurs ∈ TBL := List.mem_filter.mpr ⟨List.mem_append_right _ (List.mem_of_getElem? (i := 404) (by decide +kernel)), by decide +kernel⟩
theorem wd_481 : Cond.code yX1_toldOurs cX1_toldOurs 2 (some .int) ∈ TBL := List.mem_filter.mpr ⟨List.mem_append_right _ (List.mem_of_getElem? (i := 405) (by decide +kernel)), by decide +kernel⟩
theorem wd_482 : Cond.methodLink RX1 67 yX5_tellsOurs ∈ TBL := List.mem_filter.mpr ⟨List.mem_append_right _ (List.mem_of_getElem? (i := 406) (by decide +kernel)), by decide +kernel⟩
theorem wd_483 : Cond.instanceMethod yX5_tellsOurs ∈ TBL := List.mem_filter.mpr ⟨List.mem_append_right _ (List.mem_of_getElem? (i := 407) (by decide +kernel)), by decide +kernel⟩
theorem wd_484 : Cond.selects RX5 yX5_tellsOurs yX5_tellsOurs ∈ TBL := List.mem_filter.mpr ⟨List.mem_append_right _ (List.mem_of_getElem? (i := 408) (by decide +kernel)), by decide +kernel⟩
theorem wd_485 : Cond.code yX5_tellsOurs cX5_tellsOurs 5 (some .int) ∈ TBL := List.mem_filter.mpr ⟨List.mem_append_right _ (List.mem_of_getElem? (i := 409) (by decide +kernel)), by decide +kernel⟩
theorem wd_486 : Cond.methodLink RX5 26 yX5_tellsCame ∈ TBL := List.mem_filter.mpr ⟨List.mem_append_right _ (List.mem_of_getElem? (i := 410) (by decide +kernel)), by decide +kernel⟩
theorem wd_487 : Cond.methodLink RX5 29 yX5_madeOurs ∈ TBL := List.mem_filter.mpr ⟨List.mem_append_right _ (List.mem_of_getElem? (i := 411) (by decide +kernel)), by decide +kernel⟩
theorem wd_489 : Cond.instanceMethod yX5_madeOurs ∈ TBL := List.mem_filter.mpr ⟨List.mem_append_right _ (List.mem_of_getElem? (i := 413) (by decide +kernel)), by decide +kernel⟩
theorem wd_490 : Cond.code yX5_madeOurs cX5_madeOurs 5 (some .int) ∈ TBL := List.mem_filter.mpr ⟨List.mem_append_right _ (List.mem_of_getElem? (i := 414) (by decide +kernel)), by decide +kernel⟩
theorem wd_491 : Cond.methodLink RX5 32 yX5_copiedOurs ∈ TBL := List.mem_filter.mpr ⟨List.mem_append_right _ (List.mem_of_getElem? (i := 415) (by decide +kernel)), by decide +kernel⟩
theorem wd_492 : Cond.static yX5_copiedOurs ∈ TBL := List.mem_filter.mpr ⟨List.mem_append_right _ (List.mem_of_getElem? (i := 416) (by decide +kernel)), by decide +kernel⟩
theorem wd_493 : Cond.code yX5_copiedOurs cX5_copiedOurs 3 (some .int) ∈ TBL := List.mem_filter.mpr ⟨List.mem_append_right _ (List.mem_of_getElem? (i := 417) (by decide +kernel)), by decide +kernel⟩
theorem wd_494 : Cond.methodLink RX8 115 yX1_share ∈ TBL := List.mem_filter.mpr ⟨List.mem_append_right _ (List.mem_of_getElem? (i := 418) (by decide +kernel)), by decide +kernel⟩
theorem wd_495 : Cond.instanceMethod yX1_share ∈ TBL := List.mem_filter.mpr ⟨List.mem_append_right _ (List.mem_of_getElem? (i := 419) (by decide +kernel)), by decide +kernel⟩
theorem wd_496 : Cond.selects RX1 yX1_share yX1_share ∈ TBL := List.mem_filter.mpr ⟨List.mem_append_right _ (List.mem_of_getElem? (i := 420) (by decide +kernel)), by decide +kernel⟩
theorem wd_497 : Cond.code yX1_share cX1_share 1 (some .int) ∈ TBL := List.mem_filter.mpr ⟨List.mem_append_right _ (List.mem_of_getElem? (i := 421) (by decide +kernel)), by decide +kernel⟩
theorem wd_498 : Cond.methodLinkNest RX1 71 yX8_shareOf "HallSheets" ∈ NST := List.mem_filter.mpr ⟨List.mem_append_right _ (List.mem_of_getElem? (i := 422) (by decide +kernel)), by decide +kernel⟩
theorem wd_499 : Cond.static yX8_shareOf ∈ TBL := List.mem_filter.mpr ⟨List.mem_append_right _ (List.mem_of_getElem? (i := 423) (by decide +kernel)), by decide +kernel⟩
theorem wd_500 : Cond.code yX8_shareOf cX8_shareOf 2 (some .int) ∈ TBL := List.mem_filter.mpr ⟨List.mem_append_right _ (List.mem_of_getElem? (i := 424) (by decide +kernel)), by decide +kernel⟩
theorem wd_505 : Cond.methodLink RX8 121 yX1_write ∈ TBL := List.mem_filter.mpr ⟨List.mem_append_right _ (List.mem_of_getElem? (i := 429) (by decide +kernel)), by decide +kernel⟩
theorem wd_506 : Cond.instanceMethod yX1_write ∈ TBL := List.mem_filter.mpr ⟨List.mem_append_right _ (List.mem_of_getElem? (i := 430) (by decide +kernel)), by decide +kernel⟩
theorem wd_507 : Cond.selects RX1 yX1_write yX1_write ∈ TBL := List.mem_filter.mpr ⟨List.mem_append_right _ (List.mem_of_getElem? (i := 431) (by decide +kernel)), by decide +kernel⟩
theorem wd_508 : Cond.code yX1_write cX1_write 3 none ∈ TBL := List.mem_filter.mpr ⟨List.mem_append_right _ (List.mem_of_getElem? (i := 432) (by decide +kernel)), by decide +kernel⟩
theorem wd_509 : Cond.methodLink RX8 125 yX0_writtenCount ∈ TBL := List.mem_filter.mpr ⟨List.mem_append_right _ (List.mem_of_getElem? (i := 433) (by decide +kernel)), by decide +kernel⟩
theorem wd_510 : Cond.instanceMethod yX0_writtenCount ∈ TBL := List.mem_filter.mpr ⟨List.mem_append_right _ (List.mem_of_getElem? (i := 434) (by decide +kernel)), by decide +kernel⟩
theorem wd_511 : Cond.selects RX0 yX0_writtenCount yX0_writtenCount ∈ TBL := List.mem_filter.mpr ⟨List.mem_append_right _ (List.mem_of_getElem? (i := 435) (by decide +kernel)), by decide +kernel⟩
theorem wd_512 : Cond.code yX0_writtenCount cX0_writtenCount 3 (some .int) ∈ TBL := List.mem_filter.mpr ⟨List.mem_append_right _ (List.mem_of_getElem? (i := 436) (by decide +kernel)), by decide +kernel⟩
theorem wd_517 : Cond.methodLink RX8 128 yX8_rowsRefusal ∈ TBL := List.mem_filter.mpr ⟨List.mem_append_right _ (List.mem_of_getElem? (i := 441) (by decide +kernel)), by decide +kernel⟩
theorem wd_519 : Cond.instanceMethod yX8_rowsRefusal ∈ TBL := List.mem_filter.mpr ⟨List.mem_append_right _ (List.mem_of_getElem? (i := 443) (by decide +kernel)), by decide +kernel⟩
theorem wd_520 : Cond.code yX8_rowsRefusal cX8_rowsRefusal 3 (some .int) ∈ TBL := List.mem_filter.mpr ⟨List.mem_append_right _ (List.mem_of_getElem? (i := 444) (by decide +kernel)), by decide +kernel⟩
theorem wd_521 : Cond.methodLink RX8 281 yX8_isShelf ∈ TBL := List.mem_filter.mpr ⟨List.mem_append_right _ (List.mem_of_getElem? (i := 445) (by decide +kernel)), by decide +kernel⟩
theorem wd_522 : Cond.static yX8_isShelf ∈ TBL := List.mem_filter.mpr ⟨List.mem_append_right _ (List.mem_of_getElem? (i := 446) (by decide +kernel)), by decide +kernel⟩
theorem wd_523 : Cond.code yX8_isShelf cX8_isShelf 1 (some .boolean) ∈ TBL := List.mem_filter.mpr ⟨List.mem_append_right _ (List.mem_of_getElem? (i := 447) (by decide +kernel)), by decide +kernel⟩
theorem wd_524 : Cond.methodLink RX8 132 yX8_hearOne ∈ TBL := List.mem_filter.mpr ⟨List.mem_append_right _ (List.mem_of_getElem? (i := 448) (by decide +kernel)), by decide +kernel⟩
theorem wd_525 : Cond.static yX8_hearOne ∈ TBL := List.mem_filter.mpr ⟨List.mem_append_right _ (List.mem_of_getElem? (i := 449) (by decide +kernel)), by decide +kernel⟩
theorem wd_526 : Cond.code yX8_hearOne cX8_hearOne 5 none ∈ TBL := List.mem_filter.mpr ⟨List.mem_append_right _ (List.mem_of_getElem? (i := 450) (by decide +kernel)), by decide +kernel⟩
theorem wd_527 : Cond.methodLink RX8 136 yX6_tellsNumber ∈ TBL := List.mem_filter.mpr ⟨List.mem_append_right _ (List.mem_of_getElem? (i := 451) (by decide +kernel)), by decide +kernel⟩
theorem wd_528 : Cond.instanceMethod yX6_tellsNumber ∈ TBL := List.mem_filter.mpr ⟨List.mem_append_right _ (List.mem_of_getElem? (i := 452) (by decide +kernel)), by decide +kernel⟩
theorem wd_529 : Cond.selects RX6 yX6_tellsNumber yX6_tellsNumber ∈ TBL := List.mem_filter.mpr ⟨List.mem_append_right _ (List.mem_of_getElem? (i := 453) (by decide +kernel)), by decide +kernel⟩
theorem wd_530 : Cond.code yX6_tellsNumber cX6_tellsNumber 2 (some .boolean) ∈ TBL := List.mem_filter.mpr ⟨List.mem_append_right _ (List.mem_of_getElem? (i := 454) (by decide +kernel)), by decide +kernel⟩
theorem wd_531 : Cond.methodLink RX6 56 yX6_hasPlace ∈ TBL := List.mem_filter.mpr ⟨List.mem_append_right _ (List.mem_of_getElem? (i := 455) (by decide +kernel)), by decide +kernel⟩
theorem wd_532 : Cond.instanceMethod yX6_hasPlace ∈ TBL := List.mem_filter.mpr ⟨List.mem_append_right _ (List.mem_of_getElem? (i := 456) (by decide +kernel)), by decide +kernel⟩
theorem wd_533 : Cond.selects RX6 yX6_hasPlace yX6_hasPlace ∈ TBL := List.mem_filter.mpr ⟨List.mem_append_right _ (List.mem_of_getElem? (i := 457) (by decide +kernel)), by decide +kernel⟩
theorem wd_534 : Cond.code yX6_hasPlace cX6_hasPlace 2 (some .boolean) ∈ TBL := List.mem_filter.mpr ⟨List.mem_append_right _ (List.mem_of_getElem? (i := 458) (by decide +kernel)), by decide +kernel⟩
theorem wd_535 : Cond.methodLinkNest RX6 52 yX8_within "HallSheets" ∈ NST := List.mem_filter.mpr ⟨List.mem_append_right _ (List.mem_of_getElem? (i := 459) (by decide +kernel)), by decide +kernel⟩
theorem wd_536 : Cond.methodLink RX6 60 yX6_leastNumber ∈ TBL := List.mem_filter.mpr ⟨List.mem_append_right _ (List.mem_of_getElem? (i := 460) (by decide +kernel)), by decide +kernel⟩
theorem wd_538 : Cond.instanceMethod yX6_leastNumber ∈ TBL := List.mem_filter.mpr ⟨List.mem_append_right _ (List.mem_of_getElem? (i := 462) (by decide +kernel)), by decide +kernel⟩
theorem wd_539 : Cond.code yX6_leastNumber cX6_leastNumber 1 (some .int) ∈ TBL := List.mem_filter.mpr ⟨List.mem_append_right _ (List.mem_of_getElem? (i := 463) (by decide +kernel)), by decide +kernel⟩
theorem wd_540 : Cond.constant RX6 64 (-2147483648) ∈ TBL := List.mem_filter.mpr ⟨List.mem_append_right _ (List.mem_of_getElem? (i := 464) (by decide +kernel)), by decide +kernel⟩
theorem wd_541 : Cond.methodLink RX8 142 yX8_heldTo ∈ TBL := List.mem_filter.mpr ⟨List.mem_append_right _ (List.mem_of_getElem? (i := 465) (by decide +kernel)), by decide +kernel⟩
theorem wd_542 : Cond.static yX8_heldTo ∈ TBL := List.mem_filter.mpr ⟨List.mem_append_right _ (List.mem_of_getElem? (i := 466) (by decide +kernel)), by decide +kernel⟩
theorem wd_543 : Cond.code yX8_heldTo cX8_heldTo 3 (some .int) ∈ TBL := List.mem_filter.mpr ⟨List.mem_append_right _ (List.mem_of_getElem? (i := 467) (by decide +kernel)), by decide +kernel⟩
theorem wd_544 : Cond.methodLink RX8 358 Lib.Math.min.name ∈ TBL := List.mem_filter.mpr ⟨List.mem_append_right _ (List.mem_of_getElem? (i := 468) (by decide +kernel)), by decide +kernel⟩
theorem wd_545 : Cond.methodLink RX8 363 Lib.Math.max.name ∈ TBL := List.mem_filter.mpr ⟨List.mem_append_right _ (List.mem_of_getElem? (i := 469) (by decide +kernel)), by decide +kernel⟩
theorem wd_546 : Cond.static Lib.Math.max.name ∈ TBL := List.mem_filter.mpr ⟨List.mem_append_right _ (List.mem_of_getElem? (i := 470) (by decide +kernel)), by decide +kernel⟩
theorem wd_547 : Cond.code Lib.Math.max.name Lib.Math.max.code 2 (some .int) ∈ TBL := List.mem_filter.mpr ⟨List.mem_append_right _ (List.mem_of_getElem? (i := 471) (by decide +kernel)), by decide +kernel⟩
theorem wd_552 : Cond.methodLink RX8 145 yX0_figureCount ∈ TBL := List.mem_filter.mpr ⟨List.mem_append_right _ (List.mem_of_getElem? (i := 476) (by decide +kernel)), by decide +kernel⟩
theorem wd_553 : Cond.instanceMethod yX0_figureCount ∈ TBL := List.mem_filter.mpr ⟨List.mem_append_right _ (List.mem_of_getElem? (i := 477) (by decide +kernel)), by decide +kernel⟩
theorem wd_554 : Cond.selects RX0 yX0_figureCount yX0_figureCount ∈ TBL := List.mem_filter.mpr ⟨List.mem_append_right _ (List.mem_of_getElem? (i := 478) (by decide +kernel)), by decide +kernel⟩
theorem wd_555 : Cond.code yX0_figureCount cX0_figureCount 3 (some .int) ∈ TBL := List.mem_filter.mpr ⟨List.mem_append_right _ (List.mem_of_getElem? (i := 479) (by decide +kernel)), by decide +kernel⟩
theorem wd_556 : Cond.methodLink RX0 92 yX0_countFigures ∈ TBL := List.mem_filter.mpr ⟨List.mem_append_right _ (List.mem_of_getElem? (i := 480) (by decide +kernel)), by decide +kernel⟩
theorem wd_558 : Cond.instanceMethod yX0_countFigures ∈ TBL := List.mem_filter.mpr ⟨List.mem_append_right _ (List.mem_of_getElem? (i := 482) (by decide +kernel)), by decide +kernel⟩
theorem wd_559 : Cond.code yX0_countFigures cX0_countFigures 5 (some .int) ∈ TBL := List.mem_filter.mpr ⟨List.mem_append_right _ (List.mem_of_getElem? (i := 483) (by decide +kernel)), by decide +kernel⟩
theorem wd_560 : Cond.methodLink RX0 96 yJ7_fill_53178 ∈ TBL := List.mem_filter.mpr ⟨List.mem_append_right _ (List.mem_of_getElem? (i := 484) (by decide +kernel)), by decide +kernel⟩
theorem wd_561 : Cond.static yJ7_fill_53178 ∈ TBL := List.mem_filter.mpr ⟨List.mem_append_right _ (List.mem_of_getElem? (i := 485) (by decide +kernel)), by decide +kernel⟩
theorem wd_562 : Cond.code yJ7_fill_53178 cJ7_fill_53178 4 none ∈ TBL := List.mem_filter.mpr ⟨List.mem_append_right _ (List.mem_of_getElem? (i := 486) (by decide +kernel)), by decide +kernel⟩
theorem wd_563 : Cond.methodLink RX0 102 yX1_firstFigure ∈ TBL := List.mem_filter.mpr ⟨List.mem_append_right _ (List.mem_of_getElem? (i := 487) (by decide +kernel)), by decide +kernel⟩
theorem wd_564 : Cond.instanceMethod yX1_firstFigure ∈ TBL := List.mem_filter.mpr ⟨List.mem_append_right _ (List.mem_of_getElem? (i := 488) (by decide +kernel)), by decide +kernel⟩
theorem wd_565 : Cond.selects RX1 yX1_firstFigure yX1_firstFigure ∈ TBL := List.mem_filter.mpr ⟨List.mem_append_right _ (List.mem_of_getElem? (i := 489) (by decide +kernel)), by decide +kernel⟩
theorem wd_566 : Cond.code yX1_firstFigure cX1_firstFigure 3 (some .int) ∈ TBL := List.mem_filter.mpr ⟨List.mem_append_right _ (List.mem_of_getElem? (i := 490) (by decide +kernel)), by decide +kernel⟩
theorem wd_567 : Cond.methodLink RX0 106 yX1_lastFigure ∈ TBL := List.mem_filter.mpr ⟨List.mem_append_right _ (List.mem_of_getElem? (i := 491) (by decide +kernel)), by decide +kernel⟩
theorem wd_568 : Cond.instanceMethod yX1_lastFigure ∈ TBL := List.mem_filter.mpr ⟨List.mem_append_right _ (List.mem_of_getElem? (i := 492) (by decide +kernel)), by decide +kernel⟩
theorem wd_569 : Cond.selects RX1 yX1_lastFigure yX1_lastFigure ∈ TBL := List.mem_filter.mpr ⟨List.mem_append_right _ (List.mem_of_getElem? (i := 493) (by decide +kernel)), by decide +kernel⟩
theorem wd_570 : Cond.code yX1_lastFigure cX1_lastFigure 1 (some .int) ∈ TBL := List.mem_filter.mpr ⟨List.mem_append_right _ (List.mem_of_getElem? (i := 494) (by decide +kernel)), by decide +kernel⟩
theorem wd_575 : Cond.constantLong RX8 149 (-1) ∈ TBL := List.mem_filter.mpr ⟨List.mem_append_right _ (List.mem_of_getElem? (i := 499) (by decide +kernel)), by decide +kernel⟩
theorem wd_576 : Cond.methodLink RX8 151 yX0_rowsWithFigure ∈ TBL := List.mem_filter.mpr ⟨List.mem_append_right _ (List.mem_of_getElem? (i := 500) (by decide +kernel)), by decide +kernel⟩
theorem wd_577 : Cond.instanceMethod yX0_rowsWithFigure ∈ TBL := List.mem_filter.mpr ⟨List.mem_append_right _ (List.mem_of_getElem? (i := 501) (by decide +kernel)), by decide +kernel⟩
theorem wd_578 : Cond.selects RX0 yX0_rowsWithFigure yX0_rowsWithFigure ∈ TBL := List.mem_filter.mpr ⟨List.mem_append_right _ (List.mem_of_getElem? (i := 502) (by decide +kernel)), by decide +kernel⟩
theorem wd_579 : Cond.code yX0_rowsWithFigure cX0_rowsWithFigure 6 (some .long) ∈ TBL := List.mem_filter.mpr ⟨List.mem_append_right _ (List.mem_of_getElem? (i := 503) (by decide +kernel)), by decide +kernel⟩
theorem wd_580 : Cond.methodLink RX0 109 yX0_rowsWith ∈ TBL := List.mem_filter.mpr ⟨List.mem_append_right _ (List.mem_of_getElem? (i := 504) (by decide +kernel)), by decide +kernel⟩
theorem wd_581 : Cond.static yX0_rowsWith ∈ TBL := List.mem_filter.mpr ⟨List.mem_append_right _ (List.mem_of_getElem? (i := 505) (by decide +kernel)), by decide +kernel⟩
theorem wd_582 : Cond.code yX0_rowsWith cX0_rowsWith 9 (some .long) ∈ TBL := List.mem_filter.mpr ⟨List.mem_append_right _ (List.mem_of_getElem? (i := 506) (by decide +kernel)), by decide +kernel⟩
theorem wd_583 : Cond.constantLong RX0 113 (9) ∈ TBL := List.mem_filter.mpr ⟨List.mem_append_right _ (List.mem_of_getElem? (i := 507) (by decide +kernel)), by decide +kernel⟩
theorem wd_588 : Cond.methodLink RX8 155 yX0_roundCount ∈ TBL := List.mem_filter.mpr ⟨List.mem_append_right _ (List.mem_of_getElem? (i := 512) (by decide +kernel)), by decide +kernel⟩
theorem wd_589 : Cond.instanceMethod yX0_roundCount ∈ TBL := List.mem_filter.mpr ⟨List.mem_append_right _ (List.mem_of_getElem? (i := 513) (by decide +kernel)), by decide +kernel⟩
theorem wd_590 : Cond.selects RX0 yX0_roundCount yX0_roundCount ∈ TBL := List.mem_filter.mpr ⟨List.mem_append_right _ (List.mem_of_getElem? (i := 514) (by decide +kernel)), by decide +kernel⟩
theorem wd_591 : Cond.code yX0_roundCount cX0_roundCount 5 (some .int) ∈ TBL := List.mem_filter.mpr ⟨List.mem_append_right _ (List.mem_of_getElem? (i := 515) (by decide +kernel)), by decide +kernel⟩
theorem wd_592 : Cond.methodLinkNest RX0 121 yX8_isRound "HallSheets" ∈ NST := List.mem_filter.mpr ⟨List.mem_append_right _ (List.mem_of_getElem? (i := 516) (by decide +kernel)), by decide +kernel⟩
theorem wd_593 : Cond.static yX8_isRound ∈ TBL := List.mem_filter.mpr ⟨List.mem_append_right _ (List.mem_of_getElem? (i := 517) (by decide +kernel)), by decide +kernel⟩
theorem wd_594 : Cond.code yX8_isRound cX8_isRound 2 (some .boolean) ∈ TBL := List.mem_filter.mpr ⟨List.mem_append_right _ (List.mem_of_getElem? (i := 518) (by decide +kernel)), by decide +kernel⟩
theorem wd_595 : Cond.methodLink RX0 125 yX1_share ∈ TBL := List.mem_filter.mpr ⟨List.mem_append_right _ (List.mem_of_getElem? (i := 519) (by decide +kernel)), by decide +kernel⟩
theorem wd_600 : Cond.methodLink RX8 158 yX8_roundChoices ∈ TBL := List.mem_filter.mpr ⟨List.mem_append_right _ (List.mem_of_getElem? (i := 524) (by decide +kernel)), by decide +kernel⟩
theorem wd_601 : Cond.static yX8_roundChoices ∈ TBL := List.mem_filter.mpr ⟨List.mem_append_right _ (List.mem_of_getElem? (i := 525) (by decide +kernel)), by decide +kernel⟩
theorem wd_602 : Cond.code yX8_roundChoices cX8_roundChoices 3 (some .int) ∈ TBL := List.mem_filter.mpr ⟨List.mem_append_right _ (List.mem_of_getElem? (i := 526) (by decide +kernel)), by decide +kernel⟩
theorem wd_603 : Cond.methodLink RX8 164 yX8_isRound ∈ TBL := List.mem_filter.mpr ⟨List.mem_append_right _ (List.mem_of_getElem? (i := 527) (by decide +kernel)), by decide +kernel⟩
theorem wd_604 : Cond.methodLink RX8 161 yX8_leastCame ∈ TBL := List.mem_filter.mpr ⟨List.mem_append_right _ (List.mem_of_getElem? (i := 528) (by decide +kernel)), by decide +kernel⟩
theorem wd_605 : Cond.static yX8_leastCame ∈ TBL := List.mem_filter.mpr ⟨List.mem_append_right _ (List.mem_of_getElem? (i := 529) (by decide +kernel)), by decide +kernel⟩
theorem wd_606 : Cond.code yX8_leastCame cX8_leastCame 2 (some .int) ∈ TBL := List.mem_filter.mpr ⟨List.mem_append_right _ (List.mem_of_getElem? (i := 530) (by decide +kernel)), by decide +kernel⟩
theorem wd_611 : Cond.methodLink RX8 168 yX0_middleShare ∈ TBL := List.mem_filter.mpr ⟨List.mem_append_right _ (List.mem_of_getElem? (i := 535) (by decide +kernel)), by decide +kernel⟩
theorem wd_612 : Cond.instanceMethod yX0_middleShare ∈ TBL := List.mem_filter.mpr ⟨List.mem_append_right _ (List.mem_of_getElem? (i := 536) (by decide +kernel)), by decide +kernel⟩
theorem wd_613 : Cond.selects RX0 yX0_middleShare yX0_middleShare ∈ TBL := List.mem_filter.mpr ⟨List.mem_append_right _ (List.mem_of_getElem? (i := 537) (by decide +kernel)), by decide +kernel⟩
theorem wd_614 : Cond.code yX0_middleShare cX0_middleShare 5 (some .int) ∈ TBL := List.mem_filter.mpr ⟨List.mem_append_right _ (List.mem_of_getElem? (i := 538) (by decide +kernel)), by decide +kernel⟩
theorem wd_615 : Cond.methodLink RX0 134 yX0_putInOrder ∈ TBL := List.mem_filter.mpr ⟨List.mem_append_right _ (List.mem_of_getElem? (i := 539) (by decide +kernel)), by decide +kernel⟩
theorem wd_617 : Cond.instanceMethod yX0_putInOrder ∈ TBL := List.mem_filter.mpr ⟨List.mem_append_right _ (List.mem_of_getElem? (i := 541) (by decide +kernel)), by decide +kernel⟩
theorem wd_618 : Cond.code yX0_putInOrder cX0_putInOrder 4 none ∈ TBL := List.mem_filter.mpr ⟨List.mem_append_right _ (List.mem_of_getElem? (i := 542) (by decide +kernel)), by decide +kernel⟩
theorem wd_623 : Cond.constant RX8 171 (-1000000001) ∈ TBL := List.mem_filter.mpr ⟨List.mem_append_right _ (List.mem_of_getElem? (i := 547) (by decide +kernel)), by decide +kernel⟩
theorem wd_624 : Cond.constant RX8 172 (-1000000004) ∈ TBL := List.mem_filter.mpr ⟨List.mem_append_right _ (List.mem_of_getElem? (i := 548) (by decide +kernel)), by decide +kernel⟩
theorem wd_625 : Cond.methodLink RX8 173 yX0_shareFromMiddle ∈ TBL := List.mem_filter.mpr ⟨List.mem_append_right _ (List.mem_of_getElem? (i := 549) (by decide +kernel)), by decide +kernel⟩
theorem wd_626 : Cond.instanceMethod yX0_shareFromMiddle ∈ TBL := List.mem_filter.mpr ⟨List.mem_append_right _ (List.mem_of_getElem? (i := 550) (by decide +kernel)), by decide +kernel⟩
theorem wd_627 : Cond.selects RX0 yX0_shareFromMiddle yX0_shareFromMiddle ∈ TBL := List.mem_filter.mpr ⟨List.mem_append_right _ (List.mem_of_getElem? (i := 551) (by decide +kernel)), by decide +kernel⟩
theorem wd_628 : Cond.code yX0_shareFromMiddle cX0_shareFromMiddle 2 (some .int) ∈ TBL := List.mem_filter.mpr ⟨List.mem_append_right _ (List.mem_of_getElem? (i := 552) (by decide +kernel)), by decide +kernel⟩
theorem wd_629 : Cond.methodLink RX0 138 yX0_middleShare ∈ TBL := List.mem_filter.mpr ⟨List.mem_append_right _ (List.mem_of_getElem? (i := 553) (by decide +kernel)), by decide +kernel⟩
theorem wd_634 : Cond.methodLink RX8 180 yX0_hasHighKin ∈ TBL := List.mem_filter.mpr ⟨List.mem_append_right _ (List.mem_of_getElem? (i := 558) (by decide +kernel)), by decide +kernel⟩
theorem wd_635 : Cond.instanceMethod yX0_hasHighKin ∈ TBL := List.mem_filter.mpr ⟨List.mem_append_right _ (List.mem_of_getElem? (i := 559) (by decide +kernel)), by decide +kernel⟩
theorem wd_636 : Cond.selects RX0 yX0_hasHighKin yX0_hasHighKin ∈ TBL := List.mem_filter.mpr ⟨List.mem_append_right _ (List.mem_of_getElem? (i := 560) (by decide +kernel)), by decide +kernel⟩
theorem wd_637 : Cond.code yX0_hasHighKin cX0_hasHighKin 4 (some .boolean) ∈ TBL := List.mem_filter.mpr ⟨List.mem_append_right _ (List.mem_of_getElem? (i := 561) (by decide +kernel)), by decide +kernel⟩
theorem wd_646 : Cond.methodLink RX8 186 yX7_look ∈ TBL := List.mem_filter.mpr ⟨List.mem_append_right _ (List.mem_of_getElem? (i := 570) (by decide +kernel)), by decide +kernel⟩
theorem wd_647 : Cond.instanceMethod yX7_look ∈ TBL := List.mem_filter.mpr ⟨List.mem_append_right _ (List.mem_of_getElem? (i := 571) (by decide +kernel)), by decide +kernel⟩
theorem wd_648 : Cond.selects RX7 yX7_look yX7_look ∈ TBL := List.mem_filter.mpr ⟨List.mem_append_right _ (List.mem_of_getElem? (i := 572) (by decide +kernel)), by decide +kernel⟩
theorem wd_649 : Cond.code yX7_look cX7_look 4 none ∈ TBL := List.mem_filter.mpr ⟨List.mem_append_right _ (List.mem_of_getElem? (i := 573) (by decide +kernel)), by decide +kernel⟩
theorem wd_650 : Cond.methodLink RX7 43 yX1_share ∈ TBL := List.mem_filter.mpr ⟨List.mem_append_right _ (List.mem_of_getElem? (i := 574) (by decide +kernel)), by decide +kernel⟩
theorem wd_651 : Cond.methodLink RX8 190 yX7_areSome ∈ TBL := List.mem_filter.mpr ⟨List.mem_append_right _ (List.mem_of_getElem? (i := 575) (by decide +kernel)), by decide +kernel⟩
theorem wd_652 : Cond.instanceMethod yX7_areSome ∈ TBL := List.mem_filter.mpr ⟨List.mem_append_right _ (List.mem_of_getElem? (i := 576) (by decide +kernel)), by decide +kernel⟩
theorem wd_653 : Cond.selects RX7 yX7_areSome yX7_areSome ∈ TBL := List.mem_filter.mpr ⟨List.mem_append_right _ (List.mem_of_getElem? (i := 577) (by decide +kernel)), by decide +kernel⟩
theorem wd_654 : Cond.code yX7_areSome cX7_areSome 1 (some .boolean) ∈ TBL := List.mem_filter.mpr ⟨List.mem_append_right _ (List.mem_of_getElem? (i := 578) (by decide +kernel)), by decide +kernel⟩
theorem wd_655 : Cond.methodLink RX8 194 yX7_worth ∈ TBL := List.mem_filter.mpr ⟨List.mem_append_right _ (List.mem_of_getElem? (i := 579) (by decide +kernel)), by decide +kernel⟩
theorem wd_656 : Cond.instanceMethod yX7_worth ∈ TBL := List.mem_filter.mpr ⟨List.mem_append_right _ (List.mem_of_getElem? (i := 580) (by decide +kernel)), by decide +kernel⟩
theorem wd_657 : Cond.selects RX7 yX7_worth yX7_worth ∈ TBL := List.mem_filter.mpr ⟨List.mem_append_right _ (List.mem_of_getElem? (i := 581) (by decide +kernel)), by decide +kernel⟩
theorem wd_658 : Cond.code yX7_worth cX7_worth 1 (some .int) ∈ TBL := List.mem_filter.mpr ⟨List.mem_append_right _ (List.mem_of_getElem? (i := 582) (by decide +kernel)), by decide +kernel⟩
theorem wd_663 : Cond.methodLink RX8 197 yX7_areFew ∈ TBL := List.mem_filter.mpr ⟨List.mem_append_right _ (List.mem_of_getElem? (i := 587) (by decide +kernel)), by decide +kernel⟩
theorem wd_664 : Cond.instanceMethod yX7_areFew ∈ TBL := List.mem_filter.mpr ⟨List.mem_append_right _ (List.mem_of_getElem? (i := 588) (by decide +kernel)), by decide +kernel⟩
theorem wd_665 : Cond.selects RX7 yX7_areFew yX7_areFew ∈ TBL := List.mem_filter.mpr ⟨List.mem_append_right _ (List.mem_of_getElem? (i := 589) (by decide +kernel)), by decide +kernel⟩
theorem wd_666 : Cond.code yX7_areFew cX7_areFew 1 (some .boolean) ∈ TBL := List.mem_filter.mpr ⟨List.mem_append_right _ (List.mem_of_getElem? (i := 590) (by decide +kernel)), by decide +kernel⟩
theorem wd_667 : Cond.methodLink RX8 200 yX7_choices ∈ TBL := List.mem_filter.mpr ⟨List.mem_append_right _ (List.mem_of_getElem? (i := 591) (by decide +kernel)), by decide +kernel⟩
theorem wd_668 : Cond.instanceMethod yX7_choices ∈ TBL := List.mem_filter.mpr ⟨List.mem_append_right _ (List.mem_of_getElem? (i := 592) (by decide +kernel)), by decide +kernel⟩
theorem wd_669 : Cond.selects RX7 yX7_choices yX7_choices ∈ TBL := List.mem_filter.mpr ⟨List.mem_append_right _ (List.mem_of_getElem? (i := 593) (by decide +kernel)), by decide +kernel⟩
theorem wd_670 : Cond.code yX7_choices cX7_choices 4 (some .int) ∈ TBL := List.mem_filter.mpr ⟨List.mem_append_right _ (List.mem_of_getElem? (i := 594) (by decide +kernel)), by decide +kernel⟩
theorem wd_671 : Cond.methodLink RX7 49 yX7_areFew ∈ TBL := List.mem_filter.mpr ⟨List.mem_append_right _ (List.mem_of_getElem? (i := 595) (by decide +kernel)), by decide +kernel⟩
theorem wd_672 : Cond.methodLink RX7 53 yJ6_bitCount_0f7a4 ∈ TBL := List.mem_filter.mpr ⟨List.mem_append_right _ (List.mem_of_getElem? (i := 596) (by decide +kernel)), by decide +kernel⟩
theorem wd_673 : Cond.static yJ6_bitCount_0f7a4 ∈ TBL := List.mem_filter.mpr ⟨List.mem_append_right _ (List.mem_of_getElem? (i := 597) (by decide +kernel)), by decide +kernel⟩
theorem wd_674 : Cond.code yJ6_bitCount_0f7a4 cJ6_bitCount_0f7a4 1 (some .int) ∈ TBL := List.mem_filter.mpr ⟨List.mem_append_right _ (List.mem_of_getElem? (i := 598) (by decide +kernel)), by decide +kernel⟩
theorem wd_675 : Cond.constant RJ6 265 (1431655765) ∈ TBL := List.mem_filter.mpr ⟨List.mem_append_right _ (List.mem_of_getElem? (i := 599) (by decide +kernel)), by decide +kernel⟩
theorem wd_676 : Cond.constant RJ6 266 (858993459) ∈ TBL := List.mem_filter.mpr ⟨List.mem_append_right _ (List.mem_of_getElem? (i := 600) (by decide +kernel)), by decide +kernel⟩
theorem wd_677 : Cond.constant RJ6 267 (252645135) ∈ TBL := List.mem_filter.mpr ⟨List.mem_append_right _ (List.mem_of_getElem? (i := 601) (by decide +kernel)), by decide +kernel⟩
theorem wd_678 : Cond.methodLink RX7 59 yX7_sharesIn ∈ TBL := List.mem_filter.mpr ⟨List.mem_append_right _ (List.mem_of_getElem? (i := 602) (by decide +kernel)), by decide +kernel⟩
theorem wd_680 : Cond.instanceMethod yX7_sharesIn ∈ TBL := List.mem_filter.mpr ⟨List.mem_append_right _ (List.mem_of_getElem? (i := 604) (by decide +kernel)), by decide +kernel⟩
theorem wd_681 : Cond.code yX7_sharesIn cX7_sharesIn 4 (some .int) ∈ TBL := List.mem_filter.mpr ⟨List.mem_append_right _ (List.mem_of_getElem? (i := 605) (by decide +kernel)), by decide +kernel⟩
theorem wd_686 : Cond.methodLink RX8 204 yX8_isDistrict ∈ TBL := List.mem_filter.mpr ⟨List.mem_append_right _ (List.mem_of_getElem? (i := 610) (by decide +kernel)), by decide +kernel⟩
theorem wd_687 : Cond.static yX8_isDistrict ∈ TBL := List.mem_filter.mpr ⟨List.mem_append_right _ (List.mem_of_getElem? (i := 611) (by decide +kernel)), by decide +kernel⟩
theorem wd_688 : Cond.code yX8_isDistrict cX8_isDistrict 1 (some .boolean) ∈ TBL := List.mem_filter.mpr ⟨List.mem_append_right _ (List.mem_of_getElem? (i := 612) (by decide +kernel)), by decide +kernel⟩
theorem wd_689 : Cond.constant RX8 207 (99999) ∈ TBL := List.mem_filter.mpr ⟨List.mem_append_right _ (List.mem_of_getElem? (i := 613) (by decide +kernel)), by decide +kernel⟩
theorem wd_698 : Cond.methodLink RX8 216 yX0_writtenCame ∈ TBL := List.mem_filter.mpr ⟨List.mem_append_right _ (List.mem_of_getElem? (i := 622) (by decide +kernel)), by decide +kernel⟩
theorem wd_699 : Cond.instanceMethod yX0_writtenCame ∈ TBL := List.mem_filter.mpr ⟨List.mem_append_right _ (List.mem_of_getElem? (i := 623) (by decide +kernel)), by decide +kernel⟩
theorem wd_700 : Cond.selects RX0 yX0_writtenCame yX0_writtenCame ∈ TBL := List.mem_filter.mpr ⟨List.mem_append_right _ (List.mem_of_getElem? (i := 624) (by decide +kernel)), by decide +kernel⟩
theorem wd_701 : Cond.code yX0_writtenCame cX0_writtenCame 4 (some .int) ∈ TBL := List.mem_filter.mpr ⟨List.mem_append_right _ (List.mem_of_getElem? (i := 625) (by decide +kernel)), by decide +kernel⟩
theorem wd_702 : Cond.methodLink RX8 219 yX0_writtenOurs ∈ TBL := List.mem_filter.mpr ⟨List.mem_append_right _ (List.mem_of_getElem? (i := 626) (by decide +kernel)), by decide +kernel⟩
theorem wd_703 : Cond.instanceMethod yX0_writtenOurs ∈ TBL := List.mem_filter.mpr ⟨List.mem_append_right _ (List.mem_of_getElem? (i := 627) (by decide +kernel)), by decide +kernel⟩
theorem wd_704 : Cond.selects RX0 yX0_writtenOurs yX0_writtenOurs ∈ TBL := List.mem_filter.mpr ⟨List.mem_append_right _ (List.mem_of_getElem? (i := 628) (by decide +kernel)), by decide +kernel⟩
theorem wd_705 : Cond.code yX0_writtenOurs cX0_writtenOurs 4 (some .int) ∈ TBL := List.mem_filter.mpr ⟨List.mem_append_right _ (List.mem_of_getElem? (i := 629) (by decide +kernel)), by decide +kernel⟩
theorem wd_706 : Cond.methodLink RX8 222 yX0_sentCame ∈ TBL := List.mem_filter.mpr ⟨List.mem_append_right _ (List.mem_of_getElem? (i := 630) (by decide +kernel)), by decide +kernel⟩
theorem wd_707 : Cond.instanceMethod yX0_sentCame ∈ TBL := List.mem_filter.mpr ⟨List.mem_append_right _ (List.mem_of_getElem? (i := 631) (by decide +kernel)), by decide +kernel⟩
theorem wd_708 : Cond.selects RX0 yX0_sentCame yX0_sentCame ∈ TBL := List.mem_filter.mpr ⟨List.mem_append_right _ (List.mem_of_getElem? (i := 632) (by decide +kernel)), by decide +kernel⟩
theorem wd_709 : Cond.code yX0_sentCame cX0_sentCame 2 (some .int) ∈ TBL := List.mem_filter.mpr ⟨List.mem_append_right _ (List.mem_of_getElem? (i := 633) (by decide +kernel)), by decide +kernel⟩
theorem wd_710 : Cond.methodLink RX0 145 yX0_writtenCame ∈ TBL := List.mem_filter.mpr ⟨List.mem_append_right _ (List.mem_of_getElem? (i := 634) (by decide +kernel)), by decide +kernel⟩
theorem wd_711 : Cond.methodLink RX8 225 yX0_sentOurs ∈ TBL := List.mem_filter.mpr ⟨List.mem_append_right _ (List.mem_of_getElem? (i := 635) (by decide +kernel)), by decide +kernel⟩
theorem wd_712 : Cond.instanceMethod yX0_sentOurs ∈ TBL := List.mem_filter.mpr ⟨List.mem_append_right _ (List.mem_of_getElem? (i := 636) (by decide +kernel)), by decide +kernel⟩
theorem wd_713 : Cond.selects RX0 yX0_sentOurs yX0_sentOurs ∈ TBL := List.mem_filter.mpr ⟨List.mem_append_right _ (List.mem_of_getElem? (i := 637) (by decide +kernel)), by decide +kernel⟩
theorem wd_714 : Cond.code yX0_sentOurs cX0_sentOurs 2 (some .int) ∈ TBL := List.mem_filter.mpr ⟨List.mem_append_right _ (List.mem_of_getElem? (i := 638) (by decide +kernel)), by decide +kernel⟩
theorem wd_715 : Cond.methodLink RX0 148 yX0_writtenOurs ∈ TBL := List.mem_filter.mpr ⟨List.mem_append_right _ (List.mem_of_getElem? (i := 639) (by decide +kernel)), by decide +kernel⟩
theorem wd_720 : Cond.methodLink RX8 228 yX0_sentMargin ∈ TBL := List.mem_filter.mpr ⟨List.mem_append_right _ (List.mem_of_getElem? (i := 644) (by decide +kernel)), by decide +kernel⟩
theorem wd_721 : Cond.instanceMethod yX0_sentMargin ∈ TBL := List.mem_filter.mpr ⟨List.mem_append_right _ (List.mem_of_getElem? (i := 645) (by decide +kernel)), by decide +kernel⟩
theorem wd_722 : Cond.selects RX0 yX0_sentMargin yX0_sentMargin ∈ TBL := List.mem_filter.mpr ⟨List.mem_append_right _ (List.mem_of_getElem? (i := 646) (by decide +kernel)), by decide +kernel⟩
theorem wd_723 : Cond.code yX0_sentMargin cX0_sentMargin 3 (some .int) ∈ TBL := List.mem_filter.mpr ⟨List.mem_append_right _ (List.mem_of_getElem? (i := 647) (by decide +kernel)), by decide +kernel⟩
theorem wd_724 : Cond.methodLink RX0 151 yX0_sentOurs ∈ TBL := List.mem_filter.mpr ⟨List.mem_append_right _ (List.mem_of_getElem? (i := 648) (by decide +kernel)), by decide +kernel⟩
theorem wd_725 : Cond.methodLink RX0 154 yX0_sentCame ∈ TBL := List.mem_filter.mpr ⟨List.mem_append_right _ (List.mem_of_getElem? (i := 649) (by decide +kernel)), by decide +kernel⟩
theorem wd_730 : Cond.methodLink RX8 231 yX0_writtenMargin ∈ TBL := List.mem_filter.mpr ⟨List.mem_append_right _ (List.mem_of_getElem? (i := 654) (by decide +kernel)), by decide +kernel⟩
theorem wd_731 : Cond.instanceMethod yX0_writtenMargin ∈ TBL := List.mem_filter.mpr ⟨List.mem_append_right _ (List.mem_of_getElem? (i := 655) (by decide +kernel)), by decide +kernel⟩
theorem wd_732 : Cond.selects RX0 yX0_writtenMargin yX0_writtenMargin ∈ TBL := List.mem_filter.mpr ⟨List.mem_append_right _ (List.mem_of_getElem? (i := 656) (by decide +kernel)), by decide +kernel⟩
theorem wd_733 : Cond.code yX0_writtenMargin cX0_writtenMargin 1 (some .int) ∈ TBL := List.mem_filter.mpr ⟨List.mem_append_right _ (List.mem_of_getElem? (i := 657) (by decide +kernel)), by decide +kernel⟩
theorem wd_734 : Cond.methodLink RX0 157 yX0_allWrittenOurs ∈ TBL := List.mem_filter.mpr ⟨List.mem_append_right _ (List.mem_of_getElem? (i := 658) (by decide +kernel)), by decide +kernel⟩
theorem wd_735 : Cond.instanceMethod yX0_allWrittenOurs ∈ TBL := List.mem_filter.mpr ⟨List.mem_append_right _ (List.mem_of_getElem? (i := 659) (by decide +kernel)), by decide +kernel⟩
theorem wd_736 : Cond.selects RX0 yX0_allWrittenOurs yX0_allWrittenOurs ∈ TBL := List.mem_filter.mpr ⟨List.mem_append_right _ (List.mem_of_getElem? (i := 660) (by decide +kernel)), by decide +kernel⟩
theorem wd_737 : Cond.code yX0_allWrittenOurs cX0_allWrittenOurs 3 (some .int) ∈ TBL := List.mem_filter.mpr ⟨List.mem_append_right _ (List.mem_of_getElem? (i := 661) (by decide +kernel)), by decide +kernel⟩
theorem wd_738 : Cond.methodLink RX0 160 yX0_allWrittenCame ∈ TBL := List.mem_filter.mpr ⟨List.mem_append_right _ (List.mem_of_getElem? (i := 662) (by decide +kernel)), by decide +kernel⟩
theorem wd_739 : Cond.instanceMethod yX0_allWrittenCame ∈ TBL := List.mem_filter.mpr ⟨List.mem_append_right _ (List.mem_of_getElem? (i := 663) (by decide +kernel)), by decide +kernel⟩
theorem wd_740 : Cond.selects RX0 yX0_allWrittenCame yX0_allWrittenCame ∈ TBL := List.mem_filter.mpr ⟨List.mem_append_right _ (List.mem_of_getElem? (i := 664) (by decide +kernel)), by decide +kernel⟩
theorem wd_741 : Cond.code yX0_allWrittenCame cX0_allWrittenCame 3 (some .int) ∈ TBL := List.mem_filter.mpr ⟨List.mem_append_right _ (List.mem_of_getElem? (i := 665) (by decide +kernel)), by decide +kernel⟩
theorem wd_746 : Cond.methodLink RX8 234 yX0_allUntrue ∈ TBL := List.mem_filter.mpr ⟨List.mem_append_right _ (List.mem_of_getElem? (i := 670) (by decide +kernel)), by decide +kernel⟩
theorem wd_747 : Cond.instanceMethod yX0_allUntrue ∈ TBL := List.mem_filter.mpr ⟨List.mem_append_right _ (List.mem_of_getElem? (i := 671) (by decide +kernel)), by decide +kernel⟩
theorem wd_748 : Cond.selects RX0 yX0_allUntrue yX0_allUntrue ∈ TBL := List.mem_filter.mpr ⟨List.mem_append_right _ (List.mem_of_getElem? (i := 672) (by decide +kernel)), by decide +kernel⟩
theorem wd_749 : Cond.code yX0_allUntrue cX0_allUntrue 3 (some .int) ∈ TBL := List.mem_filter.mpr ⟨List.mem_append_right _ (List.mem_of_getElem? (i := 673) (by decide +kernel)), by decide +kernel⟩
theorem wd_750 : Cond.methodLink RX0 163 yX1_untruth ∈ TBL := List.mem_filter.mpr ⟨List.mem_append_right _ (List.mem_of_getElem? (i := 674) (by decide +kernel)), by decide +kernel⟩
theorem wd_751 : Cond.instanceMethod yX1_untruth ∈ TBL := List.mem_filter.mpr ⟨List.mem_append_right _ (List.mem_of_getElem? (i := 675) (by decide +kernel)), by decide +kernel⟩
theorem wd_752 : Cond.selects RX1 yX1_untruth yX1_untruth ∈ TBL := List.mem_filter.mpr ⟨List.mem_append_right _ (List.mem_of_getElem? (i := 676) (by decide +kernel)), by decide +kernel⟩
theorem wd_753 : Cond.code yX1_untruth cX1_untruth 1 (some .int) ∈ TBL := List.mem_filter.mpr ⟨List.mem_append_right _ (List.mem_of_getElem? (i := 677) (by decide +kernel)), by decide +kernel⟩
theorem wd_754 : Cond.methodLink RX1 74 Lib.Math.abs.name ∈ TBL := List.mem_filter.mpr ⟨List.mem_append_right _ (List.mem_of_getElem? (i := 678) (by decide +kernel)), by decide +kernel⟩
theorem wd_755 : Cond.static Lib.Math.abs.name ∈ TBL := List.mem_filter.mpr ⟨List.mem_append_right _ (List.mem_of_getElem? (i := 679) (by decide +kernel)), by decide +kernel⟩
theorem wd_756 : Cond.code Lib.Math.abs.name Lib.Math.abs.code 1 (some .int) ∈ TBL := List.mem_filter.mpr ⟨List.mem_append_right _ (List.mem_of_getElem? (i := 680) (by decide +kernel)), by decide +kernel⟩
theorem wd_757 : Cond.methodLink RX1 80 Lib.Math.max.name ∈ TBL := List.mem_filter.mpr ⟨List.mem_append_right _ (List.mem_of_getElem? (i := 681) (by decide +kernel)), by decide +kernel⟩
theorem wd_758 : Cond.methodLink RX8 237 yX0_allMustBe ∈ TBL := List.mem_filter.mpr ⟨List.mem_append_right _ (List.mem_of_getElem? (i := 682) (by decide +kernel)), by decide +kernel⟩
theorem wd_759 : Cond.instanceMethod yX0_allMustBe ∈ TBL := List.mem_filter.mpr ⟨List.mem_append_right _ (List.mem_of_getElem? (i := 683) (by decide +kernel)), by decide +kernel⟩
theorem wd_760 : Cond.selects RX0 yX0_allMustBe yX0_allMustBe ∈ TBL := List.mem_filter.mpr ⟨List.mem_append_right _ (List.mem_of_getElem? (i := 684) (by decide +kernel)), by decide +kernel⟩
theorem wd_761 : Cond.code yX0_allMustBe cX0_allMustBe 3 (some .int) ∈ TBL := List.mem_filter.mpr ⟨List.mem_append_right _ (List.mem_of_getElem? (i := 685) (by decide +kernel)), by decide +kernel⟩
theorem wd_762 : Cond.methodLink RX0 166 yX1_mustBe ∈ TBL := List.mem_filter.mpr ⟨List.mem_append_right _ (List.mem_of_getElem? (i := 686) (by decide +kernel)), by decide +kernel⟩
theorem wd_763 : Cond.instanceMethod yX1_mustBe ∈ TBL := List.mem_filter.mpr ⟨List.mem_append_right _ (List.mem_of_getElem? (i := 687) (by decide +kernel)), by decide +kernel⟩
theorem wd_764 : Cond.selects RX1 yX1_mustBe yX1_mustBe ∈ TBL := List.mem_filter.mpr ⟨List.mem_append_right _ (List.mem_of_getElem? (i := 688) (by decide +kernel)), by decide +kernel⟩
theorem wd_765 : Cond.code yX1_mustBe cX1_mustBe 1 (some .int) ∈ TBL := List.mem_filter.mpr ⟨List.mem_append_right _ (List.mem_of_getElem? (i := 689) (by decide +kernel)), by decide +kernel⟩
theorem wd_766 : Cond.methodLink RX8 240 yX1_untruth ∈ TBL := List.mem_filter.mpr ⟨List.mem_append_right _ (List.mem_of_getElem? (i := 690) (by decide +kernel)), by decide +kernel⟩
theorem wd_767 : Cond.methodLink RX8 243 yX1_mustBe ∈ TBL := List.mem_filter.mpr ⟨List.mem_append_right _ (List.mem_of_getElem? (i := 691) (by decide +kernel)), by decide +kernel⟩
theorem wd_772 : Cond.methodLink RX8 246 yX0_fewestTurns ∈ TBL := List.mem_filter.mpr ⟨List.mem_append_right _ (List.mem_of_getElem? (i := 696) (by decide +kernel)), by decide +kernel⟩
theorem wd_773 : Cond.instanceMethod yX0_fewestTurns ∈ TBL := List.mem_filter.mpr ⟨List.mem_append_right _ (List.mem_of_getElem? (i := 697) (by decide +kernel)), by decide +kernel⟩
theorem wd_774 : Cond.selects RX0 yX0_fewestTurns yX0_fewestTurns ∈ TBL := List.mem_filter.mpr ⟨List.mem_append_right _ (List.mem_of_getElem? (i := 698) (by decide +kernel)), by decide +kernel⟩
theorem wd_775 : Cond.code yX0_fewestTurns cX0_fewestTurns 5 (some .int) ∈ TBL := List.mem_filter.mpr ⟨List.mem_append_right _ (List.mem_of_getElem? (i := 699) (by decide +kernel)), by decide +kernel⟩
theorem wd_776 : Cond.methodLink RX0 169 yX0_writtenMargin ∈ TBL := List.mem_filter.mpr ⟨List.mem_append_right _ (List.mem_of_getElem? (i := 700) (by decide +kernel)), by decide +kernel⟩
theorem wd_777 : Cond.methodLink RX0 172 yX0_mostFalling ∈ TBL := List.mem_filter.mpr ⟨List.mem_append_right _ (List.mem_of_getElem? (i := 701) (by decide +kernel)), by decide +kernel⟩
theorem wd_779 : Cond.instanceMethod yX0_mostFalling ∈ TBL := List.mem_filter.mpr ⟨List.mem_append_right _ (List.mem_of_getElem? (i := 703) (by decide +kernel)), by decide +kernel⟩
theorem wd_780 : Cond.code yX0_mostFalling cX0_mostFalling 5 (some .int) ∈ TBL := List.mem_filter.mpr ⟨List.mem_append_right _ (List.mem_of_getElem? (i := 704) (by decide +kernel)), by decide +kernel⟩
theorem wd_781 : Cond.methodLink RX0 175 yX1_marginFall ∈ TBL := List.mem_filter.mpr ⟨List.mem_append_right _ (List.mem_of_getElem? (i := 705) (by decide +kernel)), by decide +kernel⟩
theorem wd_782 : Cond.instanceMethod yX1_marginFall ∈ TBL := List.mem_filter.mpr ⟨List.mem_append_right _ (List.mem_of_getElem? (i := 706) (by decide +kernel)), by decide +kernel⟩
theorem wd_783 : Cond.selects RX1 yX1_marginFall yX1_marginFall ∈ TBL := List.mem_filter.mpr ⟨List.mem_append_right _ (List.mem_of_getElem? (i := 707) (by decide +kernel)), by decide +kernel⟩
theorem wd_784 : Cond.code yX1_marginFall cX1_marginFall 1 (some .int) ∈ TBL := List.mem_filter.mpr ⟨List.mem_append_right _ (List.mem_of_getElem? (i := 708) (by decide +kernel)), by decide +kernel⟩
theorem wd_785 : Cond.methodLink RX1 83 yX1_margin ∈ TBL := List.mem_filter.mpr ⟨List.mem_append_right _ (List.mem_of_getElem? (i := 709) (by decide +kernel)), by decide +kernel⟩
theorem wd_786 : Cond.instanceMethod yX1_margin ∈ TBL := List.mem_filter.mpr ⟨List.mem_append_right _ (List.mem_of_getElem? (i := 710) (by decide +kernel)), by decide +kernel⟩
theorem wd_787 : Cond.selects RX1 yX1_margin yX1_margin ∈ TBL := List.mem_filter.mpr ⟨List.mem_append_right _ (List.mem_of_getElem? (i := 711) (by decide +kernel)), by decide +kernel⟩
theorem wd_788 : Cond.code yX1_margin cX1_margin 1 (some .int) ∈ TBL := List.mem_filter.mpr ⟨List.mem_append_right _ (List.mem_of_getElem? (i := 712) (by decide +kernel)), by decide +kernel⟩
theorem wd_793 : Cond.methodLink RX8 249 yX4_plan ∈ TBL := List.mem_filter.mpr ⟨List.mem_append_right _ (List.mem_of_getElem? (i := 717) (by decide +kernel)), by decide +kernel⟩
theorem wd_794 : Cond.instanceMethod yX4_plan ∈ TBL := List.mem_filter.mpr ⟨List.mem_append_right _ (List.mem_of_getElem? (i := 718) (by decide +kernel)), by decide +kernel⟩
theorem wd_795 : Cond.selects RX4 yX4_plan yX4_plan ∈ TBL := List.mem_filter.mpr ⟨List.mem_append_right _ (List.mem_of_getElem? (i := 719) (by decide +kernel)), by decide +kernel⟩
theorem wd_796 : Cond.code yX4_plan cX4_plan 8 none ∈ TBL := List.mem_filter.mpr ⟨List.mem_append_right _ (List.mem_of_getElem? (i := 720) (by decide +kernel)), by decide +kernel⟩
theorem wd_797 : Cond.methodLink RX4 18 yJ7_fill_53178 ∈ TBL := List.mem_filter.mpr ⟨List.mem_append_right _ (List.mem_of_getElem? (i := 721) (by decide +kernel)), by decide +kernel⟩
theorem wd_798 : Cond.methodLink RX4 24 yX0_middleShare ∈ TBL := List.mem_filter.mpr ⟨List.mem_append_right _ (List.mem_of_getElem? (i := 722) (by decide +kernel)), by decide +kernel⟩
theorem wd_799 : Cond.methodLink RX4 44 yX1_share ∈ TBL := List.mem_filter.mpr ⟨List.mem_append_right _ (List.mem_of_getElem? (i := 723) (by decide +kernel)), by decide +kernel⟩
theorem wd_800 : Cond.methodLink RX4 54 yX1_mustBe ∈ TBL := List.mem_filter.mpr ⟨List.mem_append_right _ (List.mem_of_getElem? (i := 724) (by decide +kernel)), by decide +kernel⟩
theorem wd_801 : Cond.methodLink RX4 57 yX4_worthOf ∈ TBL := List.mem_filter.mpr ⟨List.mem_append_right _ (List.mem_of_getElem? (i := 725) (by decide +kernel)), by decide +kernel⟩
theorem wd_802 : Cond.static yX4_worthOf ∈ TBL := List.mem_filter.mpr ⟨List.mem_append_right _ (List.mem_of_getElem? (i := 726) (by decide +kernel)), by decide +kernel⟩
theorem wd_803 : Cond.code yX4_worthOf cX4_worthOf 2 (some .int) ∈ TBL := List.mem_filter.mpr ⟨List.mem_append_right _ (List.mem_of_getElem? (i := 727) (by decide +kernel)), by decide +kernel⟩
theorem wd_804 : Cond.methodLink RX4 65 Lib.Math.abs.name ∈ TBL := List.mem_filter.mpr ⟨List.mem_append_right _ (List.mem_of_getElem? (i := 728) (by decide +kernel)), by decide +kernel⟩
theorem wd_805 : Cond.methodLink RX4 61 yX4_consider ∈ TBL := List.mem_filter.mpr ⟨List.mem_append_right _ (List.mem_of_getElem? (i := 729) (by decide +kernel)), by decide +kernel⟩
theorem wd_807 : Cond.instanceMethod yX4_consider ∈ TBL := List.mem_filter.mpr ⟨List.mem_append_right _ (List.mem_of_getElem? (i := 731) (by decide +kernel)), by decide +kernel⟩
theorem wd_808 : Cond.code yX4_consider cX4_consider 6 none ∈ TBL := List.mem_filter.mpr ⟨List.mem_append_right _ (List.mem_of_getElem? (i := 732) (by decide +kernel)), by decide +kernel⟩
theorem wd_813 : Cond.methodLink RX8 259 yX0_measured ∈ TBL := List.mem_filter.mpr ⟨List.mem_append_right _ (List.mem_of_getElem? (i := 737) (by decide +kernel)), by decide +kernel⟩
theorem wd_814 : Cond.instanceMethod yX0_measured ∈ TBL := List.mem_filter.mpr ⟨List.mem_append_right _ (List.mem_of_getElem? (i := 738) (by decide +kernel)), by decide +kernel⟩
theorem wd_815 : Cond.selects RX0 yX0_measured yX0_measured ∈ TBL := List.mem_filter.mpr ⟨List.mem_append_right _ (List.mem_of_getElem? (i := 739) (by decide +kernel)), by decide +kernel⟩
theorem wd_816 : Cond.code yX0_measured cX0_measured 2 (some .int) ∈ TBL := List.mem_filter.mpr ⟨List.mem_append_right _ (List.mem_of_getElem? (i := 740) (by decide +kernel)), by decide +kernel⟩
theorem wd_817 : Cond.methodLink RX0 178 yX0_unevenness ∈ TBL := List.mem_filter.mpr ⟨List.mem_append_right _ (List.mem_of_getElem? (i := 741) (by decide +kernel)), by decide +kernel⟩
theorem wd_819 : Cond.instanceMethod yX0_unevenness ∈ TBL := List.mem_filter.mpr ⟨List.mem_append_right _ (List.mem_of_getElem? (i := 743) (by decide +kernel)), by decide +kernel⟩
theorem wd_820 : Cond.code yX0_unevenness cX0_unevenness 7 (some .int) ∈ TBL := List.mem_filter.mpr ⟨List.mem_append_right _ (List.mem_of_getElem? (i := 744) (by decide +kernel)), by decide +kernel⟩
theorem wd_821 : Cond.methodLink RX0 181 yX0_roundCount ∈ TBL := List.mem_filter.mpr ⟨List.mem_append_right _ (List.mem_of_getElem? (i := 745) (by decide +kernel)), by decide +kernel⟩
theorem wd_822 : Cond.methodLink RX0 184 yX0_highCount ∈ TBL := List.mem_filter.mpr ⟨List.mem_append_right _ (List.mem_of_getElem? (i := 746) (by decide +kernel)), by decide +kernel⟩
theorem wd_823 : Cond.instanceMethod yX0_highCount ∈ TBL := List.mem_filter.mpr ⟨List.mem_append_right _ (List.mem_of_getElem? (i := 747) (by decide +kernel)), by decide +kernel⟩
theorem wd_824 : Cond.selects RX0 yX0_highCount yX0_highCount ∈ TBL := List.mem_filter.mpr ⟨List.mem_append_right _ (List.mem_of_getElem? (i := 748) (by decide +kernel)), by decide +kernel⟩
theorem wd_825 : Cond.code yX0_highCount cX0_highCount 3 (some .int) ∈ TBL := List.mem_filter.mpr ⟨List.mem_append_right _ (List.mem_of_getElem? (i := 749) (by decide +kernel)), by decide +kernel⟩
theorem wd_826 : Cond.methodLink RX0 187 yX0_allMustBe ∈ TBL := List.mem_filter.mpr ⟨List.mem_append_right _ (List.mem_of_getElem? (i := 750) (by decide +kernel)), by decide +kernel⟩
theorem wd_831 : Cond.methodLink RX8 262 yX0_copyFrom ∈ TBL := List.mem_filter.mpr ⟨List.mem_append_right _ (List.mem_of_getElem? (i := 755) (by decide +kernel)), by decide +kernel⟩
theorem wd_832 : Cond.instanceMethod yX0_copyFrom ∈ TBL := List.mem_filter.mpr ⟨List.mem_append_right _ (List.mem_of_getElem? (i := 756) (by decide +kernel)), by decide +kernel⟩
theorem wd_833 : Cond.selects RX0 yX0_copyFrom yX0_copyFrom ∈ TBL := List.mem_filter.mpr ⟨List.mem_append_right _ (List.mem_of_getElem? (i := 757) (by decide +kernel)), by decide +kernel⟩
theorem wd_834 : Cond.code yX0_copyFrom cX0_copyFrom 3 none ∈ TBL := List.mem_filter.mpr ⟨List.mem_append_right _ (List.mem_of_getElem? (i := 758) (by decide +kernel)), by decide +kernel⟩
theorem wd_835 : Cond.methodLink RX0 57 yX1_copyFrom ∈ TBL := List.mem_filter.mpr ⟨List.mem_append_right _ (List.mem_of_getElem? (i := 759) (by decide +kernel)), by decide +kernel⟩
theorem wd_836 : Cond.instanceMethod yX1_copyFrom ∈ TBL := List.mem_filter.mpr ⟨List.mem_append_right _ (List.mem_of_getElem? (i := 760) (by decide +kernel)), by decide +kernel⟩
theorem wd_837 : Cond.selects RX1 yX1_copyFrom yX1_copyFrom ∈ TBL := List.mem_filter.mpr ⟨List.mem_append_right _ (List.mem_of_getElem? (i := 761) (by decide +kernel)), by decide +kernel⟩
theorem wd_838 : Cond.code yX1_copyFrom cX1_copyFrom 2 none ∈ TBL := List.mem_filter.mpr ⟨List.mem_append_right _ (List.mem_of_getElem? (i := 762) (by decide +kernel)), by decide +kernel⟩
theorem wd_839 : Cond.methodLink RX1 53 yX5_copyFrom ∈ TBL := List.mem_filter.mpr ⟨List.mem_append_right _ (List.mem_of_getElem? (i := 763) (by decide +kernel)), by decide +kernel⟩
theorem wd_840 : Cond.instanceMethod yX5_copyFrom ∈ TBL := List.mem_filter.mpr ⟨List.mem_append_right _ (List.mem_of_getElem? (i := 764) (by decide +kernel)), by decide +kernel⟩
theorem wd_841 : Cond.selects RX5 yX5_copyFrom yX5_copyFrom ∈ TBL := List.mem_filter.mpr ⟨List.mem_append_right _ (List.mem_of_getElem? (i := 765) (by decide +kernel)), by decide +kernel⟩
theorem wd_842 : Cond.code yX5_copyFrom cX5_copyFrom 2 none ∈ TBL := List.mem_filter.mpr ⟨List.mem_append_right _ (List.mem_of_getElem? (i := 766) (by decide +kernel)), by decide +kernel⟩
theorem wd_843 : Cond.methodLink RX0 61 arraycopyName ∈ TBL := List.mem_filter.mpr ⟨List.mem_append_right _ (List.mem_of_getElem? (i := 767) (by decide +kernel)), by decide +kernel⟩
theorem wd_844 : Cond.static arraycopyName ∈ TBL := List.mem_filter.mpr ⟨List.mem_append_right _ (List.mem_of_getElem? (i := 768) (by decide +kernel)), by decide +kernel⟩
theorem wd_845 : Cond.native arraycopyName ∈ TBL := List.mem_filter.mpr ⟨List.mem_append_right _ (List.mem_of_getElem? (i := 769) (by decide +kernel)), by decide +kernel⟩
theorem wd_846 : Cond.methodLink RX8 265 yX0_becomeHonest ∈ TBL := List.mem_filter.mpr ⟨List.mem_append_right _ (List.mem_of_getElem? (i := 770) (by decide +kernel)), by decide +kernel⟩
theorem wd_847 : Cond.instanceMethod yX0_becomeHonest ∈ TBL := List.mem_filter.mpr ⟨List.mem_append_right _ (List.mem_of_getElem? (i := 771) (by decide +kernel)), by decide +kernel⟩
theorem wd_848 : Cond.selects RX0 yX0_becomeHonest yX0_becomeHonest ∈ TBL := List.mem_filter.mpr ⟨List.mem_append_right _ (List.mem_of_getElem? (i := 772) (by decide +kernel)), by decide +kernel⟩
theorem wd_849 : Cond.code yX0_becomeHonest cX0_becomeHonest 6 (some .int) ∈ TBL := List.mem_filter.mpr ⟨List.mem_append_right _ (List.mem_of_getElem? (i := 773) (by decide +kernel)), by decide +kernel⟩
theorem wd_850 : Cond.methodLink RX0 190 yX0_nextSeed ∈ TBL := List.mem_filter.mpr ⟨List.mem_append_right _ (List.mem_of_getElem? (i := 774) (by decide +kernel)), by decide +kernel⟩
theorem wd_851 : Cond.static yX0_nextSeed ∈ TBL := List.mem_filter.mpr ⟨List.mem_append_right _ (List.mem_of_getElem? (i := 775) (by decide +kernel)), by decide +kernel⟩
theorem wd_852 : Cond.code yX0_nextSeed cX0_nextSeed 1 (some .int) ∈ TBL := List.mem_filter.mpr ⟨List.mem_append_right _ (List.mem_of_getElem? (i := 776) (by decide +kernel)), by decide +kernel⟩
theorem wd_853 : Cond.constant RX0 206 (1103515245) ∈ TBL := List.mem_filter.mpr ⟨List.mem_append_right _ (List.mem_of_getElem? (i := 777) (by decide +kernel)), by decide +kernel⟩
theorem wd_854 : Cond.methodLink RX0 193 yX0_drawn ∈ TBL := List.mem_filter.mpr ⟨List.mem_append_right _ (List.mem_of_getElem? (i := 778) (by decide +kernel)), by decide +kernel⟩
theorem wd_856 : Cond.instanceMethod yX0_drawn ∈ TBL := List.mem_filter.mpr ⟨List.mem_append_right _ (List.mem_of_getElem? (i := 780) (by decide +kernel)), by decide +kernel⟩
theorem wd_857 : Cond.code yX0_drawn cX0_drawn 3 (some .int) ∈ TBL := List.mem_filter.mpr ⟨List.mem_append_right _ (List.mem_of_getElem? (i := 781) (by decide +kernel)), by decide +kernel⟩
theorem wd_858 : Cond.constant RX0 207 (2147483647) ∈ TBL := List.mem_filter.mpr ⟨List.mem_append_right _ (List.mem_of_getElem? (i := 782) (by decide +kernel)), by decide +kernel⟩
theorem wd_859 : Cond.constant RX0 208 (65536) ∈ TBL := List.mem_filter.mpr ⟨List.mem_append_right _ (List.mem_of_getElem? (i := 783) (by decide +kernel)), by decide +kernel⟩
theorem wd_860 : Cond.methodLinkNest RX0 196 yX8_heldTo "HallSheets" ∈ NST := List.mem_filter.mpr ⟨List.mem_append_right _ (List.mem_of_getElem? (i := 784) (by decide +kernel)), by decide +kernel⟩
theorem wd_861 : Cond.methodLink RX8 268 yX0_writeTruth ∈ TBL := List.mem_filter.mpr ⟨List.mem_append_right _ (List.mem_of_getElem? (i := 785) (by decide +kernel)), by decide +kernel⟩
theorem wd_862 : Cond.instanceMethod yX0_writeTruth ∈ TBL := List.mem_filter.mpr ⟨List.mem_append_right _ (List.mem_of_getElem? (i := 786) (by decide +kernel)), by decide +kernel⟩
theorem wd_863 : Cond.selects RX0 yX0_writeTruth yX0_writeTruth ∈ TBL := List.mem_filter.mpr ⟨List.mem_append_right _ (List.mem_of_getElem? (i := 787) (by decide +kernel)), by decide +kernel⟩
theorem wd_864 : Cond.code yX0_writeTruth cX0_writeTruth 3 none ∈ TBL := List.mem_filter.mpr ⟨List.mem_append_right _ (List.mem_of_getElem? (i := 788) (by decide +kernel)), by decide +kernel⟩
theorem wd_865 : Cond.methodLink RX0 209 yX1_write ∈ TBL := List.mem_filter.mpr ⟨List.mem_append_right _ (List.mem_of_getElem? (i := 789) (by decide +kernel)), by decide +kernel⟩
theorem wd_874 : Cond.methodLink RX8 271 yX8_textRefusal ∈ TBL := List.mem_filter.mpr ⟨List.mem_append_right _ (List.mem_of_getElem? (i := 798) (by decide +kernel)), by decide +kernel⟩
theorem wd_876 : Cond.instanceMethod yX8_textRefusal ∈ TBL := List.mem_filter.mpr ⟨List.mem_append_right _ (List.mem_of_getElem? (i := 800) (by decide +kernel)), by decide +kernel⟩
theorem wd_877 : Cond.code yX8_textRefusal cX8_textRefusal 3 (some .int) ∈ TBL := List.mem_filter.mpr ⟨List.mem_append_right _ (List.mem_of_getElem? (i := 801) (by decide +kernel)), by decide +kernel⟩
theorem wd_878 : Cond.methodLink RX8 318 yX8_rowRefusal ∈ TBL := List.mem_filter.mpr ⟨List.mem_append_right _ (List.mem_of_getElem? (i := 802) (by decide +kernel)), by decide +kernel⟩
theorem wd_880 : Cond.instanceMethod yX8_rowRefusal ∈ TBL := List.mem_filter.mpr ⟨List.mem_append_right _ (List.mem_of_getElem? (i := 804) (by decide +kernel)), by decide +kernel⟩
theorem wd_881 : Cond.code yX8_rowRefusal cX8_rowRefusal 2 (some .int) ∈ TBL := List.mem_filter.mpr ⟨List.mem_append_right _ (List.mem_of_getElem? (i := 805) (by decide +kernel)), by decide +kernel⟩
theorem wd_882 : Cond.methodLink RX8 277 yX2_faultOf ∈ TBL := List.mem_filter.mpr ⟨List.mem_append_right _ (List.mem_of_getElem? (i := 806) (by decide +kernel)), by decide +kernel⟩
theorem wd_883 : Cond.instanceMethod yX2_faultOf ∈ TBL := List.mem_filter.mpr ⟨List.mem_append_right _ (List.mem_of_getElem? (i := 807) (by decide +kernel)), by decide +kernel⟩
theorem wd_884 : Cond.selects RX2 yX2_faultOf yX2_faultOf ∈ TBL := List.mem_filter.mpr ⟨List.mem_append_right _ (List.mem_of_getElem? (i := 808) (by decide +kernel)), by decide +kernel⟩
theorem wd_885 : Cond.code yX2_faultOf cX2_faultOf 4 (some .int) ∈ TBL := List.mem_filter.mpr ⟨List.mem_append_right _ (List.mem_of_getElem? (i := 809) (by decide +kernel)), by decide +kernel⟩
theorem wd_886 : Cond.methodLink RX2 16 yX2_goesOn ∈ TBL := List.mem_filter.mpr ⟨List.mem_append_right _ (List.mem_of_getElem? (i := 810) (by decide +kernel)), by decide +kernel⟩
theorem wd_888 : Cond.instanceMethod yX2_goesOn ∈ TBL := List.mem_filter.mpr ⟨List.mem_append_right _ (List.mem_of_getElem? (i := 812) (by decide +kernel)), by decide +kernel⟩
theorem wd_889 : Cond.code yX2_goesOn cX2_goesOn 2 (some .boolean) ∈ TBL := List.mem_filter.mpr ⟨List.mem_append_right _ (List.mem_of_getElem? (i := 813) (by decide +kernel)), by decide +kernel⟩
theorem wd_890 : Cond.methodLink RX2 28 yX2_become ∈ TBL := List.mem_filter.mpr ⟨List.mem_append_right _ (List.mem_of_getElem? (i := 814) (by decide +kernel)), by decide +kernel⟩
theorem wd_892 : Cond.instanceMethod yX2_become ∈ TBL := List.mem_filter.mpr ⟨List.mem_append_right _ (List.mem_of_getElem? (i := 816) (by decide +kernel)), by decide +kernel⟩
theorem wd_893 : Cond.code yX2_become cX2_become 2 (some .boolean) ∈ TBL := List.mem_filter.mpr ⟨List.mem_append_right _ (List.mem_of_getElem? (i := 817) (by decide +kernel)), by decide +kernel⟩
theorem wd_894 : Cond.methodLink RX2 31 yX2_beginsTest ∈ TBL := List.mem_filter.mpr ⟨List.mem_append_right _ (List.mem_of_getElem? (i := 818) (by decide +kernel)), by decide +kernel⟩
theorem wd_896 : Cond.instanceMethod yX2_beginsTest ∈ TBL := List.mem_filter.mpr ⟨List.mem_append_right _ (List.mem_of_getElem? (i := 820) (by decide +kernel)), by decide +kernel⟩
theorem wd_897 : Cond.code yX2_beginsTest cX2_beginsTest 2 (some .boolean) ∈ TBL := List.mem_filter.mpr ⟨List.mem_append_right _ (List.mem_of_getElem? (i := 821) (by decide +kernel)), by decide +kernel⟩
theorem wd_898 : Cond.methodLink RX2 34 yX2_beginsAtom ∈ TBL := List.mem_filter.mpr ⟨List.mem_append_right _ (List.mem_of_getElem? (i := 822) (by decide +kernel)), by decide +kernel⟩
theorem wd_900 : Cond.instanceMethod yX2_beginsAtom ∈ TBL := List.mem_filter.mpr ⟨List.mem_append_right _ (List.mem_of_getElem? (i := 824) (by decide +kernel)), by decide +kernel⟩
theorem wd_901 : Cond.code yX2_beginsAtom cX2_beginsAtom 2 (some .boolean) ∈ TBL := List.mem_filter.mpr ⟨List.mem_append_right _ (List.mem_of_getElem? (i := 825) (by decide +kernel)), by decide +kernel⟩
theorem wd_902 : Cond.methodLink RX2 46 yX2_isDigit ∈ TBL := List.mem_filter.mpr ⟨List.mem_append_right _ (List.mem_of_getElem? (i := 826) (by decide +kernel)), by decide +kernel⟩
theorem wd_903 : Cond.static yX2_isDigit ∈ TBL := List.mem_filter.mpr ⟨List.mem_append_right _ (List.mem_of_getElem? (i := 827) (by decide +kernel)), by decide +kernel⟩
theorem wd_904 : Cond.code yX2_isDigit cX2_isDigit 1 (some .boolean) ∈ TBL := List.mem_filter.mpr ⟨List.mem_append_right _ (List.mem_of_getElem? (i := 828) (by decide +kernel)), by decide +kernel⟩
theorem wd_905 : Cond.methodLink RX2 55 yX2_isField ∈ TBL := List.mem_filter.mpr ⟨List.mem_append_right _ (List.mem_of_getElem? (i := 829) (by decide +kernel)), by decide +kernel⟩
theorem wd_906 : Cond.static yX2_isField ∈ TBL := List.mem_filter.mpr ⟨List.mem_append_right _ (List.mem_of_getElem? (i := 830) (by decide +kernel)), by decide +kernel⟩
theorem wd_907 : Cond.code yX2_isField cX2_isField 1 (some .boolean) ∈ TBL := List.mem_filter.mpr ⟨List.mem_append_right _ (List.mem_of_getElem? (i := 831) (by decide +kernel)), by decide +kernel⟩
theorem wd_991 : Cond.methodLink RX2 37 yX2_addsDigit ∈ TBL := List.mem_filter.mpr ⟨List.mem_append_right _ (List.mem_of_getElem? (i := 915) (by decide +kernel)), by decide +kernel⟩
theorem wd_993 : Cond.instanceMethod yX2_addsDigit ∈ TBL := List.mem_filter.mpr ⟨List.mem_append_right _ (List.mem_of_getElem? (i := 917) (by decide +kernel)), by decide +kernel⟩
theorem wd_994 : Cond.code yX2_addsDigit cX2_addsDigit 2 (some .boolean) ∈ TBL := List.mem_filter.mpr ⟨List.mem_append_right _ (List.mem_of_getElem? (i := 918) (by decide +kernel)), by decide +kernel⟩
theorem wd_995 : Cond.methodLink RX2 40 yX2_followsAtom ∈ TBL := List.mem_filter.mpr ⟨List.mem_append_right _ (List.mem_of_getElem? (i := 919) (by decide +kernel)), by decide +kernel⟩
theorem wd_997 : Cond.instanceMethod yX2_followsAtom ∈ TBL := List.mem_filter.mpr ⟨List.mem_append_right _ (List.mem_of_getElem? (i := 921) (by decide +kernel)), by decide +kernel⟩
theorem wd_998 : Cond.code yX2_followsAtom cX2_followsAtom 2 (some .boolean) ∈ TBL := List.mem_filter.mpr ⟨List.mem_append_right _ (List.mem_of_getElem? (i := 922) (by decide +kernel)), by decide +kernel⟩
theorem wd_999 : Cond.methodLink RX2 43 yX2_followsTest ∈ TBL := List.mem_filter.mpr ⟨List.mem_append_right _ (List.mem_of_getElem? (i := 923) (by decide +kernel)), by decide +kernel⟩
theorem wd_1001 : Cond.instanceMethod yX2_followsTest ∈ TBL := List.mem_filter.mpr ⟨List.mem_append_right _ (List.mem_of_getElem? (i := 925) (by decide +kernel)), by decide +kernel⟩
theorem wd_1002 : Cond.code yX2_followsTest cX2_followsTest 2 (some .boolean) ∈ TBL := List.mem_filter.mpr ⟨List.mem_append_right _ (List.mem_of_getElem? (i := 926) (by decide +kernel)), by decide +kernel⟩
theorem wd_1003 : Cond.methodLink RX2 20 yX2_isWhole ∈ TBL := List.mem_filter.mpr ⟨List.mem_append_right _ (List.mem_of_getElem? (i := 927) (by decide +kernel)), by decide +kernel⟩
theorem wd_1005 : Cond.instanceMethod yX2_isWhole ∈ TBL := List.mem_filter.mpr ⟨List.mem_append_right _ (List.mem_of_getElem? (i := 929) (by decide +kernel)), by decide +kernel⟩
theorem wd_1006 : Cond.code yX2_isWhole cX2_isWhole 2 (some .boolean) ∈ TBL := List.mem_filter.mpr ⟨List.mem_append_right _ (List.mem_of_getElem? (i := 930) (by decide +kernel)), by decide +kernel⟩
theorem wd_1012 : Cond.methodLink RX8 287 yX0_addMark ∈ TBL := List.mem_filter.mpr ⟨List.mem_append_right _ (List.mem_of_getElem? (i := 936) (by decide +kernel)), by decide +kernel⟩
theorem wd_1013 : Cond.instanceMethod yX0_addMark ∈ TBL := List.mem_filter.mpr ⟨List.mem_append_right _ (List.mem_of_getElem? (i := 937) (by decide +kernel)), by decide +kernel⟩
theorem wd_1014 : Cond.selects RX0 yX0_addMark yX0_addMark ∈ TBL := List.mem_filter.mpr ⟨List.mem_append_right _ (List.mem_of_getElem? (i := 938) (by decide +kernel)), by decide +kernel⟩
theorem wd_1015 : Cond.code yX0_addMark cX0_addMark 3 (some .int) ∈ TBL := List.mem_filter.mpr ⟨List.mem_append_right _ (List.mem_of_getElem? (i := 939) (by decide +kernel)), by decide +kernel⟩
theorem wd_1020 : Cond.methodLink RX8 290 yX0_nameOf ∈ TBL := List.mem_filter.mpr ⟨List.mem_append_right _ (List.mem_of_getElem? (i := 944) (by decide +kernel)), by decide +kernel⟩
theorem wd_1021 : Cond.instanceMethod yX0_nameOf ∈ TBL := List.mem_filter.mpr ⟨List.mem_append_right _ (List.mem_of_getElem? (i := 945) (by decide +kernel)), by decide +kernel⟩
theorem wd_1022 : Cond.selects RX0 yX0_nameOf yX0_nameOf ∈ TBL := List.mem_filter.mpr ⟨List.mem_append_right _ (List.mem_of_getElem? (i := 946) (by decide +kernel)), by decide +kernel⟩
theorem wd_1023 : Cond.code yX0_nameOf cX0_nameOf 3 (some .int) ∈ TBL := List.mem_filter.mpr ⟨List.mem_append_right _ (List.mem_of_getElem? (i := 947) (by decide +kernel)), by decide +kernel⟩
theorem wd_1024 : Cond.methodLink RX0 82 yX3_holds ∈ TBL := List.mem_filter.mpr ⟨List.mem_append_right _ (List.mem_of_getElem? (i := 948) (by decide +kernel)), by decide +kernel⟩
theorem wd_1025 : Cond.instanceMethod yX3_holds ∈ TBL := List.mem_filter.mpr ⟨List.mem_append_right _ (List.mem_of_getElem? (i := 949) (by decide +kernel)), by decide +kernel⟩
theorem wd_1026 : Cond.selects RX3 yX3_holds yX3_holds ∈ TBL := List.mem_filter.mpr ⟨List.mem_append_right _ (List.mem_of_getElem? (i := 950) (by decide +kernel)), by decide +kernel⟩
theorem wd_1027 : Cond.code yX3_holds cX3_holds 7 (some .boolean) ∈ TBL := List.mem_filter.mpr ⟨List.mem_append_right _ (List.mem_of_getElem? (i := 951) (by decide +kernel)), by decide +kernel⟩
theorem wd_1028 : Cond.methodLink RX3 25 yX3_beginGroup ∈ TBL := List.mem_filter.mpr ⟨List.mem_append_right _ (List.mem_of_getElem? (i := 952) (by decide +kernel)), by decide +kernel⟩
theorem wd_1030 : Cond.instanceMethod yX3_beginGroup ∈ TBL := List.mem_filter.mpr ⟨List.mem_append_right _ (List.mem_of_getElem? (i := 954) (by decide +kernel)), by decide +kernel⟩
theorem wd_1031 : Cond.code yX3_beginGroup cX3_beginGroup 1 none ∈ TBL := List.mem_filter.mpr ⟨List.mem_append_right _ (List.mem_of_getElem? (i := 955) (by decide +kernel)), by decide +kernel⟩
theorem wd_1032 : Cond.methodLink RX3 28 yX3_beginSum ∈ TBL := List.mem_filter.mpr ⟨List.mem_append_right _ (List.mem_of_getElem? (i := 956) (by decide +kernel)), by decide +kernel⟩
theorem wd_1034 : Cond.instanceMethod yX3_beginSum ∈ TBL := List.mem_filter.mpr ⟨List.mem_append_right _ (List.mem_of_getElem? (i := 958) (by decide +kernel)), by decide +kernel⟩
theorem wd_1035 : Cond.code yX3_beginSum cX3_beginSum 1 none ∈ TBL := List.mem_filter.mpr ⟨List.mem_append_right _ (List.mem_of_getElem? (i := 959) (by decide +kernel)), by decide +kernel⟩
theorem wd_1036 : Cond.methodLink RX3 99 yX3_beginProduct ∈ TBL := List.mem_filter.mpr ⟨List.mem_append_right _ (List.mem_of_getElem? (i := 960) (by decide +kernel)), by decide +kernel⟩
theorem wd_1038 : Cond.instanceMethod yX3_beginProduct ∈ TBL := List.mem_filter.mpr ⟨List.mem_append_right _ (List.mem_of_getElem? (i := 962) (by decide +kernel)), by decide +kernel⟩
theorem wd_1039 : Cond.code yX3_beginProduct cX3_beginProduct 1 none ∈ TBL := List.mem_filter.mpr ⟨List.mem_append_right _ (List.mem_of_getElem? (i := 963) (by decide +kernel)), by decide +kernel⟩
theorem wd_1040 : Cond.methodLink RX3 37 yX2_isField ∈ TBL := List.mem_filter.mpr ⟨List.mem_append_right _ (List.mem_of_getElem? (i := 964) (by decide +kernel)), by decide +kernel⟩
theorem wd_1041 : Cond.methodLink RX3 41 yX3_fieldOf ∈ TBL := List.mem_filter.mpr ⟨List.mem_append_right _ (List.mem_of_getElem? (i := 965) (by decide +kernel)), by decide +kernel⟩
theorem wd_1042 : Cond.static yX3_fieldOf ∈ TBL := List.mem_filter.mpr ⟨List.mem_append_right _ (List.mem_of_getElem? (i := 966) (by decide +kernel)), by decide +kernel⟩
theorem wd_1043 : Cond.code yX3_fieldOf cX3_fieldOf 3 (some .int) ∈ TBL := List.mem_filter.mpr ⟨List.mem_append_right _ (List.mem_of_getElem? (i := 967) (by decide +kernel)), by decide +kernel⟩
theorem wd_1044 : Cond.methodLink RX3 85 yX1_share ∈ TBL := List.mem_filter.mpr ⟨List.mem_append_right _ (List.mem_of_getElem? (i := 968) (by decide +kernel)), by decide +kernel⟩
theorem wd_1045 : Cond.methodLink RX3 45 yX3_takeAtom ∈ TBL := List.mem_filter.mpr ⟨List.mem_append_right _ (List.mem_of_getElem? (i := 969) (by decide +kernel)), by decide +kernel⟩
theorem wd_1047 : Cond.instanceMethod yX3_takeAtom ∈ TBL := List.mem_filter.mpr ⟨List.mem_append_right _ (List.mem_of_getElem? (i := 971) (by decide +kernel)), by decide +kernel⟩
theorem wd_1048 : Cond.code yX3_takeAtom cX3_takeAtom 2 none ∈ TBL := List.mem_filter.mpr ⟨List.mem_append_right _ (List.mem_of_getElem? (i := 972) (by decide +kernel)), by decide +kernel⟩
theorem wd_1049 : Cond.methodLink RX3 49 yX2_isDigit ∈ TBL := List.mem_filter.mpr ⟨List.mem_append_right _ (List.mem_of_getElem? (i := 973) (by decide +kernel)), by decide +kernel⟩
theorem wd_1050 : Cond.methodLink RX3 52 yX3_takeDigit ∈ TBL := List.mem_filter.mpr ⟨List.mem_append_right _ (List.mem_of_getElem? (i := 974) (by decide +kernel)), by decide +kernel⟩
theorem wd_1052 : Cond.instanceMethod yX3_takeDigit ∈ TBL := List.mem_filter.mpr ⟨List.mem_append_right _ (List.mem_of_getElem? (i := 976) (by decide +kernel)), by decide +kernel⟩
theorem wd_1053 : Cond.code yX3_takeDigit cX3_takeDigit 3 none ∈ TBL := List.mem_filter.mpr ⟨List.mem_append_right _ (List.mem_of_getElem? (i := 977) (by decide +kernel)), by decide +kernel⟩
theorem wd_1054 : Cond.methodLink RX3 56 yX3_takeSign ∈ TBL := List.mem_filter.mpr ⟨List.mem_append_right _ (List.mem_of_getElem? (i := 978) (by decide +kernel)), by decide +kernel⟩
theorem wd_1056 : Cond.instanceMethod yX3_takeSign ∈ TBL := List.mem_filter.mpr ⟨List.mem_append_right _ (List.mem_of_getElem? (i := 980) (by decide +kernel)), by decide +kernel⟩
theorem wd_1057 : Cond.code yX3_takeSign cX3_takeSign 2 none ∈ TBL := List.mem_filter.mpr ⟨List.mem_append_right _ (List.mem_of_getElem? (i := 981) (by decide +kernel)), by decide +kernel⟩
theorem wd_1058 : Cond.methodLink RX3 108 yX3_endProduct ∈ TBL := List.mem_filter.mpr ⟨List.mem_append_right _ (List.mem_of_getElem? (i := 982) (by decide +kernel)), by decide +kernel⟩
theorem wd_1060 : Cond.instanceMethod yX3_endProduct ∈ TBL := List.mem_filter.mpr ⟨List.mem_append_right _ (List.mem_of_getElem? (i := 984) (by decide +kernel)), by decide +kernel⟩
theorem wd_1061 : Cond.code yX3_endProduct cX3_endProduct 1 none ∈ TBL := List.mem_filter.mpr ⟨List.mem_append_right _ (List.mem_of_getElem? (i := 985) (by decide +kernel)), by decide +kernel⟩
theorem wd_1062 : Cond.methodLink RX3 59 yX3_endTest ∈ TBL := List.mem_filter.mpr ⟨List.mem_append_right _ (List.mem_of_getElem? (i := 986) (by decide +kernel)), by decide +kernel⟩
theorem wd_1064 : Cond.instanceMethod yX3_endTest ∈ TBL := List.mem_filter.mpr ⟨List.mem_append_right _ (List.mem_of_getElem? (i := 988) (by decide +kernel)), by decide +kernel⟩
theorem wd_1065 : Cond.code yX3_endTest cX3_endTest 1 none ∈ TBL := List.mem_filter.mpr ⟨List.mem_append_right _ (List.mem_of_getElem? (i := 989) (by decide +kernel)), by decide +kernel⟩
theorem wd_1066 : Cond.methodLink RX3 121 yX3_compared ∈ TBL := List.mem_filter.mpr ⟨List.mem_append_right _ (List.mem_of_getElem? (i := 990) (by decide +kernel)), by decide +kernel⟩
theorem wd_1068 : Cond.instanceMethod yX3_compared ∈ TBL := List.mem_filter.mpr ⟨List.mem_append_right _ (List.mem_of_getElem? (i := 992) (by decide +kernel)), by decide +kernel⟩
theorem wd_1069 : Cond.code yX3_compared cX3_compared 1 (some .boolean) ∈ TBL := List.mem_filter.mpr ⟨List.mem_append_right _ (List.mem_of_getElem? (i := 993) (by decide +kernel)), by decide +kernel⟩
theorem wd_1070 : Cond.methodLink RX3 117 yX3_join ∈ TBL := List.mem_filter.mpr ⟨List.mem_append_right _ (List.mem_of_getElem? (i := 994) (by decide +kernel)), by decide +kernel⟩
theorem wd_1072 : Cond.instanceMethod yX3_join ∈ TBL := List.mem_filter.mpr ⟨List.mem_append_right _ (List.mem_of_getElem? (i := 996) (by decide +kernel)), by decide +kernel⟩
theorem wd_1073 : Cond.code yX3_join cX3_join 2 none ∈ TBL := List.mem_filter.mpr ⟨List.mem_append_right _ (List.mem_of_getElem? (i := 997) (by decide +kernel)), by decide +kernel⟩
theorem wd_1074 : Cond.methodLink RX3 114 yX3_takeJoint ∈ TBL := List.mem_filter.mpr ⟨List.mem_append_right _ (List.mem_of_getElem? (i := 998) (by decide +kernel)), by decide +kernel⟩
theorem wd_1076 : Cond.instanceMethod yX3_takeJoint ∈ TBL := List.mem_filter.mpr ⟨List.mem_append_right _ (List.mem_of_getElem? (i := 1000) (by decide +kernel)), by decide +kernel⟩
theorem wd_1077 : Cond.code yX3_takeJoint cX3_takeJoint 2 none ∈ TBL := List.mem_filter.mpr ⟨List.mem_append_right _ (List.mem_of_getElem? (i := 1001) (by decide +kernel)), by decide +kernel⟩
theorem wd_1094 : Cond.methodLink RX8 296 yX0_allLists ∈ TBL := List.mem_filter.mpr ⟨List.mem_append_right _ (List.mem_of_getElem? (i := 1018) (by decide +kernel)), by decide +kernel⟩
theorem wd_1095 : Cond.instanceMethod yX0_allLists ∈ TBL := List.mem_filter.mpr ⟨List.mem_append_right _ (List.mem_of_getElem? (i := 1019) (by decide +kernel)), by decide +kernel⟩
theorem wd_1096 : Cond.selects RX0 yX0_allLists yX0_allLists ∈ TBL := List.mem_filter.mpr ⟨List.mem_append_right _ (List.mem_of_getElem? (i := 1020) (by decide +kernel)), by decide +kernel⟩
theorem wd_1097 : Cond.code yX0_allLists cX0_allLists 3 (some .int) ∈ TBL := List.mem_filter.mpr ⟨List.mem_append_right _ (List.mem_of_getElem? (i := 1021) (by decide +kernel)), by decide +kernel⟩
theorem wd_1098 : Cond.methodLink RX8 299 yX0_watchedCount ∈ TBL := List.mem_filter.mpr ⟨List.mem_append_right _ (List.mem_of_getElem? (i := 1022) (by decide +kernel)), by decide +kernel⟩
theorem wd_1099 : Cond.instanceMethod yX0_watchedCount ∈ TBL := List.mem_filter.mpr ⟨List.mem_append_right _ (List.mem_of_getElem? (i := 1023) (by decide +kernel)), by decide +kernel⟩
theorem wd_1100 : Cond.selects RX0 yX0_watchedCount yX0_watchedCount ∈ TBL := List.mem_filter.mpr ⟨List.mem_append_right _ (List.mem_of_getElem? (i := 1024) (by decide +kernel)), by decide +kernel⟩
theorem wd_1101 : Cond.code yX0_watchedCount cX0_watchedCount 3 (some .int) ∈ TBL := List.mem_filter.mpr ⟨List.mem_append_right _ (List.mem_of_getElem? (i := 1025) (by decide +kernel)), by decide +kernel⟩
theorem wd_1102 : Cond.methodLink RX8 302 yX0_allWrittenCame ∈ TBL := List.mem_filter.mpr ⟨List.mem_append_right _ (List.mem_of_getElem? (i := 1026) (by decide +kernel)), by decide +kernel⟩
theorem wd_1103 : Cond.methodLink RX8 305 yX0_allWrittenOurs ∈ TBL := List.mem_filter.mpr ⟨List.mem_append_right _ (List.mem_of_getElem? (i := 1027) (by decide +kernel)), by decide +kernel⟩
theorem wd_1108 : Cond.methodLink RX8 311 yX6_holdSheet ∈ TBL := List.mem_filter.mpr ⟨List.mem_append_right _ (List.mem_of_getElem? (i := 1032) (by decide +kernel)), by decide +kernel⟩
theorem wd_1109 : Cond.instanceMethod yX6_holdSheet ∈ TBL := List.mem_filter.mpr ⟨List.mem_append_right _ (List.mem_of_getElem? (i := 1033) (by decide +kernel)), by decide +kernel⟩
theorem wd_1110 : Cond.selects RX6 yX6_holdSheet yX6_holdSheet ∈ TBL := List.mem_filter.mpr ⟨List.mem_append_right _ (List.mem_of_getElem? (i := 1034) (by decide +kernel)), by decide +kernel⟩
theorem wd_1111 : Cond.code yX6_holdSheet cX6_holdSheet 3 none ∈ TBL := List.mem_filter.mpr ⟨List.mem_append_right _ (List.mem_of_getElem? (i := 1035) (by decide +kernel)), by decide +kernel⟩
theorem wd_1112 : Cond.methodLink RX6 36 yX5_copyFrom ∈ TBL := List.mem_filter.mpr ⟨List.mem_append_right _ (List.mem_of_getElem? (i := 1036) (by decide +kernel)), by decide +kernel⟩
theorem wd_1117 : Cond.methodLink RX8 315 yX6_holdRow ∈ TBL := List.mem_filter.mpr ⟨List.mem_append_right _ (List.mem_of_getElem? (i := 1041) (by decide +kernel)), by decide +kernel⟩
theorem wd_1118 : Cond.instanceMethod yX6_holdRow ∈ TBL := List.mem_filter.mpr ⟨List.mem_append_right _ (List.mem_of_getElem? (i := 1042) (by decide +kernel)), by decide +kernel⟩
theorem wd_1119 : Cond.selects RX6 yX6_holdRow yX6_holdRow ∈ TBL := List.mem_filter.mpr ⟨List.mem_append_right _ (List.mem_of_getElem? (i := 1043) (by decide +kernel)), by decide +kernel⟩
theorem wd_1120 : Cond.code yX6_holdRow cX6_holdRow 3 none ∈ TBL := List.mem_filter.mpr ⟨List.mem_append_right _ (List.mem_of_getElem? (i := 1044) (by decide +kernel)), by decide +kernel⟩
theorem wd_1121 : Cond.methodLink RX6 46 yJ7_fill_53178 ∈ TBL := List.mem_filter.mpr ⟨List.mem_append_right _ (List.mem_of_getElem? (i := 1045) (by decide +kernel)), by decide +kernel⟩
theorem wd_1126 : Cond.methodLink RX8 321 yX6_hasPlace ∈ TBL := List.mem_filter.mpr ⟨List.mem_append_right _ (List.mem_of_getElem? (i := 1050) (by decide +kernel)), by decide +kernel⟩
theorem wd_1127 : Cond.methodLink RX8 324 yX6_lowestBits ∈ TBL := List.mem_filter.mpr ⟨List.mem_append_right _ (List.mem_of_getElem? (i := 1051) (by decide +kernel)), by decide +kernel⟩
theorem wd_1128 : Cond.instanceMethod yX6_lowestBits ∈ TBL := List.mem_filter.mpr ⟨List.mem_append_right _ (List.mem_of_getElem? (i := 1052) (by decide +kernel)), by decide +kernel⟩
theorem wd_1129 : Cond.selects RX6 yX6_lowestBits yX6_lowestBits ∈ TBL := List.mem_filter.mpr ⟨List.mem_append_right _ (List.mem_of_getElem? (i := 1053) (by decide +kernel)), by decide +kernel⟩
theorem wd_1130 : Cond.code yX6_lowestBits cX6_lowestBits 2 (some .int) ∈ TBL := List.mem_filter.mpr ⟨List.mem_append_right _ (List.mem_of_getElem? (i := 1054) (by decide +kernel)), by decide +kernel⟩
theorem wd_1135 : Cond.methodLink RX8 339 yX6_hasPlaces ∈ TBL := List.mem_filter.mpr ⟨List.mem_append_right _ (List.mem_of_getElem? (i := 1059) (by decide +kernel)), by decide +kernel⟩
theorem wd_1136 : Cond.instanceMethod yX6_hasPlaces ∈ TBL := List.mem_filter.mpr ⟨List.mem_append_right _ (List.mem_of_getElem? (i := 1060) (by decide +kernel)), by decide +kernel⟩
theorem wd_1137 : Cond.selects RX6 yX6_hasPlaces yX6_hasPlaces ∈ TBL := List.mem_filter.mpr ⟨List.mem_append_right _ (List.mem_of_getElem? (i := 1061) (by decide +kernel)), by decide +kernel⟩
theorem wd_1138 : Cond.code yX6_hasPlaces cX6_hasPlaces 3 (some .boolean) ∈ TBL := List.mem_filter.mpr ⟨List.mem_append_right _ (List.mem_of_getElem? (i := 1062) (by decide +kernel)), by decide +kernel⟩
theorem wd_1139 : Cond.methodLink RX8 342 arraycopyName ∈ TBL := List.mem_filter.mpr ⟨List.mem_append_right _ (List.mem_of_getElem? (i := 1063) (by decide +kernel)), by decide +kernel⟩
theorem wd_1144 : Cond.methodLink RX8 348 yX8_sheetRefusal ∈ TBL := List.mem_filter.mpr ⟨List.mem_append_right _ (List.mem_of_getElem? (i := 1068) (by decide +kernel)), by decide +kernel⟩
theorem wd_1146 : Cond.instanceMethod yX8_sheetRefusal ∈ TBL := List.mem_filter.mpr ⟨List.mem_append_right _ (List.mem_of_getElem? (i := 1070) (by decide +kernel)), by decide +kernel⟩
theorem wd_1147 : Cond.code yX8_sheetRefusal cX8_sheetRefusal 2 (some .int) ∈ TBL := List.mem_filter.mpr ⟨List.mem_append_right _ (List.mem_of_getElem? (i := 1071) (by decide +kernel)), by decide +kernel⟩
theorem wd_1148 : Cond.methodLink RX8 352 yX5_heaviness ∈ TBL := List.mem_filter.mpr ⟨List.mem_append_right _ (List.mem_of_getElem? (i := 1072) (by decide +kernel)), by decide +kernel⟩
theorem wd_1149 : Cond.instanceMethod yX5_heaviness ∈ TBL := List.mem_filter.mpr ⟨List.mem_append_right _ (List.mem_of_getElem? (i := 1073) (by decide +kernel)), by decide +kernel⟩
theorem wd_1150 : Cond.selects RX5 yX5_heaviness yX5_heaviness ∈ TBL := List.mem_filter.mpr ⟨List.mem_append_right _ (List.mem_of_getElem? (i := 1074) (by decide +kernel)), by decide +kernel⟩
theorem wd_1151 : Cond.code yX5_heaviness cX5_heaviness 1 (some .int) ∈ TBL := List.mem_filter.mpr ⟨List.mem_append_right _ (List.mem_of_getElem? (i := 1075) (by decide +kernel)), by decide +kernel⟩
theorem wd_1305 : Cond.fieldLink RX9 9 "HallSheetsModel" "s" "[I" ∈ TBL := List.mem_filter.mpr ⟨List.mem_append_right _ (List.mem_of_getElem? (i := 1229) (by decide +kernel)), by decide +kernel⟩
theorem wd_1306 : Cond.fieldLink RX9 13 "HallSheetsModel" "image" "[I" ∈ TBL := List.mem_filter.mpr ⟨List.mem_append_right _ (List.mem_of_getElem? (i := 1230) (by decide +kernel)), by decide +kernel⟩
theorem wd_1307 : Cond.fieldLink RX9 16 "HallSheetsModel" "kept" "[I" ∈ TBL := List.mem_filter.mpr ⟨List.mem_append_right _ (List.mem_of_getElem? (i := 1231) (by decide +kernel)), by decide +kernel⟩
theorem wd_1308 : Cond.fieldLink RX9 19 "HallSheetsModel" "sort" "[I" ∈ TBL := List.mem_filter.mpr ⟨List.mem_append_right _ (List.mem_of_getElem? (i := 1232) (by decide +kernel)), by decide +kernel⟩
theorem wd_1309 : Cond.fieldLink RX9 22 "HallSheetsModel" "size" "[I" ∈ TBL := List.mem_filter.mpr ⟨List.mem_append_right _ (List.mem_of_getElem? (i := 1233) (by decide +kernel)), by decide +kernel⟩
theorem wd_1310 : Cond.fieldLink RX9 25 "HallSheetsModel" "element" "[I" ∈ TBL := List.mem_filter.mpr ⟨List.mem_append_right _ (List.mem_of_getElem? (i := 1234) (by decide +kernel)), by decide +kernel⟩
theorem wd_1311 : Cond.fieldLink RX9 28 "HallSheetsModel" "keptWeight" "[I" ∈ TBL := List.mem_filter.mpr ⟨List.mem_append_right _ (List.mem_of_getElem? (i := 1235) (by decide +kernel)), by decide +kernel⟩
theorem wd_1312 : Cond.fieldLink RX9 31 "HallSheetsModel" "keptToss" "[I" ∈ TBL := List.mem_filter.mpr ⟨List.mem_append_right _ (List.mem_of_getElem? (i := 1236) (by decide +kernel)), by decide +kernel⟩
theorem wd_1313 : Cond.fieldLink RX9 291 "HallSheetsModel" "hasImage" "Z" ∈ TBL := List.mem_filter.mpr ⟨List.mem_append_right _ (List.mem_of_getElem? (i := 1237) (by decide +kernel)), by decide +kernel⟩
theorem wd_1314 : Cond.fieldLink RX9 58 "HallSheetsModel" "thrown" "I" ∈ TBL := List.mem_filter.mpr ⟨List.mem_append_right _ (List.mem_of_getElem? (i := 1238) (by decide +kernel)), by decide +kernel⟩
theorem wd_1315 : Cond.fieldLink RX9 34 "HallSheetsModel" "count" "[I" ∈ TBL := List.mem_filter.mpr ⟨List.mem_append_right _ (List.mem_of_getElem? (i := 1239) (by decide +kernel)), by decide +kernel⟩
theorem wd_1316 : Cond.fieldLink RX9 118 "HallSheetsModel" "counted" "I" ∈ TBL := List.mem_filter.mpr ⟨List.mem_append_right _ (List.mem_of_getElem? (i := 1240) (by decide +kernel)), by decide +kernel⟩
theorem wd_1317 : Cond.fieldLink RX9 37 "HallSheetsModel" "shares" "[I" ∈ TBL := List.mem_filter.mpr ⟨List.mem_append_right _ (List.mem_of_getElem? (i := 1241) (by decide +kernel)), by decide +kernel⟩
theorem wd_1318 : Cond.fieldLink RX9 145 "HallSheetsModel" "some" "I" ∈ TBL := List.mem_filter.mpr ⟨List.mem_append_right _ (List.mem_of_getElem? (i := 1242) (by decide +kernel)), by decide +kernel⟩
theorem wd_1319 : Cond.fieldLink RX9 148 "HallSheetsModel" "someWatched" "I" ∈ TBL := List.mem_filter.mpr ⟨List.mem_append_right _ (List.mem_of_getElem? (i := 1243) (by decide +kernel)), by decide +kernel⟩
theorem wd_1320 : Cond.fieldLink RX9 40 "HallSheetsModel" "worths" "[I" ∈ TBL := List.mem_filter.mpr ⟨List.mem_append_right _ (List.mem_of_getElem? (i := 1244) (by decide +kernel)), by decide +kernel⟩
theorem wd_1321 : Cond.fieldLink RX9 206 "HallSheetsModel" "seed" "I" ∈ TBL := List.mem_filter.mpr ⟨List.mem_append_right _ (List.mem_of_getElem? (i := 1245) (by decide +kernel)), by decide +kernel⟩
theorem wd_1322 : Cond.fieldLink RX9 43 "HallSheetsModel" "landCame" "[I" ∈ TBL := List.mem_filter.mpr ⟨List.mem_append_right _ (List.mem_of_getElem? (i := 1246) (by decide +kernel)), by decide +kernel⟩
theorem wd_1323 : Cond.fieldLink RX9 46 "HallSheetsModel" "landOurs" "[I" ∈ TBL := List.mem_filter.mpr ⟨List.mem_append_right _ (List.mem_of_getElem? (i := 1247) (by decide +kernel)), by decide +kernel⟩
theorem wd_1324 : Cond.fieldLink RX9 49 "HallSheetsModel" "oldCame" "[I" ∈ TBL := List.mem_filter.mpr ⟨List.mem_append_right _ (List.mem_of_getElem? (i := 1248) (by decide +kernel)), by decide +kernel⟩
theorem wd_1325 : Cond.fieldLink RX9 52 "HallSheetsModel" "oldOurs" "[I" ∈ TBL := List.mem_filter.mpr ⟨List.mem_append_right _ (List.mem_of_getElem? (i := 1249) (by decide +kernel)), by decide +kernel⟩
theorem wd_1326 : Cond.fieldLink RX9 221 "HallSheetsModel" "pos" "I" ∈ TBL := List.mem_filter.mpr ⟨List.mem_append_right _ (List.mem_of_getElem? (i := 1250) (by decide +kernel)), by decide +kernel⟩
theorem wd_1327 : Cond.fieldLink RX9 227 "HallSheetsModel" "base" "I" ∈ TBL := List.mem_filter.mpr ⟨List.mem_append_right _ (List.mem_of_getElem? (i := 1251) (by decide +kernel)), by decide +kernel⟩
theorem wd_1328 : Cond.fieldLink RX9 224 "HallSheetsModel" "end" "I" ∈ TBL := List.mem_filter.mpr ⟨List.mem_append_right _ (List.mem_of_getElem? (i := 1252) (by decide +kernel)), by decide +kernel⟩
theorem wd_1329 : Cond.fieldLink RX9 247 "HallSheetsModel" "deep" "I" ∈ TBL := List.mem_filter.mpr ⟨List.mem_append_right _ (List.mem_of_getElem? (i := 1253) (by decide +kernel)), by decide +kernel⟩
theorem wd_1330 : Cond.fieldLink RX9 268 "HallSheetsModel" "asked" "I" ∈ TBL := List.mem_filter.mpr ⟨List.mem_append_right _ (List.mem_of_getElem? (i := 1254) (by decide +kernel)), by decide +kernel⟩
theorem wd_1331 : Cond.fieldLink RX9 55 "HallSheetsModel" "text" "[I" ∈ TBL := List.mem_filter.mpr ⟨List.mem_append_right _ (List.mem_of_getElem? (i := 1255) (by decide +kernel)), by decide +kernel⟩
theorem wd_1332 : Cond.fieldLink RX9 230 "HallSheetsModel" "isWell" "Z" ∈ TBL := List.mem_filter.mpr ⟨List.mem_append_right _ (List.mem_of_getElem? (i := 1256) (by decide +kernel)), by decide +kernel⟩
theorem wd_1398 : Cond.constantLong RX9 68 (999) ∈ TBL := List.mem_filter.mpr ⟨List.mem_append_right _ (List.mem_of_getElem? (i := 1322) (by decide +kernel)), by decide +kernel⟩
theorem wd_1399 : Cond.methodLink RX9 62 yX9_isIn ∈ TBL := List.mem_filter.mpr ⟨List.mem_append_right _ (List.mem_of_getElem? (i := 1323) (by decide +kernel)), by decide +kernel⟩
theorem wd_1400 : Cond.static yX9_isIn ∈ TBL := List.mem_filter.mpr ⟨List.mem_append_right _ (List.mem_of_getElem? (i := 1324) (by decide +kernel)), by decide +kernel⟩
theorem wd_1401 : Cond.code yX9_isIn cX9_isIn 6 (some .boolean) ∈ TBL := List.mem_filter.mpr ⟨List.mem_append_right _ (List.mem_of_getElem? (i := 1325) (by decide +kernel)), by decide +kernel⟩
theorem wd_1402 : Cond.constantLong RX9 70 (100) ∈ TBL := List.mem_filter.mpr ⟨List.mem_append_right _ (List.mem_of_getElem? (i := 1326) (by decide +kernel)), by decide +kernel⟩
theorem wd_1407 : Cond.methodLink RX9 72 yX9_isHall ∈ TBL := List.mem_filter.mpr ⟨List.mem_append_right _ (List.mem_of_getElem? (i := 1331) (by decide +kernel)), by decide +kernel⟩
theorem wd_1409 : Cond.instanceMethod yX9_isHall ∈ TBL := List.mem_filter.mpr ⟨List.mem_append_right _ (List.mem_of_getElem? (i := 1333) (by decide +kernel)), by decide +kernel⟩
theorem wd_1410 : Cond.code yX9_isHall cX9_isHall 2 (some .boolean) ∈ TBL := List.mem_filter.mpr ⟨List.mem_append_right _ (List.mem_of_getElem? (i := 1334) (by decide +kernel)), by decide +kernel⟩
theorem wd_1411 : Cond.methodLink RX9 76 yX9_get ∈ TBL := List.mem_filter.mpr ⟨List.mem_append_right _ (List.mem_of_getElem? (i := 1335) (by decide +kernel)), by decide +kernel⟩
theorem wd_1413 : Cond.instanceMethod yX9_get ∈ TBL := List.mem_filter.mpr ⟨List.mem_append_right _ (List.mem_of_getElem? (i := 1337) (by decide +kernel)), by decide +kernel⟩
theorem wd_1414 : Cond.code yX9_get cX9_get 3 (some .int) ∈ TBL := List.mem_filter.mpr ⟨List.mem_append_right _ (List.mem_of_getElem? (i := 1338) (by decide +kernel)), by decide +kernel⟩
theorem wd_1415 : Cond.methodLink RX9 80 yX9_becomes ∈ TBL := List.mem_filter.mpr ⟨List.mem_append_right _ (List.mem_of_getElem? (i := 1339) (by decide +kernel)), by decide +kernel⟩
theorem wd_1417 : Cond.instanceMethod yX9_becomes ∈ TBL := List.mem_filter.mpr ⟨List.mem_append_right _ (List.mem_of_getElem? (i := 1341) (by decide +kernel)), by decide +kernel⟩
theorem wd_1418 : Cond.code yX9_becomes cX9_becomes 4 (some .int) ∈ TBL := List.mem_filter.mpr ⟨List.mem_append_right _ (List.mem_of_getElem? (i := 1342) (by decide +kernel)), by decide +kernel⟩
theorem wd_1423 : Cond.constantLong RX9 66 (7) ∈ TBL := List.mem_filter.mpr ⟨List.mem_append_right _ (List.mem_of_getElem? (i := 1347) (by decide +kernel)), by decide +kernel⟩
theorem wd_1428 : Cond.constantLong RX9 83 (9) ∈ TBL := List.mem_filter.mpr ⟨List.mem_append_right _ (List.mem_of_getElem? (i := 1352) (by decide +kernel)), by decide +kernel⟩
theorem wd_1429 : Cond.constantLong RX9 85 (30) ∈ TBL := List.mem_filter.mpr ⟨List.mem_append_right _ (List.mem_of_getElem? (i := 1353) (by decide +kernel)), by decide +kernel⟩
theorem wd_1434 : Cond.methodLink RX9 90 yX9_tellsCame ∈ TBL := List.mem_filter.mpr ⟨List.mem_append_right _ (List.mem_of_getElem? (i := 1358) (by decide +kernel)), by decide +kernel⟩
theorem wd_1436 : Cond.instanceMethod yX9_tellsCame ∈ TBL := List.mem_filter.mpr ⟨List.mem_append_right _ (List.mem_of_getElem? (i := 1360) (by decide +kernel)), by decide +kernel⟩
theorem wd_1437 : Cond.code yX9_tellsCame cX9_tellsCame 3 (some .int) ∈ TBL := List.mem_filter.mpr ⟨List.mem_append_right _ (List.mem_of_getElem? (i := 1361) (by decide +kernel)), by decide +kernel⟩
theorem wd_1438 : Cond.methodLink RX9 87 yX9_less ∈ TBL := List.mem_filter.mpr ⟨List.mem_append_right _ (List.mem_of_getElem? (i := 1362) (by decide +kernel)), by decide +kernel⟩
theorem wd_1439 : Cond.static yX9_less ∈ TBL := List.mem_filter.mpr ⟨List.mem_append_right _ (List.mem_of_getElem? (i := 1363) (by decide +kernel)), by decide +kernel⟩
theorem wd_1440 : Cond.code yX9_less cX9_less 2 (some .int) ∈ TBL := List.mem_filter.mpr ⟨List.mem_append_right _ (List.mem_of_getElem? (i := 1364) (by decide +kernel)), by decide +kernel⟩
theorem wd_1441 : Cond.methodLink RX9 94 yX9_tellsOurs ∈ TBL := List.mem_filter.mpr ⟨List.mem_append_right _ (List.mem_of_getElem? (i := 1365) (by decide +kernel)), by decide +kernel⟩
theorem wd_1443 : Cond.instanceMethod yX9_tellsOurs ∈ TBL := List.mem_filter.mpr ⟨List.mem_append_right _ (List.mem_of_getElem? (i := 1367) (by decide +kernel)), by decide +kernel⟩
theorem wd_1444 : Cond.code yX9_tellsOurs cX9_tellsOurs 5 (some .int) ∈ TBL := List.mem_filter.mpr ⟨List.mem_append_right _ (List.mem_of_getElem? (i := 1368) (by decide +kernel)), by decide +kernel⟩
theorem wd_1445 : Cond.methodLink RX9 97 yX9_has ∈ TBL := List.mem_filter.mpr ⟨List.mem_append_right _ (List.mem_of_getElem? (i := 1369) (by decide +kernel)), by decide +kernel⟩
theorem wd_1447 : Cond.instanceMethod yX9_has ∈ TBL := List.mem_filter.mpr ⟨List.mem_append_right _ (List.mem_of_getElem? (i := 1371) (by decide +kernel)), by decide +kernel⟩
theorem wd_1448 : Cond.code yX9_has cX9_has 2 (some .boolean) ∈ TBL := List.mem_filter.mpr ⟨List.mem_append_right _ (List.mem_of_getElem? (i := 1372) (by decide +kernel)), by decide +kernel⟩
theorem wd_1449 : Cond.methodLink RX9 100 yX9_share ∈ TBL := List.mem_filter.mpr ⟨List.mem_append_right _ (List.mem_of_getElem? (i := 1373) (by decide +kernel)), by decide +kernel⟩
theorem wd_1451 : Cond.instanceMethod yX9_share ∈ TBL := List.mem_filter.mpr ⟨List.mem_append_right _ (List.mem_of_getElem? (i := 1375) (by decide +kernel)), by decide +kernel⟩
theorem wd_1452 : Cond.code yX9_share cX9_share 2 (some .int) ∈ TBL := List.mem_filter.mpr ⟨List.mem_append_right _ (List.mem_of_getElem? (i := 1376) (by decide +kernel)), by decide +kernel⟩
theorem wd_1457 : Cond.methodLink RX9 103 yX9_writes ∈ TBL := List.mem_filter.mpr ⟨List.mem_append_right _ (List.mem_of_getElem? (i := 1381) (by decide +kernel)), by decide +kernel⟩
theorem wd_1459 : Cond.instanceMethod yX9_writes ∈ TBL := List.mem_filter.mpr ⟨List.mem_append_right _ (List.mem_of_getElem? (i := 1383) (by decide +kernel)), by decide +kernel⟩
theorem wd_1460 : Cond.code yX9_writes cX9_writes 4 none ∈ TBL := List.mem_filter.mpr ⟨List.mem_append_right _ (List.mem_of_getElem? (i := 1384) (by decide +kernel)), by decide +kernel⟩
theorem wd_1461 : Cond.methodLink RX9 107 yX9_there ∈ TBL := List.mem_filter.mpr ⟨List.mem_append_right _ (List.mem_of_getElem? (i := 1385) (by decide +kernel)), by decide +kernel⟩
theorem wd_1463 : Cond.instanceMethod yX9_there ∈ TBL := List.mem_filter.mpr ⟨List.mem_append_right _ (List.mem_of_getElem? (i := 1387) (by decide +kernel)), by decide +kernel⟩
theorem wd_1464 : Cond.code yX9_there cX9_there 3 (some .int) ∈ TBL := List.mem_filter.mpr ⟨List.mem_append_right _ (List.mem_of_getElem? (i := 1388) (by decide +kernel)), by decide +kernel⟩
theorem wd_1469 : Cond.methodLink RX9 111 yX9_isShelf ∈ TBL := List.mem_filter.mpr ⟨List.mem_append_right _ (List.mem_of_getElem? (i := 1393) (by decide +kernel)), by decide +kernel⟩
theorem wd_1470 : Cond.static yX9_isShelf ∈ TBL := List.mem_filter.mpr ⟨List.mem_append_right _ (List.mem_of_getElem? (i := 1394) (by decide +kernel)), by decide +kernel⟩
theorem wd_1471 : Cond.code yX9_isShelf cX9_isShelf 1 (some .boolean) ∈ TBL := List.mem_filter.mpr ⟨List.mem_append_right _ (List.mem_of_getElem? (i := 1395) (by decide +kernel)), by decide +kernel⟩
theorem wd_1472 : Cond.constant RX9 114 (-2147483648) ∈ TBL := List.mem_filter.mpr ⟨List.mem_append_right _ (List.mem_of_getElem? (i := 1396) (by decide +kernel)), by decide +kernel⟩
theorem wd_1473 : Cond.methodLink RX9 115 yX9_held ∈ TBL := List.mem_filter.mpr ⟨List.mem_append_right _ (List.mem_of_getElem? (i := 1397) (by decide +kernel)), by decide +kernel⟩
theorem wd_1474 : Cond.static yX9_held ∈ TBL := List.mem_filter.mpr ⟨List.mem_append_right _ (List.mem_of_getElem? (i := 1398) (by decide +kernel)), by decide +kernel⟩
theorem wd_1475 : Cond.code yX9_held cX9_held 2 (some .int) ∈ TBL := List.mem_filter.mpr ⟨List.mem_append_right _ (List.mem_of_getElem? (i := 1399) (by decide +kernel)), by decide +kernel⟩
theorem wd_1480 : Cond.methodLink RX9 128 yX9_counts ∈ TBL := List.mem_filter.mpr ⟨List.mem_append_right _ (List.mem_of_getElem? (i := 1404) (by decide +kernel)), by decide +kernel⟩
theorem wd_1482 : Cond.instanceMethod yX9_counts ∈ TBL := List.mem_filter.mpr ⟨List.mem_append_right _ (List.mem_of_getElem? (i := 1406) (by decide +kernel)), by decide +kernel⟩
theorem wd_1483 : Cond.code yX9_counts cX9_counts 4 none ∈ TBL := List.mem_filter.mpr ⟨List.mem_append_right _ (List.mem_of_getElem? (i := 1407) (by decide +kernel)), by decide +kernel⟩
theorem wd_1484 : Cond.methodLink RX9 121 yX9_hasFigure ∈ TBL := List.mem_filter.mpr ⟨List.mem_append_right _ (List.mem_of_getElem? (i := 1408) (by decide +kernel)), by decide +kernel⟩
theorem wd_1486 : Cond.instanceMethod yX9_hasFigure ∈ TBL := List.mem_filter.mpr ⟨List.mem_append_right _ (List.mem_of_getElem? (i := 1410) (by decide +kernel)), by decide +kernel⟩
theorem wd_1487 : Cond.code yX9_hasFigure cX9_hasFigure 3 (some .boolean) ∈ TBL := List.mem_filter.mpr ⟨List.mem_append_right _ (List.mem_of_getElem? (i := 1411) (by decide +kernel)), by decide +kernel⟩
theorem wd_1488 : Cond.methodLink RX9 125 yX9_figureOf ∈ TBL := List.mem_filter.mpr ⟨List.mem_append_right _ (List.mem_of_getElem? (i := 1412) (by decide +kernel)), by decide +kernel⟩
theorem wd_1489 : Cond.static yX9_figureOf ∈ TBL := List.mem_filter.mpr ⟨List.mem_append_right _ (List.mem_of_getElem? (i := 1413) (by decide +kernel)), by decide +kernel⟩
theorem wd_1490 : Cond.code yX9_figureOf cX9_figureOf 3 (some .int) ∈ TBL := List.mem_filter.mpr ⟨List.mem_append_right _ (List.mem_of_getElem? (i := 1414) (by decide +kernel)), by decide +kernel⟩
theorem wd_1495 : Cond.constantLong RX9 132 (-1) ∈ TBL := List.mem_filter.mpr ⟨List.mem_append_right _ (List.mem_of_getElem? (i := 1419) (by decide +kernel)), by decide +kernel⟩
theorem wd_1497 : Cond.instanceMethod yX9_round ∈ TBL := List.mem_filter.mpr ⟨List.mem_append_right _ (List.mem_of_getElem? (i := 1421) (by decide +kernel)), by decide +kernel⟩
theorem wd_1498 : Cond.selects RX9 yX9_round yX9_round ∈ TBL := List.mem_filter.mpr ⟨List.mem_append_right _ (List.mem_of_getElem? (i := 1422) (by decide +kernel)), by decide +kernel⟩
theorem wd_1499 : Cond.code yX9_round cX9_round 4 (some .int) ∈ TBL := List.mem_filter.mpr ⟨List.mem_append_right _ (List.mem_of_getElem? (i := 1423) (by decide +kernel)), by decide +kernel⟩
theorem wd_1500 : Cond.methodLink RX9 134 yX9_isRound ∈ TBL := List.mem_filter.mpr ⟨List.mem_append_right _ (List.mem_of_getElem? (i := 1424) (by decide +kernel)), by decide +kernel⟩
theorem wd_1501 : Cond.static yX9_isRound ∈ TBL := List.mem_filter.mpr ⟨List.mem_append_right _ (List.mem_of_getElem? (i := 1425) (by decide +kernel)), by decide +kernel⟩
theorem wd_1502 : Cond.code yX9_isRound cX9_isRound 2 (some .boolean) ∈ TBL := List.mem_filter.mpr ⟨List.mem_append_right _ (List.mem_of_getElem? (i := 1426) (by decide +kernel)), by decide +kernel⟩
theorem wd_1511 : Cond.methodLink RX9 137 yX9_middleOf ∈ TBL := List.mem_filter.mpr ⟨List.mem_append_right _ (List.mem_of_getElem? (i := 1435) (by decide +kernel)), by decide +kernel⟩
theorem wd_1513 : Cond.instanceMethod yX9_middleOf ∈ TBL := List.mem_filter.mpr ⟨List.mem_append_right _ (List.mem_of_getElem? (i := 1437) (by decide +kernel)), by decide +kernel⟩
theorem wd_1514 : Cond.code yX9_middleOf cX9_middleOf 5 (some .int) ∈ TBL := List.mem_filter.mpr ⟨List.mem_append_right _ (List.mem_of_getElem? (i := 1438) (by decide +kernel)), by decide +kernel⟩
theorem wd_1519 : Cond.constant RX9 140 (-1000000001) ∈ TBL := List.mem_filter.mpr ⟨List.mem_append_right _ (List.mem_of_getElem? (i := 1443) (by decide +kernel)), by decide +kernel⟩
theorem wd_1520 : Cond.constant RX9 141 (-1000000004) ∈ TBL := List.mem_filter.mpr ⟨List.mem_append_right _ (List.mem_of_getElem? (i := 1444) (by decide +kernel)), by decide +kernel⟩
theorem wd_1521 : Cond.methodLink RX9 142 yX9_leftOf ∈ TBL := List.mem_filter.mpr ⟨List.mem_append_right _ (List.mem_of_getElem? (i := 1445) (by decide +kernel)), by decide +kernel⟩
theorem wd_1523 : Cond.instanceMethod yX9_leftOf ∈ TBL := List.mem_filter.mpr ⟨List.mem_append_right _ (List.mem_of_getElem? (i := 1447) (by decide +kernel)), by decide +kernel⟩
theorem wd_1524 : Cond.code yX9_leftOf cX9_leftOf 2 (some .int) ∈ TBL := List.mem_filter.mpr ⟨List.mem_append_right _ (List.mem_of_getElem? (i := 1448) (by decide +kernel)), by decide +kernel⟩
theorem wd_1537 : Cond.methodLink RX9 151 yX9_findWatched ∈ TBL := List.mem_filter.mpr ⟨List.mem_append_right _ (List.mem_of_getElem? (i := 1461) (by decide +kernel)), by decide +kernel⟩
theorem wd_1539 : Cond.instanceMethod yX9_findWatched ∈ TBL := List.mem_filter.mpr ⟨List.mem_append_right _ (List.mem_of_getElem? (i := 1463) (by decide +kernel)), by decide +kernel⟩
theorem wd_1540 : Cond.code yX9_findWatched cX9_findWatched 3 (some .int) ∈ TBL := List.mem_filter.mpr ⟨List.mem_append_right _ (List.mem_of_getElem? (i := 1464) (by decide +kernel)), by decide +kernel⟩
theorem wd_1541 : Cond.methodLink RX9 154 yX9_costOf ∈ TBL := List.mem_filter.mpr ⟨List.mem_append_right _ (List.mem_of_getElem? (i := 1465) (by decide +kernel)), by decide +kernel⟩
theorem wd_1543 : Cond.instanceMethod yX9_costOf ∈ TBL := List.mem_filter.mpr ⟨List.mem_append_right _ (List.mem_of_getElem? (i := 1467) (by decide +kernel)), by decide +kernel⟩
theorem wd_1544 : Cond.code yX9_costOf cX9_costOf 4 (some .int) ∈ TBL := List.mem_filter.mpr ⟨List.mem_append_right _ (List.mem_of_getElem? (i := 1468) (by decide +kernel)), by decide +kernel⟩
theorem wd_1549 : Cond.methodLink RX9 157 yX9_bits ∈ TBL := List.mem_filter.mpr ⟨List.mem_append_right _ (List.mem_of_getElem? (i := 1473) (by decide +kernel)), by decide +kernel⟩
theorem wd_1550 : Cond.static yX9_bits ∈ TBL := List.mem_filter.mpr ⟨List.mem_append_right _ (List.mem_of_getElem? (i := 1474) (by decide +kernel)), by decide +kernel⟩
theorem wd_1551 : Cond.code yX9_bits cX9_bits 3 (some .int) ∈ TBL := List.mem_filter.mpr ⟨List.mem_append_right _ (List.mem_of_getElem? (i := 1475) (by decide +kernel)), by decide +kernel⟩
theorem wd_1556 : Cond.constantLong RX9 160 (3) ∈ TBL := List.mem_filter.mpr ⟨List.mem_append_right _ (List.mem_of_getElem? (i := 1480) (by decide +kernel)), by decide +kernel⟩
theorem wd_1557 : Cond.constantLong RX9 162 (99999) ∈ TBL := List.mem_filter.mpr ⟨List.mem_append_right _ (List.mem_of_getElem? (i := 1481) (by decide +kernel)), by decide +kernel⟩
theorem wd_1566 : Cond.constantLong RX9 167 (5) ∈ TBL := List.mem_filter.mpr ⟨List.mem_append_right _ (List.mem_of_getElem? (i := 1490) (by decide +kernel)), by decide +kernel⟩
theorem wd_1567 : Cond.methodLink RX9 164 yX9_written ∈ TBL := List.mem_filter.mpr ⟨List.mem_append_right _ (List.mem_of_getElem? (i := 1491) (by decide +kernel)), by decide +kernel⟩
theorem wd_1569 : Cond.instanceMethod yX9_written ∈ TBL := List.mem_filter.mpr ⟨List.mem_append_right _ (List.mem_of_getElem? (i := 1493) (by decide +kernel)), by decide +kernel⟩
theorem wd_1570 : Cond.code yX9_written cX9_written 5 (some .int) ∈ TBL := List.mem_filter.mpr ⟨List.mem_append_right _ (List.mem_of_getElem? (i := 1494) (by decide +kernel)), by decide +kernel⟩
theorem wd_1571 : Cond.methodLink RX9 169 yX9_sentUp ∈ TBL := List.mem_filter.mpr ⟨List.mem_append_right _ (List.mem_of_getElem? (i := 1495) (by decide +kernel)), by decide +kernel⟩
theorem wd_1573 : Cond.instanceMethod yX9_sentUp ∈ TBL := List.mem_filter.mpr ⟨List.mem_append_right _ (List.mem_of_getElem? (i := 1497) (by decide +kernel)), by decide +kernel⟩
theorem wd_1574 : Cond.code yX9_sentUp cX9_sentUp 3 (some .int) ∈ TBL := List.mem_filter.mpr ⟨List.mem_append_right _ (List.mem_of_getElem? (i := 1498) (by decide +kernel)), by decide +kernel⟩
theorem wd_1587 : Cond.methodLink RX9 178 yX9_untrueAll ∈ TBL := List.mem_filter.mpr ⟨List.mem_append_right _ (List.mem_of_getElem? (i := 1511) (by decide +kernel)), by decide +kernel⟩
theorem wd_1589 : Cond.instanceMethod yX9_untrueAll ∈ TBL := List.mem_filter.mpr ⟨List.mem_append_right _ (List.mem_of_getElem? (i := 1513) (by decide +kernel)), by decide +kernel⟩
theorem wd_1590 : Cond.code yX9_untrueAll cX9_untrueAll 4 (some .int) ∈ TBL := List.mem_filter.mpr ⟨List.mem_append_right _ (List.mem_of_getElem? (i := 1514) (by decide +kernel)), by decide +kernel⟩
theorem wd_1591 : Cond.methodLink RX9 175 yX9_untrueOf ∈ TBL := List.mem_filter.mpr ⟨List.mem_append_right _ (List.mem_of_getElem? (i := 1515) (by decide +kernel)), by decide +kernel⟩
theorem wd_1593 : Cond.instanceMethod yX9_untrueOf ∈ TBL := List.mem_filter.mpr ⟨List.mem_append_right _ (List.mem_of_getElem? (i := 1517) (by decide +kernel)), by decide +kernel⟩
theorem wd_1594 : Cond.code yX9_untrueOf cX9_untrueOf 5 (some .int) ∈ TBL := List.mem_filter.mpr ⟨List.mem_append_right _ (List.mem_of_getElem? (i := 1518) (by decide +kernel)), by decide +kernel⟩
theorem wd_1595 : Cond.methodLink RX9 172 yX9_amount ∈ TBL := List.mem_filter.mpr ⟨List.mem_append_right _ (List.mem_of_getElem? (i := 1519) (by decide +kernel)), by decide +kernel⟩
theorem wd_1596 : Cond.static yX9_amount ∈ TBL := List.mem_filter.mpr ⟨List.mem_append_right _ (List.mem_of_getElem? (i := 1520) (by decide +kernel)), by decide +kernel⟩
theorem wd_1597 : Cond.code yX9_amount cX9_amount 1 (some .int) ∈ TBL := List.mem_filter.mpr ⟨List.mem_append_right _ (List.mem_of_getElem? (i := 1521) (by decide +kernel)), by decide +kernel⟩
theorem wd_1602 : Cond.methodLink RX9 181 yX9_falls ∈ TBL := List.mem_filter.mpr ⟨List.mem_append_right _ (List.mem_of_getElem? (i := 1526) (by decide +kernel)), by decide +kernel⟩
theorem wd_1604 : Cond.instanceMethod yX9_falls ∈ TBL := List.mem_filter.mpr ⟨List.mem_append_right _ (List.mem_of_getElem? (i := 1528) (by decide +kernel)), by decide +kernel⟩
theorem wd_1605 : Cond.code yX9_falls cX9_falls 2 (some .int) ∈ TBL := List.mem_filter.mpr ⟨List.mem_append_right _ (List.mem_of_getElem? (i := 1529) (by decide +kernel)), by decide +kernel⟩
theorem wd_1610 : Cond.constantLong RX9 190 (300) ∈ TBL := List.mem_filter.mpr ⟨List.mem_append_right _ (List.mem_of_getElem? (i := 1534) (by decide +kernel)), by decide +kernel⟩
theorem wd_1611 : Cond.methodLink RX9 192 yX9_findAgain ∈ TBL := List.mem_filter.mpr ⟨List.mem_append_right _ (List.mem_of_getElem? (i := 1535) (by decide +kernel)), by decide +kernel⟩
theorem wd_1613 : Cond.instanceMethod yX9_findAgain ∈ TBL := List.mem_filter.mpr ⟨List.mem_append_right _ (List.mem_of_getElem? (i := 1537) (by decide +kernel)), by decide +kernel⟩
theorem wd_1614 : Cond.code yX9_findAgain cX9_findAgain 7 none ∈ TBL := List.mem_filter.mpr ⟨List.mem_append_right _ (List.mem_of_getElem? (i := 1538) (by decide +kernel)), by decide +kernel⟩
theorem wd_1615 : Cond.methodLink RX9 184 yX9_costAgain ∈ TBL := List.mem_filter.mpr ⟨List.mem_append_right _ (List.mem_of_getElem? (i := 1539) (by decide +kernel)), by decide +kernel⟩
theorem wd_1617 : Cond.instanceMethod yX9_costAgain ∈ TBL := List.mem_filter.mpr ⟨List.mem_append_right _ (List.mem_of_getElem? (i := 1541) (by decide +kernel)), by decide +kernel⟩
theorem wd_1618 : Cond.code yX9_costAgain cX9_costAgain 2 (some .int) ∈ TBL := List.mem_filter.mpr ⟨List.mem_append_right _ (List.mem_of_getElem? (i := 1542) (by decide +kernel)), by decide +kernel⟩
theorem wd_1619 : Cond.methodLink RX9 187 yX9_worthAgain ∈ TBL := List.mem_filter.mpr ⟨List.mem_append_right _ (List.mem_of_getElem? (i := 1543) (by decide +kernel)), by decide +kernel⟩
theorem wd_1621 : Cond.instanceMethod yX9_worthAgain ∈ TBL := List.mem_filter.mpr ⟨List.mem_append_right _ (List.mem_of_getElem? (i := 1545) (by decide +kernel)), by decide +kernel⟩
theorem wd_1622 : Cond.code yX9_worthAgain cX9_worthAgain 2 (some .int) ∈ TBL := List.mem_filter.mpr ⟨List.mem_append_right _ (List.mem_of_getElem? (i := 1546) (by decide +kernel)), by decide +kernel⟩
theorem wd_1627 : Cond.constantLong RX9 201 (4) ∈ TBL := List.mem_filter.mpr ⟨List.mem_append_right _ (List.mem_of_getElem? (i := 1551) (by decide +kernel)), by decide +kernel⟩
theorem wd_1628 : Cond.methodLink RX9 203 yX9_measureNow ∈ TBL := List.mem_filter.mpr ⟨List.mem_append_right _ (List.mem_of_getElem? (i := 1552) (by decide +kernel)), by decide +kernel⟩
theorem wd_1630 : Cond.instanceMethod yX9_measureNow ∈ TBL := List.mem_filter.mpr ⟨List.mem_append_right _ (List.mem_of_getElem? (i := 1554) (by decide +kernel)), by decide +kernel⟩
theorem wd_1631 : Cond.code yX9_measureNow cX9_measureNow 4 (some .int) ∈ TBL := List.mem_filter.mpr ⟨List.mem_append_right _ (List.mem_of_getElem? (i := 1555) (by decide +kernel)), by decide +kernel⟩
theorem wd_1632 : Cond.methodLink RX9 195 yX9_squares ∈ TBL := List.mem_filter.mpr ⟨List.mem_append_right _ (List.mem_of_getElem? (i := 1556) (by decide +kernel)), by decide +kernel⟩
theorem wd_1634 : Cond.instanceMethod yX9_squares ∈ TBL := List.mem_filter.mpr ⟨List.mem_append_right _ (List.mem_of_getElem? (i := 1558) (by decide +kernel)), by decide +kernel⟩
theorem wd_1635 : Cond.code yX9_squares cX9_squares 5 (some .int) ∈ TBL := List.mem_filter.mpr ⟨List.mem_append_right _ (List.mem_of_getElem? (i := 1559) (by decide +kernel)), by decide +kernel⟩
theorem wd_1636 : Cond.methodLink RX9 198 yX9_round ∈ TBL := List.mem_filter.mpr ⟨List.mem_append_right _ (List.mem_of_getElem? (i := 1560) (by decide +kernel)), by decide +kernel⟩
theorem wd_1641 : Cond.constantLong RX9 215 (50) ∈ TBL := List.mem_filter.mpr ⟨List.mem_append_right _ (List.mem_of_getElem? (i := 1565) (by decide +kernel)), by decide +kernel⟩
theorem wd_1642 : Cond.methodLink RX9 217 yX9_makes ∈ TBL := List.mem_filter.mpr ⟨List.mem_append_right _ (List.mem_of_getElem? (i := 1566) (by decide +kernel)), by decide +kernel⟩
theorem wd_1644 : Cond.instanceMethod yX9_makes ∈ TBL := List.mem_filter.mpr ⟨List.mem_append_right _ (List.mem_of_getElem? (i := 1568) (by decide +kernel)), by decide +kernel⟩
theorem wd_1645 : Cond.code yX9_makes cX9_makes 3 none ∈ TBL := List.mem_filter.mpr ⟨List.mem_append_right _ (List.mem_of_getElem? (i := 1569) (by decide +kernel)), by decide +kernel⟩
theorem wd_1646 : Cond.methodLink RX9 212 yX9_hundredths ∈ TBL := List.mem_filter.mpr ⟨List.mem_append_right _ (List.mem_of_getElem? (i := 1570) (by decide +kernel)), by decide +kernel⟩
theorem wd_1648 : Cond.instanceMethod yX9_hundredths ∈ TBL := List.mem_filter.mpr ⟨List.mem_append_right _ (List.mem_of_getElem? (i := 1572) (by decide +kernel)), by decide +kernel⟩
theorem wd_1649 : Cond.code yX9_hundredths cX9_hundredths 3 (some .int) ∈ TBL := List.mem_filter.mpr ⟨List.mem_append_right _ (List.mem_of_getElem? (i := 1573) (by decide +kernel)), by decide +kernel⟩
theorem wd_1650 : Cond.constant RX9 209 (1103515245) ∈ TBL := List.mem_filter.mpr ⟨List.mem_append_right _ (List.mem_of_getElem? (i := 1574) (by decide +kernel)), by decide +kernel⟩
theorem wd_1651 : Cond.constant RX9 210 (2147483647) ∈ TBL := List.mem_filter.mpr ⟨List.mem_append_right _ (List.mem_of_getElem? (i := 1575) (by decide +kernel)), by decide +kernel⟩
theorem wd_1652 : Cond.constant RX9 211 (65536) ∈ TBL := List.mem_filter.mpr ⟨List.mem_append_right _ (List.mem_of_getElem? (i := 1576) (by decide +kernel)), by decide +kernel⟩
theorem wd_1661 : Cond.methodLink RX9 282 yX9_wrongRow ∈ TBL := List.mem_filter.mpr ⟨List.mem_append_right _ (List.mem_of_getElem? (i := 1585) (by decide +kernel)), by decide +kernel⟩
theorem wd_1663 : Cond.instanceMethod yX9_wrongRow ∈ TBL := List.mem_filter.mpr ⟨List.mem_append_right _ (List.mem_of_getElem? (i := 1587) (by decide +kernel)), by decide +kernel⟩
theorem wd_1664 : Cond.code yX9_wrongRow cX9_wrongRow 3 (some .int) ∈ TBL := List.mem_filter.mpr ⟨List.mem_append_right _ (List.mem_of_getElem? (i := 1588) (by decide +kernel)), by decide +kernel⟩
theorem wd_1665 : Cond.methodLink RX9 285 yX9_faultOf ∈ TBL := List.mem_filter.mpr ⟨List.mem_append_right _ (List.mem_of_getElem? (i := 1589) (by decide +kernel)), by decide +kernel⟩
theorem wd_1667 : Cond.instanceMethod yX9_faultOf ∈ TBL := List.mem_filter.mpr ⟨List.mem_append_right _ (List.mem_of_getElem? (i := 1591) (by decide +kernel)), by decide +kernel⟩
theorem wd_1668 : Cond.code yX9_faultOf cX9_faultOf 3 (some .int) ∈ TBL := List.mem_filter.mpr ⟨List.mem_append_right _ (List.mem_of_getElem? (i := 1592) (by decide +kernel)), by decide +kernel⟩
theorem wd_1669 : Cond.methodLink RX9 274 yX9_begins ∈ TBL := List.mem_filter.mpr ⟨List.mem_append_right _ (List.mem_of_getElem? (i := 1593) (by decide +kernel)), by decide +kernel⟩
theorem wd_1671 : Cond.instanceMethod yX9_begins ∈ TBL := List.mem_filter.mpr ⟨List.mem_append_right _ (List.mem_of_getElem? (i := 1595) (by decide +kernel)), by decide +kernel⟩
theorem wd_1672 : Cond.code yX9_begins cX9_begins 5 none ∈ TBL := List.mem_filter.mpr ⟨List.mem_append_right _ (List.mem_of_getElem? (i := 1596) (by decide +kernel)), by decide +kernel⟩
theorem wd_1673 : Cond.methodLink RX9 234 yX9_sign ∈ TBL := List.mem_filter.mpr ⟨List.mem_append_right _ (List.mem_of_getElem? (i := 1597) (by decide +kernel)), by decide +kernel⟩
theorem wd_1675 : Cond.instanceMethod yX9_sign ∈ TBL := List.mem_filter.mpr ⟨List.mem_append_right _ (List.mem_of_getElem? (i := 1599) (by decide +kernel)), by decide +kernel⟩
theorem wd_1676 : Cond.code yX9_sign cX9_sign 1 (some .int) ∈ TBL := List.mem_filter.mpr ⟨List.mem_append_right _ (List.mem_of_getElem? (i := 1600) (by decide +kernel)), by decide +kernel⟩
theorem wd_1677 : Cond.constantLong RX9 278 (65) ∈ TBL := List.mem_filter.mpr ⟨List.mem_append_right _ (List.mem_of_getElem? (i := 1601) (by decide +kernel)), by decide +kernel⟩
theorem wd_1678 : Cond.constantLong RX9 280 (90) ∈ TBL := List.mem_filter.mpr ⟨List.mem_append_right _ (List.mem_of_getElem? (i := 1602) (by decide +kernel)), by decide +kernel⟩
theorem wd_1679 : Cond.methodLink RX9 241 yX9_takes ∈ TBL := List.mem_filter.mpr ⟨List.mem_append_right _ (List.mem_of_getElem? (i := 1603) (by decide +kernel)), by decide +kernel⟩
theorem wd_1681 : Cond.instanceMethod yX9_takes ∈ TBL := List.mem_filter.mpr ⟨List.mem_append_right _ (List.mem_of_getElem? (i := 1605) (by decide +kernel)), by decide +kernel⟩
theorem wd_1682 : Cond.code yX9_takes cX9_takes 2 (some .boolean) ∈ TBL := List.mem_filter.mpr ⟨List.mem_append_right _ (List.mem_of_getElem? (i := 1606) (by decide +kernel)), by decide +kernel⟩
theorem wd_1683 : Cond.methodLink RX9 253 yX9_or ∈ TBL := List.mem_filter.mpr ⟨List.mem_append_right _ (List.mem_of_getElem? (i := 1607) (by decide +kernel)), by decide +kernel⟩
theorem wd_1685 : Cond.instanceMethod yX9_or ∈ TBL := List.mem_filter.mpr ⟨List.mem_append_right _ (List.mem_of_getElem? (i := 1609) (by decide +kernel)), by decide +kernel⟩
theorem wd_1686 : Cond.code yX9_or cX9_or 3 (some .boolean) ∈ TBL := List.mem_filter.mpr ⟨List.mem_append_right _ (List.mem_of_getElem? (i := 1610) (by decide +kernel)), by decide +kernel⟩
theorem wd_1687 : Cond.methodLink RX9 237 yX9_and ∈ TBL := List.mem_filter.mpr ⟨List.mem_append_right _ (List.mem_of_getElem? (i := 1611) (by decide +kernel)), by decide +kernel⟩
theorem wd_1689 : Cond.instanceMethod yX9_and ∈ TBL := List.mem_filter.mpr ⟨List.mem_append_right _ (List.mem_of_getElem? (i := 1613) (by decide +kernel)), by decide +kernel⟩
theorem wd_1690 : Cond.code yX9_and cX9_and 3 (some .boolean) ∈ TBL := List.mem_filter.mpr ⟨List.mem_append_right _ (List.mem_of_getElem? (i := 1614) (by decide +kernel)), by decide +kernel⟩
theorem wd_1691 : Cond.methodLink RX9 244 yX9_test ∈ TBL := List.mem_filter.mpr ⟨List.mem_append_right _ (List.mem_of_getElem? (i := 1615) (by decide +kernel)), by decide +kernel⟩
theorem wd_1693 : Cond.instanceMethod yX9_test ∈ TBL := List.mem_filter.mpr ⟨List.mem_append_right _ (List.mem_of_getElem? (i := 1617) (by decide +kernel)), by decide +kernel⟩
theorem wd_1694 : Cond.code yX9_test cX9_test 4 (some .boolean) ∈ TBL := List.mem_filter.mpr ⟨List.mem_append_right _ (List.mem_of_getElem? (i := 1618) (by decide +kernel)), by decide +kernel⟩
theorem wd_1695 : Cond.methodLink RX9 250 yX9_breaks ∈ TBL := List.mem_filter.mpr ⟨List.mem_append_right _ (List.mem_of_getElem? (i := 1619) (by decide +kernel)), by decide +kernel⟩
theorem wd_1697 : Cond.instanceMethod yX9_breaks ∈ TBL := List.mem_filter.mpr ⟨List.mem_append_right _ (List.mem_of_getElem? (i := 1621) (by decide +kernel)), by decide +kernel⟩
theorem wd_1698 : Cond.code yX9_breaks cX9_breaks 1 (some .boolean) ∈ TBL := List.mem_filter.mpr ⟨List.mem_append_right _ (List.mem_of_getElem? (i := 1622) (by decide +kernel)), by decide +kernel⟩
theorem wd_1699 : Cond.methodLink RX9 256 yX9_sum_ ∈ TBL := List.mem_filter.mpr ⟨List.mem_append_right _ (List.mem_of_getElem? (i := 1623) (by decide +kernel)), by decide +kernel⟩
theorem wd_1701 : Cond.instanceMethod yX9_sum_ ∈ TBL := List.mem_filter.mpr ⟨List.mem_append_right _ (List.mem_of_getElem? (i := 1625) (by decide +kernel)), by decide +kernel⟩
theorem wd_1702 : Cond.code yX9_sum_ cX9_sum_ 4 (some .int) ∈ TBL := List.mem_filter.mpr ⟨List.mem_append_right _ (List.mem_of_getElem? (i := 1626) (by decide +kernel)), by decide +kernel⟩
theorem wd_1703 : Cond.methodLink RX9 259 yX9_product ∈ TBL := List.mem_filter.mpr ⟨List.mem_append_right _ (List.mem_of_getElem? (i := 1627) (by decide +kernel)), by decide +kernel⟩
theorem wd_1705 : Cond.instanceMethod yX9_product ∈ TBL := List.mem_filter.mpr ⟨List.mem_append_right _ (List.mem_of_getElem? (i := 1629) (by decide +kernel)), by decide +kernel⟩
theorem wd_1706 : Cond.code yX9_product cX9_product 4 (some .int) ∈ TBL := List.mem_filter.mpr ⟨List.mem_append_right _ (List.mem_of_getElem? (i := 1630) (by decide +kernel)), by decide +kernel⟩
theorem wd_1707 : Cond.methodLink RX9 262 yX9_atom ∈ TBL := List.mem_filter.mpr ⟨List.mem_append_right _ (List.mem_of_getElem? (i := 1631) (by decide +kernel)), by decide +kernel⟩
theorem wd_1709 : Cond.instanceMethod yX9_atom ∈ TBL := List.mem_filter.mpr ⟨List.mem_append_right _ (List.mem_of_getElem? (i := 1633) (by decide +kernel)), by decide +kernel⟩
theorem wd_1710 : Cond.code yX9_atom cX9_atom 4 (some .int) ∈ TBL := List.mem_filter.mpr ⟨List.mem_append_right _ (List.mem_of_getElem? (i := 1634) (by decide +kernel)), by decide +kernel⟩
theorem wd_1711 : Cond.methodLink RX9 265 yX9_isDigit ∈ TBL := List.mem_filter.mpr ⟨List.mem_append_right _ (List.mem_of_getElem? (i := 1635) (by decide +kernel)), by decide +kernel⟩
theorem wd_1712 : Cond.static yX9_isDigit ∈ TBL := List.mem_filter.mpr ⟨List.mem_append_right _ (List.mem_of_getElem? (i := 1636) (by decide +kernel)), by decide +kernel⟩
theorem wd_1713 : Cond.code yX9_isDigit cX9_isDigit 1 (some .boolean) ∈ TBL := List.mem_filter.mpr ⟨List.mem_append_right _ (List.mem_of_getElem? (i := 1637) (by decide +kernel)), by decide +kernel⟩
theorem wd_1714 : Cond.methodLink RX9 271 yX9_fieldOf ∈ TBL := List.mem_filter.mpr ⟨List.mem_append_right _ (List.mem_of_getElem? (i := 1638) (by decide +kernel)), by decide +kernel⟩
theorem wd_1716 : Cond.instanceMethod yX9_fieldOf ∈ TBL := List.mem_filter.mpr ⟨List.mem_append_right _ (List.mem_of_getElem? (i := 1640) (by decide +kernel)), by decide +kernel⟩
theorem wd_1717 : Cond.code yX9_fieldOf cX9_fieldOf 2 (some .int) ∈ TBL := List.mem_filter.mpr ⟨List.mem_append_right _ (List.mem_of_getElem? (i := 1641) (by decide +kernel)), by decide +kernel⟩
theorem wd_1726 : Cond.methodLink RX9 288 yX9_markOf ∈ TBL := List.mem_filter.mpr ⟨List.mem_append_right _ (List.mem_of_getElem? (i := 1650) (by decide +kernel)), by decide +kernel⟩
theorem wd_1728 : Cond.instanceMethod yX9_markOf ∈ TBL := List.mem_filter.mpr ⟨List.mem_append_right _ (List.mem_of_getElem? (i := 1652) (by decide +kernel)), by decide +kernel⟩
theorem wd_1729 : Cond.code yX9_markOf cX9_markOf 3 (some .int) ∈ TBL := List.mem_filter.mpr ⟨List.mem_append_right _ (List.mem_of_getElem? (i := 1653) (by decide +kernel)), by decide +kernel⟩
theorem wd_1746 : Cond.constantLong RX9 294 (6) ∈ TBL := List.mem_filter.mpr ⟨List.mem_append_right _ (List.mem_of_getElem? (i := 1670) (by decide +kernel)), by decide +kernel⟩
theorem wd_1751 : Cond.methodLink RX9 296 yX9_weightOf ∈ TBL := List.mem_filter.mpr ⟨List.mem_append_right _ (List.mem_of_getElem? (i := 1675) (by decide +kernel)), by decide +kernel⟩
theorem wd_1753 : Cond.instanceMethod yX9_weightOf ∈ TBL := List.mem_filter.mpr ⟨List.mem_append_right _ (List.mem_of_getElem? (i := 1677) (by decide +kernel)), by decide +kernel⟩
theorem wd_1754 : Cond.code yX9_weightOf cX9_weightOf 2 (some .int) ∈ TBL := List.mem_filter.mpr ⟨List.mem_append_right _ (List.mem_of_getElem? (i := 1678) (by decide +kernel)), by decide +kernel⟩
theorem wd_1759 : Cond.constantLong RX9 299 (2) ∈ TBL := List.mem_filter.mpr ⟨List.mem_append_right _ (List.mem_of_getElem? (i := 1683) (by decide +kernel)), by decide +kernel⟩
theorem wd_1776 : Cond.methodLink RX9 301 yX9_wrongKept ∈ TBL := List.mem_filter.mpr ⟨List.mem_append_right _ (List.mem_of_getElem? (i := 1700) (by decide +kernel)), by decide +kernel⟩
theorem wd_1778 : Cond.instanceMethod yX9_wrongKept ∈ TBL := List.mem_filter.mpr ⟨List.mem_append_right _ (List.mem_of_getElem? (i := 1702) (by decide +kernel)), by decide +kernel⟩
theorem wd_1779 : Cond.code yX9_wrongKept cX9_wrongKept 2 (some .int) ∈ TBL := List.mem_filter.mpr ⟨List.mem_append_right _ (List.mem_of_getElem? (i := 1703) (by decide +kernel)), by decide +kernel⟩
theorem k0_0 : K0[0]? = some (8, 8) := by decide +kernel
theorem k0_1 : K0[1]? = some (0, 12) := by decide +kernel
theorem k0_2 : K0[2]? = some (13, 30) := by decide +kernel
theorem k0_3 : K0[3]? = some (10, 10) := by decide +kernel
theorem k0_4 : K0[4]? = some (11, 4) := by decide +kernel
theorem k0_5 : K0[5]? = some (10, 4) := by decide +kernel
theorem k0_6 : K0[6]? = some (10, 4) := by decide +kernel
theorem k0_85 : K0[85]? = some (0, 12) := by decide +kernel
theorem k0_169 : K0[169]? = some (0, 12) := by decide +kernel
theorem k0_253 : K0[253]? = some (14, 8) := by decide +kernel
theorem k0_254 : K0[254]? = some (7, 5) := by decide +kernel
theorem k0_255 : K0[255]? = some (10, 30) := by decide +kernel
theorem k0_256 : K0[256]? = some (4, 2) := by decide +kernel
theorem k0_257 : K0[257]? = some (10, 301) := by decide +kernel
theorem k0_258 : K0[258]? = some (10, 301) := by decide +kernel
theorem k0_259 : K0[259]? = some (2, 5) := by decide +kernel
theorem k0_284 : K0[284]? = some (9, 28) := by decide +kernel
theorem k0_285 : K0[285]? = some (10, 1194) := by decide +kernel
theorem k0_286 : K0[286]? = some (10, 1194) := by decide +kernel
theorem k0_287 : K0[287]? = some (10, 8) := by decide +kernel
theorem k0_288 : K0[288]? = some (10, 8) := by decide +kernel
theorem k0_289 : K0[289]? = some (10, 8) := by decide +kernel
theorem k0_290 : K0[290]? = some (10, 640) := by decide +kernel
theorem k0_291 : K0[291]? = some (10, 8) := by decide +kernel
theorem k0_292 : K0[292]? = some (10, 8) := by decide +kernel
theorem k0_293 : K0[293]? = some (10, 10) := by decide +kernel
theorem k0_294 : K0[294]? = some (10, 30) := by decide +kernel
theorem k0_295 : K0[295]? = some (10, 9331) := by decide +kernel
theorem k0_296 : K0[296]? = some (10, 30) := by decide +kernel
theorem k0_297 : K0[297]? = some (10, 30) := by decide +kernel
theorem k0_298 : K0[298]? = some (10, 30) := by decide +kernel
theorem k0_299 : K0[299]? = some (10, 30) := by decide +kernel
theorem mk_J6_bitCount_0f7a4 : MOk yJ6_bitCount_0f7a4 cJ6_bitCount_0f7a4 1 (some .int) 1 := ⟨by decide +kernel, wd_674, wd_89⟩
theorem mk_J7_fill_53178 : MOk yJ7_fill_53178 cJ7_fill_53178 4 none 2 := ⟨by decide +kernel, wd_562, wd_88⟩
theorem mk_X0_addHall : MOk yX0_addHall cX0_addHall 4 (some .int) 3 := ⟨by decide +kernel, wd_435, wd_78⟩
theorem vk_X0_addHall : VOk yX0_addHall := ⟨wd_433, wd_434⟩
theorem mk_X0_addMark : MOk yX0_addMark cX0_addMark 3 (some .int) 2 := ⟨by decide +kernel, wd_1015, wd_78⟩
theorem vk_X0_addMark : VOk yX0_addMark := ⟨wd_1013, wd_1014⟩
theorem mk_X0_allLists : MOk yX0_allLists cX0_allLists 3 (some .int) 0 := ⟨by decide +kernel, wd_1097, wd_78⟩
theorem vk_X0_allLists : VOk yX0_allLists := ⟨wd_1095, wd_1096⟩
theorem mk_X0_allMustBe : MOk yX0_allMustBe cX0_allMustBe 3 (some .int) 0 := ⟨by decide +kernel, wd_761, wd_78⟩
theorem vk_X0_allMustBe : VOk yX0_allMustBe := ⟨wd_759, wd_760⟩
theorem mk_X0_allUntrue : MOk yX0_allUntrue cX0_allUntrue 3 (some .int) 0 := ⟨by decide +kernel, wd_749, wd_78⟩
theorem vk_X0_allUntrue : VOk yX0_allUntrue := ⟨wd_747, wd_748⟩
theorem mk_X0_allWrittenCame : MOk yX0_allWrittenCame cX0_allWrittenCame 3 (some .int) 0 := ⟨by decide +kernel, wd_741, wd_78⟩
theorem vk_X0_allWrittenCame : VOk yX0_allWrittenCame := ⟨wd_739, wd_740⟩
theorem mk_X0_allWrittenOurs : MOk yX0_allWrittenOurs cX0_allWrittenOurs 3 (some .int) 0 := ⟨by decide +kernel, wd_737, wd_78⟩
theorem vk_X0_allWrittenOurs : VOk yX0_allWrittenOurs := ⟨wd_735, wd_736⟩
theorem mk_X0_becomeHonest : MOk yX0_becomeHonest cX0_becomeHonest 6 (some .int) 1 := ⟨by decide +kernel, wd_849, wd_78⟩
theorem vk_X0_becomeHonest : VOk yX0_becomeHonest := ⟨wd_847, wd_848⟩
theorem mk_X0_copyFrom : MOk yX0_copyFrom cX0_copyFrom 3 none 1 := ⟨by decide +kernel, wd_834, wd_78⟩
theorem vk_X0_copyFrom : VOk yX0_copyFrom := ⟨wd_832, wd_833⟩
theorem mk_X0_countFigures : MOk yX0_countFigures cX0_countFigures 5 (some .int) 1 := ⟨by decide +kernel, wd_559, wd_78⟩
theorem vk_X0_countFigures : VOk yX0_countFigures := ⟨wd_558, wd_3⟩
theorem mk_X0_drawn : MOk yX0_drawn cX0_drawn 3 (some .int) 1 := ⟨by decide +kernel, wd_857, wd_78⟩
theorem vk_X0_drawn : VOk yX0_drawn := ⟨wd_856, wd_9⟩
theorem mk_X0_fewestTurns : MOk yX0_fewestTurns cX0_fewestTurns 5 (some .int) 0 := ⟨by decide +kernel, wd_775, wd_78⟩
theorem vk_X0_fewestTurns : VOk yX0_fewestTurns := ⟨wd_773, wd_774⟩
theorem mk_X0_figureCount : MOk yX0_figureCount cX0_figureCount 3 (some .int) 2 := ⟨by decide +kernel, wd_555, wd_78⟩
theorem vk_X0_figureCount : VOk yX0_figureCount := ⟨wd_553, wd_554⟩
theorem mk_X0_hasHighKin : MOk yX0_hasHighKin cX0_hasHighKin 4 (some .boolean) 1 := ⟨by decide +kernel, wd_637, wd_78⟩
theorem vk_X0_hasHighKin : VOk yX0_hasHighKin := ⟨wd_635, wd_636⟩
theorem mk_X0_highCount : MOk yX0_highCount cX0_highCount 3 (some .int) 0 := ⟨by decide +kernel, wd_825, wd_78⟩
theorem vk_X0_highCount : VOk yX0_highCount := ⟨wd_823, wd_824⟩
theorem mk_X0_isHall : MOk yX0_isHall cX0_isHall 2 (some .boolean) 1 := ⟨by decide +kernel, wd_447, wd_78⟩
theorem vk_X0_isHall : VOk yX0_isHall := ⟨wd_445, wd_446⟩
theorem mk_X0_measured : MOk yX0_measured cX0_measured 2 (some .int) 1 := ⟨by decide +kernel, wd_816, wd_78⟩
theorem vk_X0_measured : VOk yX0_measured := ⟨wd_814, wd_815⟩
theorem mk_X0_middleShare : MOk yX0_middleShare cX0_middleShare 5 (some .int) 1 := ⟨by decide +kernel, wd_614, wd_78⟩
theorem vk_X0_middleShare : VOk yX0_middleShare := ⟨wd_612, wd_613⟩
theorem mk_X0_mostFalling : MOk yX0_mostFalling cX0_mostFalling 5 (some .int) 1 := ⟨by decide +kernel, wd_780, wd_78⟩
theorem vk_X0_mostFalling : VOk yX0_mostFalling := ⟨wd_779, wd_6⟩
theorem mk_X0_mostOfLaw : MOk yX0_mostOfLaw cX0_mostOfLaw 1 (some .int) 1 := ⟨by decide +kernel, wd_459, wd_78⟩
theorem mk_X0_nameOf : MOk yX0_nameOf cX0_nameOf 3 (some .int) 1 := ⟨by decide +kernel, wd_1023, wd_78⟩
theorem vk_X0_nameOf : VOk yX0_nameOf := ⟨wd_1021, wd_1022⟩
theorem mk_X0_nextSeed : MOk yX0_nextSeed cX0_nextSeed 1 (some .int) 1 := ⟨by decide +kernel, wd_852, wd_78⟩
theorem mk_X0_putInOrder : MOk yX0_putInOrder cX0_putInOrder 4 none 2 := ⟨by decide +kernel, wd_618, wd_78⟩
theorem vk_X0_putInOrder : VOk yX0_putInOrder := ⟨wd_617, wd_4⟩
theorem mk_X0_roundCount : MOk yX0_roundCount cX0_roundCount 5 (some .int) 1 := ⟨by decide +kernel, wd_591, wd_78⟩
theorem vk_X0_roundCount : VOk yX0_roundCount := ⟨wd_589, wd_590⟩
theorem mk_X0_rowsWith : MOk yX0_rowsWith cX0_rowsWith 9 (some .long) 2 := ⟨by decide +kernel, wd_582, wd_78⟩
theorem mk_X0_rowsWithFigure : MOk yX0_rowsWithFigure cX0_rowsWithFigure 6 (some .long) 1 := ⟨by decide +kernel, wd_579, wd_78⟩
theorem vk_X0_rowsWithFigure : VOk yX0_rowsWithFigure := ⟨wd_577, wd_578⟩
theorem mk_X0_sentCame : MOk yX0_sentCame cX0_sentCame 2 (some .int) 1 := ⟨by decide +kernel, wd_709, wd_78⟩
theorem vk_X0_sentCame : VOk yX0_sentCame := ⟨wd_707, wd_708⟩
theorem mk_X0_sentMargin : MOk yX0_sentMargin cX0_sentMargin 3 (some .int) 0 := ⟨by decide +kernel, wd_723, wd_78⟩
theorem vk_X0_sentMargin : VOk yX0_sentMargin := ⟨wd_721, wd_722⟩
theorem mk_X0_sentOurs : MOk yX0_sentOurs cX0_sentOurs 2 (some .int) 1 := ⟨by decide +kernel, wd_714, wd_78⟩
theorem vk_X0_sentOurs : VOk yX0_sentOurs := ⟨wd_712, wd_713⟩
theorem mk_X0_shareFromMiddle : MOk yX0_shareFromMiddle cX0_shareFromMiddle 2 (some .int) 1 := ⟨by decide +kernel, wd_628, wd_78⟩
theorem vk_X0_shareFromMiddle : VOk yX0_shareFromMiddle := ⟨wd_626, wd_627⟩
theorem mk_X0_unevenness : MOk yX0_unevenness cX0_unevenness 7 (some .int) 1 := ⟨by decide +kernel, wd_820, wd_78⟩
theorem vk_X0_unevenness : VOk yX0_unevenness := ⟨wd_819, wd_8⟩
theorem mk_X0_watchedCount : MOk yX0_watchedCount cX0_watchedCount 3 (some .int) 0 := ⟨by decide +kernel, wd_1101, wd_78⟩
theorem vk_X0_watchedCount : VOk yX0_watchedCount := ⟨wd_1099, wd_1100⟩
theorem mk_X0_writeTruth : MOk yX0_writeTruth cX0_writeTruth 3 none 0 := ⟨by decide +kernel, wd_864, wd_78⟩
theorem vk_X0_writeTruth : VOk yX0_writeTruth := ⟨wd_862, wd_863⟩
theorem mk_X0_writtenCame : MOk yX0_writtenCame cX0_writtenCame 4 (some .int) 1 := ⟨by decide +kernel, wd_701, wd_78⟩
theorem vk_X0_writtenCame : VOk yX0_writtenCame := ⟨wd_699, wd_700⟩
theorem mk_X0_writtenCount : MOk yX0_writtenCount cX0_writtenCount 3 (some .int) 0 := ⟨by decide +kernel, wd_512, wd_78⟩
theorem vk_X0_writtenCount : VOk yX0_writtenCount := ⟨wd_510, wd_511⟩
theorem mk_X0_writtenMargin : MOk yX0_writtenMargin cX0_writtenMargin 1 (some .int) 0 := ⟨by decide +kernel, wd_733, wd_78⟩
theorem vk_X0_writtenMargin : VOk yX0_writtenMargin := ⟨wd_731, wd_732⟩
theorem mk_X0_writtenOurs : MOk yX0_writtenOurs cX0_writtenOurs 4 (some .int) 1 := ⟨by decide +kernel, wd_705, wd_78⟩
theorem vk_X0_writtenOurs : VOk yX0_writtenOurs := ⟨wd_703, wd_704⟩
theorem mk_X1_begin : MOk yX1_begin cX1_begin 4 none 3 := ⟨by decide +kernel, wd_439, wd_80⟩
theorem vk_X1_begin : VOk yX1_begin := ⟨wd_437, wd_438⟩
theorem mk_X1_copyFrom : MOk yX1_copyFrom cX1_copyFrom 2 none 1 := ⟨by decide +kernel, wd_838, wd_80⟩
theorem vk_X1_copyFrom : VOk yX1_copyFrom := ⟨wd_836, wd_837⟩
theorem mk_X1_firstFigure : MOk yX1_firstFigure cX1_firstFigure 3 (some .int) 0 := ⟨by decide +kernel, wd_566, wd_80⟩
theorem vk_X1_firstFigure : VOk yX1_firstFigure := ⟨wd_564, wd_565⟩
theorem mk_X1_lastFigure : MOk yX1_lastFigure cX1_lastFigure 1 (some .int) 0 := ⟨by decide +kernel, wd_570, wd_80⟩
theorem vk_X1_lastFigure : VOk yX1_lastFigure := ⟨wd_568, wd_569⟩
theorem mk_X1_margin : MOk yX1_margin cX1_margin 1 (some .int) 0 := ⟨by decide +kernel, wd_788, wd_80⟩
theorem vk_X1_margin : VOk yX1_margin := ⟨wd_786, wd_787⟩
theorem mk_X1_marginFall : MOk yX1_marginFall cX1_marginFall 1 (some .int) 0 := ⟨by decide +kernel, wd_784, wd_80⟩
theorem vk_X1_marginFall : VOk yX1_marginFall := ⟨wd_782, wd_783⟩
theorem mk_X1_mustBe : MOk yX1_mustBe cX1_mustBe 1 (some .int) 0 := ⟨by decide +kernel, wd_765, wd_80⟩
theorem vk_X1_mustBe : VOk yX1_mustBe := ⟨wd_763, wd_764⟩
theorem mk_X1_share : MOk yX1_share cX1_share 1 (some .int) 0 := ⟨by decide +kernel, wd_497, wd_80⟩
theorem vk_X1_share : VOk yX1_share := ⟨wd_495, wd_496⟩
theorem mk_X1_toldCame : MOk yX1_toldCame cX1_toldCame 1 (some .int) 0 := ⟨by decide +kernel, wd_467, wd_80⟩
theorem vk_X1_toldCame : VOk yX1_toldCame := ⟨wd_465, wd_466⟩
theorem mk_X1_toldOurs : MOk yX1_toldOurs cX1_toldOurs 2 (some .int) 1 := ⟨by decide +kernel, wd_481, wd_80⟩
theorem vk_X1_toldOurs : VOk yX1_toldOurs := ⟨wd_479, wd_480⟩
theorem mk_X1_untruth : MOk yX1_untruth cX1_untruth 1 (some .int) 0 := ⟨by decide +kernel, wd_753, wd_80⟩
theorem vk_X1_untruth : VOk yX1_untruth := ⟨wd_751, wd_752⟩
theorem mk_X1_write : MOk yX1_write cX1_write 3 none 2 := ⟨by decide +kernel, wd_508, wd_80⟩
theorem vk_X1_write : VOk yX1_write := ⟨wd_506, wd_507⟩
theorem mk_X2_addsDigit : MOk yX2_addsDigit cX2_addsDigit 2 (some .boolean) 1 := ⟨by decide +kernel, wd_994, wd_84⟩
theorem vk_X2_addsDigit : VOk yX2_addsDigit := ⟨wd_993, wd_16⟩
theorem mk_X2_become : MOk yX2_become cX2_become 2 (some .boolean) 1 := ⟨by decide +kernel, wd_893, wd_84⟩
theorem vk_X2_become : VOk yX2_become := ⟨wd_892, wd_13⟩
theorem mk_X2_beginsAtom : MOk yX2_beginsAtom cX2_beginsAtom 2 (some .boolean) 1 := ⟨by decide +kernel, wd_901, wd_84⟩
theorem vk_X2_beginsAtom : VOk yX2_beginsAtom := ⟨wd_900, wd_15⟩
theorem mk_X2_beginsTest : MOk yX2_beginsTest cX2_beginsTest 2 (some .boolean) 1 := ⟨by decide +kernel, wd_897, wd_84⟩
theorem vk_X2_beginsTest : VOk yX2_beginsTest := ⟨wd_896, wd_14⟩
theorem mk_X2_faultOf : MOk yX2_faultOf cX2_faultOf 4 (some .int) 2 := ⟨by decide +kernel, wd_885, wd_84⟩
theorem vk_X2_faultOf : VOk yX2_faultOf := ⟨wd_883, wd_884⟩
theorem mk_X2_followsAtom : MOk yX2_followsAtom cX2_followsAtom 2 (some .boolean) 1 := ⟨by decide +kernel, wd_998, wd_84⟩
theorem vk_X2_followsAtom : VOk yX2_followsAtom := ⟨wd_997, wd_17⟩
theorem mk_X2_followsTest : MOk yX2_followsTest cX2_followsTest 2 (some .boolean) 1 := ⟨by decide +kernel, wd_1002, wd_84⟩
theorem vk_X2_followsTest : VOk yX2_followsTest := ⟨wd_1001, wd_18⟩
theorem mk_X2_goesOn : MOk yX2_goesOn cX2_goesOn 2 (some .boolean) 1 := ⟨by decide +kernel, wd_889, wd_84⟩
theorem vk_X2_goesOn : VOk yX2_goesOn := ⟨wd_888, wd_12⟩
theorem mk_X2_isDigit : MOk yX2_isDigit cX2_isDigit 1 (some .boolean) 1 := ⟨by decide +kernel, wd_904, wd_84⟩
theorem mk_X2_isField : MOk yX2_isField cX2_isField 1 (some .boolean) 1 := ⟨by decide +kernel, wd_907, wd_84⟩
theorem mk_X2_isWhole : MOk yX2_isWhole cX2_isWhole 2 (some .boolean) 0 := ⟨by decide +kernel, wd_1006, wd_84⟩
theorem vk_X2_isWhole : VOk yX2_isWhole := ⟨wd_1005, wd_19⟩
theorem mk_X3_beginGroup : MOk yX3_beginGroup cX3_beginGroup 1 none 0 := ⟨by decide +kernel, wd_1031, wd_79⟩
theorem vk_X3_beginGroup : VOk yX3_beginGroup := ⟨wd_1030, wd_20⟩
theorem mk_X3_beginProduct : MOk yX3_beginProduct cX3_beginProduct 1 none 0 := ⟨by decide +kernel, wd_1039, wd_79⟩
theorem vk_X3_beginProduct : VOk yX3_beginProduct := ⟨wd_1038, wd_22⟩
theorem mk_X3_beginSum : MOk yX3_beginSum cX3_beginSum 1 none 0 := ⟨by decide +kernel, wd_1035, wd_79⟩
theorem vk_X3_beginSum : VOk yX3_beginSum := ⟨wd_1034, wd_21⟩
theorem mk_X3_compared : MOk yX3_compared cX3_compared 1 (some .boolean) 0 := ⟨by decide +kernel, wd_1069, wd_79⟩
theorem vk_X3_compared : VOk yX3_compared := ⟨wd_1068, wd_28⟩
theorem mk_X3_endProduct : MOk yX3_endProduct cX3_endProduct 1 none 0 := ⟨by decide +kernel, wd_1061, wd_79⟩
theorem vk_X3_endProduct : VOk yX3_endProduct := ⟨wd_1060, wd_26⟩
theorem mk_X3_endTest : MOk yX3_endTest cX3_endTest 1 none 0 := ⟨by decide +kernel, wd_1065, wd_79⟩
theorem vk_X3_endTest : VOk yX3_endTest := ⟨wd_1064, wd_27⟩
theorem mk_X3_fieldOf : MOk yX3_fieldOf cX3_fieldOf 3 (some .int) 3 := ⟨by decide +kernel, wd_1043, wd_79⟩
theorem mk_X3_holds : MOk yX3_holds cX3_holds 7 (some .boolean) 4 := ⟨by decide +kernel, wd_1027, wd_79⟩
theorem vk_X3_holds : VOk yX3_holds := ⟨wd_1025, wd_1026⟩
theorem mk_X3_join : MOk yX3_join cX3_join 2 none 1 := ⟨by decide +kernel, wd_1073, wd_79⟩
theorem vk_X3_join : VOk yX3_join := ⟨wd_1072, wd_29⟩
theorem mk_X3_takeAtom : MOk yX3_takeAtom cX3_takeAtom 2 none 1 := ⟨by decide +kernel, wd_1048, wd_79⟩
theorem vk_X3_takeAtom : VOk yX3_takeAtom := ⟨wd_1047, wd_23⟩
theorem mk_X3_takeDigit : MOk yX3_takeDigit cX3_takeDigit 3 none 2 := ⟨by decide +kernel, wd_1053, wd_79⟩
theorem vk_X3_takeDigit : VOk yX3_takeDigit := ⟨wd_1052, wd_24⟩
theorem mk_X3_takeJoint : MOk yX3_takeJoint cX3_takeJoint 2 none 1 := ⟨by decide +kernel, wd_1077, wd_79⟩
theorem vk_X3_takeJoint : VOk yX3_takeJoint := ⟨wd_1076, wd_30⟩
theorem mk_X3_takeSign : MOk yX3_takeSign cX3_takeSign 2 none 1 := ⟨by decide +kernel, wd_1057, wd_79⟩
theorem vk_X3_takeSign : VOk yX3_takeSign := ⟨wd_1056, wd_25⟩
theorem mk_X4_consider : MOk yX4_consider cX4_consider 6 none 4 := ⟨by decide +kernel, wd_808, wd_83⟩
theorem vk_X4_consider : VOk yX4_consider := ⟨wd_807, wd_7⟩
theorem mk_X4_plan : MOk yX4_plan cX4_plan 8 none 2 := ⟨by decide +kernel, wd_796, wd_83⟩
theorem vk_X4_plan : VOk yX4_plan := ⟨wd_794, wd_795⟩
theorem mk_X4_worthOf : MOk yX4_worthOf cX4_worthOf 2 (some .int) 2 := ⟨by decide +kernel, wd_803, wd_83⟩
theorem mk_X5_copiedOurs : MOk yX5_copiedOurs cX5_copiedOurs 3 (some .int) 2 := ⟨by decide +kernel, wd_493, wd_81⟩
theorem mk_X5_copyFrom : MOk yX5_copyFrom cX5_copyFrom 2 none 1 := ⟨by decide +kernel, wd_842, wd_81⟩
theorem vk_X5_copyFrom : VOk yX5_copyFrom := ⟨wd_840, wd_841⟩
theorem mk_X5_heaviness : MOk yX5_heaviness cX5_heaviness 1 (some .int) 0 := ⟨by decide +kernel, wd_1151, wd_81⟩
theorem vk_X5_heaviness : VOk yX5_heaviness := ⟨wd_1149, wd_1150⟩
theorem mk_X5_madeOurs : MOk yX5_madeOurs cX5_madeOurs 5 (some .int) 2 := ⟨by decide +kernel, wd_490, wd_81⟩
theorem vk_X5_madeOurs : VOk yX5_madeOurs := ⟨wd_489, wd_0⟩
theorem mk_X5_tellsCame : MOk yX5_tellsCame cX5_tellsCame 3 (some .int) 2 := ⟨by decide +kernel, wd_471, wd_81⟩
theorem vk_X5_tellsCame : VOk yX5_tellsCame := ⟨wd_469, wd_470⟩
theorem mk_X5_tellsOurs : MOk yX5_tellsOurs cX5_tellsOurs 5 (some .int) 4 := ⟨by decide +kernel, wd_485, wd_81⟩
theorem vk_X5_tellsOurs : VOk yX5_tellsOurs := ⟨wd_483, wd_484⟩
theorem mk_X5_toTen : MOk yX5_toTen cX5_toTen 1 (some .int) 1 := ⟨by decide +kernel, wd_474, wd_81⟩
theorem mk_X6_hasPlace : MOk yX6_hasPlace cX6_hasPlace 2 (some .boolean) 1 := ⟨by decide +kernel, wd_534, wd_85⟩
theorem vk_X6_hasPlace : VOk yX6_hasPlace := ⟨wd_532, wd_533⟩
theorem mk_X6_hasPlaces : MOk yX6_hasPlaces cX6_hasPlaces 3 (some .boolean) 2 := ⟨by decide +kernel, wd_1138, wd_85⟩
theorem vk_X6_hasPlaces : VOk yX6_hasPlaces := ⟨wd_1136, wd_1137⟩
theorem mk_X6_holdRow : MOk yX6_holdRow cX6_holdRow 3 none 2 := ⟨by decide +kernel, wd_1120, wd_85⟩
theorem vk_X6_holdRow : VOk yX6_holdRow := ⟨wd_1118, wd_1119⟩
theorem mk_X6_holdSheet : MOk yX6_holdSheet cX6_holdSheet 3 none 2 := ⟨by decide +kernel, wd_1111, wd_85⟩
theorem vk_X6_holdSheet : VOk yX6_holdSheet := ⟨wd_1109, wd_1110⟩
theorem mk_X6_leastNumber : MOk yX6_leastNumber cX6_leastNumber 1 (some .int) 0 := ⟨by decide +kernel, wd_539, wd_85⟩
theorem vk_X6_leastNumber : VOk yX6_leastNumber := ⟨wd_538, wd_2⟩
theorem mk_X6_lowestBits : MOk yX6_lowestBits cX6_lowestBits 2 (some .int) 1 := ⟨by decide +kernel, wd_1130, wd_85⟩
theorem vk_X6_lowestBits : VOk yX6_lowestBits := ⟨wd_1128, wd_1129⟩
theorem mk_X6_tellsNumber : MOk yX6_tellsNumber cX6_tellsNumber 2 (some .boolean) 1 := ⟨by decide +kernel, wd_530, wd_85⟩
theorem vk_X6_tellsNumber : VOk yX6_tellsNumber := ⟨wd_528, wd_529⟩
theorem mk_X7_areFew : MOk yX7_areFew cX7_areFew 1 (some .boolean) 0 := ⟨by decide +kernel, wd_666, wd_82⟩
theorem vk_X7_areFew : VOk yX7_areFew := ⟨wd_664, wd_665⟩
theorem mk_X7_areSome : MOk yX7_areSome cX7_areSome 1 (some .boolean) 0 := ⟨by decide +kernel, wd_654, wd_82⟩
theorem vk_X7_areSome : VOk yX7_areSome := ⟨wd_652, wd_653⟩
theorem mk_X7_choices : MOk yX7_choices cX7_choices 4 (some .int) 1 := ⟨by decide +kernel, wd_670, wd_82⟩
theorem vk_X7_choices : VOk yX7_choices := ⟨wd_668, wd_669⟩
theorem mk_X7_look : MOk yX7_look cX7_look 4 none 1 := ⟨by decide +kernel, wd_649, wd_82⟩
theorem vk_X7_look : VOk yX7_look := ⟨wd_647, wd_648⟩
theorem mk_X7_sharesIn : MOk yX7_sharesIn cX7_sharesIn 4 (some .int) 1 := ⟨by decide +kernel, wd_681, wd_82⟩
theorem vk_X7_sharesIn : VOk yX7_sharesIn := ⟨wd_680, wd_5⟩
theorem mk_X7_worth : MOk yX7_worth cX7_worth 1 (some .int) 0 := ⟨by decide +kernel, wd_658, wd_82⟩
theorem vk_X7_worth : VOk yX7_worth := ⟨wd_656, wd_657⟩
theorem mk_X8_hearOne : MOk yX8_hearOne cX8_hearOne 5 none 4 := ⟨by decide +kernel, wd_526, wd_77⟩
theorem mk_X8_heldTo : MOk yX8_heldTo cX8_heldTo 3 (some .int) 3 := ⟨by decide +kernel, wd_543, wd_77⟩
theorem mk_X8_isDistrict : MOk yX8_isDistrict cX8_isDistrict 1 (some .boolean) 1 := ⟨by decide +kernel, wd_688, wd_77⟩
theorem mk_X8_isRound : MOk yX8_isRound cX8_isRound 2 (some .boolean) 2 := ⟨by decide +kernel, wd_594, wd_77⟩
theorem mk_X8_isShelf : MOk yX8_isShelf cX8_isShelf 1 (some .boolean) 1 := ⟨by decide +kernel, wd_523, wd_77⟩
theorem mk_X8_leastCame : MOk yX8_leastCame cX8_leastCame 2 (some .int) 1 := ⟨by decide +kernel, wd_606, wd_77⟩
theorem mk_X8_roundChoices : MOk yX8_roundChoices cX8_roundChoices 3 (some .int) 1 := ⟨by decide +kernel, wd_602, wd_77⟩
theorem mk_X8_rowRefusal : MOk yX8_rowRefusal cX8_rowRefusal 2 (some .int) 1 := ⟨by decide +kernel, wd_881, wd_77⟩
theorem vk_X8_rowRefusal : VOk yX8_rowRefusal := ⟨wd_880, wd_11⟩
theorem mk_X8_rowsRefusal : MOk yX8_rowsRefusal cX8_rowsRefusal 3 (some .int) 2 := ⟨by decide +kernel, wd_520, wd_77⟩
theorem vk_X8_rowsRefusal : VOk yX8_rowsRefusal := ⟨wd_519, wd_1⟩
theorem mk_X8_shareOf : MOk yX8_shareOf cX8_shareOf 2 (some .int) 2 := ⟨by decide +kernel, wd_500, wd_77⟩
theorem mk_X8_sheetRefusal : MOk yX8_sheetRefusal cX8_sheetRefusal 2 (some .int) 1 := ⟨by decide +kernel, wd_1147, wd_77⟩
theorem vk_X8_sheetRefusal : VOk yX8_sheetRefusal := ⟨wd_1146, wd_31⟩
theorem mk_X8_textRefusal : MOk yX8_textRefusal cX8_textRefusal 3 (some .int) 1 := ⟨by decide +kernel, wd_877, wd_77⟩
theorem vk_X8_textRefusal : VOk yX8_textRefusal := ⟨wd_876, wd_10⟩
theorem mk_X8_within : MOk yX8_within cX8_within 3 (some .boolean) 3 := ⟨by decide +kernel, wd_431, wd_77⟩
theorem mk_X9_amount : MOk yX9_amount cX9_amount 1 (some .int) 1 := ⟨by decide +kernel, wd_1597, wd_86⟩
theorem mk_X9_and : MOk yX9_and cX9_and 3 (some .boolean) 0 := ⟨by decide +kernel, wd_1690, wd_86⟩
theorem vk_X9_and : VOk yX9_and := ⟨wd_1689, wd_66⟩
theorem mk_X9_atom : MOk yX9_atom cX9_atom 4 (some .int) 0 := ⟨by decide +kernel, wd_1710, wd_86⟩
theorem vk_X9_atom : VOk yX9_atom := ⟨wd_1709, wd_71⟩
theorem mk_X9_becomes : MOk yX9_becomes cX9_becomes 4 (some .int) 2 := ⟨by decide +kernel, wd_1418, wd_86⟩
theorem vk_X9_becomes : VOk yX9_becomes := ⟨wd_1417, wd_35⟩
theorem mk_X9_begins : MOk yX9_begins cX9_begins 5 none 4 := ⟨by decide +kernel, wd_1672, wd_86⟩
theorem vk_X9_begins : VOk yX9_begins := ⟨wd_1671, wd_62⟩
theorem mk_X9_bits : MOk yX9_bits cX9_bits 3 (some .int) 1 := ⟨by decide +kernel, wd_1551, wd_86⟩
theorem mk_X9_breaks : MOk yX9_breaks cX9_breaks 1 (some .boolean) 0 := ⟨by decide +kernel, wd_1698, wd_86⟩
theorem vk_X9_breaks : VOk yX9_breaks := ⟨wd_1697, wd_68⟩
theorem mk_X9_costAgain : MOk yX9_costAgain cX9_costAgain 2 (some .int) 1 := ⟨by decide +kernel, wd_1618, wd_86⟩
theorem vk_X9_costAgain : VOk yX9_costAgain := ⟨wd_1617, wd_54⟩
theorem mk_X9_costOf : MOk yX9_costOf cX9_costOf 4 (some .int) 1 := ⟨by decide +kernel, wd_1544, wd_86⟩
theorem vk_X9_costOf : VOk yX9_costOf := ⟨wd_1543, wd_47⟩
theorem mk_X9_counts : MOk yX9_counts cX9_counts 4 none 2 := ⟨by decide +kernel, wd_1483, wd_86⟩
theorem vk_X9_counts : VOk yX9_counts := ⟨wd_1482, wd_42⟩
theorem mk_X9_falls : MOk yX9_falls cX9_falls 2 (some .int) 1 := ⟨by decide +kernel, wd_1605, wd_86⟩
theorem vk_X9_falls : VOk yX9_falls := ⟨wd_1604, wd_52⟩
theorem mk_X9_faultOf : MOk yX9_faultOf cX9_faultOf 3 (some .int) 1 := ⟨by decide +kernel, wd_1668, wd_86⟩
theorem vk_X9_faultOf : VOk yX9_faultOf := ⟨wd_1667, wd_61⟩
theorem mk_X9_fieldOf : MOk yX9_fieldOf cX9_fieldOf 2 (some .int) 1 := ⟨by decide +kernel, wd_1717, wd_86⟩
theorem vk_X9_fieldOf : VOk yX9_fieldOf := ⟨wd_1716, wd_72⟩
theorem mk_X9_figureOf : MOk yX9_figureOf cX9_figureOf 3 (some .int) 2 := ⟨by decide +kernel, wd_1490, wd_86⟩
theorem mk_X9_findAgain : MOk yX9_findAgain cX9_findAgain 7 none 0 := ⟨by decide +kernel, wd_1614, wd_86⟩
theorem vk_X9_findAgain : VOk yX9_findAgain := ⟨wd_1613, wd_53⟩
theorem mk_X9_findWatched : MOk yX9_findWatched cX9_findWatched 3 (some .int) 0 := ⟨by decide +kernel, wd_1540, wd_86⟩
theorem vk_X9_findWatched : VOk yX9_findWatched := ⟨wd_1539, wd_46⟩
theorem mk_X9_get : MOk yX9_get cX9_get 3 (some .int) 2 := ⟨by decide +kernel, wd_1414, wd_86⟩
theorem vk_X9_get : VOk yX9_get := ⟨wd_1413, wd_34⟩
theorem mk_X9_has : MOk yX9_has cX9_has 2 (some .boolean) 1 := ⟨by decide +kernel, wd_1448, wd_86⟩
theorem vk_X9_has : VOk yX9_has := ⟨wd_1447, wd_38⟩
theorem mk_X9_hasFigure : MOk yX9_hasFigure cX9_hasFigure 3 (some .boolean) 2 := ⟨by decide +kernel, wd_1487, wd_86⟩
theorem vk_X9_hasFigure : VOk yX9_hasFigure := ⟨wd_1486, wd_43⟩
theorem mk_X9_held : MOk yX9_held cX9_held 2 (some .int) 2 := ⟨by decide +kernel, wd_1475, wd_86⟩
theorem mk_X9_hundredths : MOk yX9_hundredths cX9_hundredths 3 (some .int) 1 := ⟨by decide +kernel, wd_1649, wd_86⟩
theorem vk_X9_hundredths : VOk yX9_hundredths := ⟨wd_1648, wd_59⟩
theorem mk_X9_isDigit : MOk yX9_isDigit cX9_isDigit 1 (some .boolean) 1 := ⟨by decide +kernel, wd_1713, wd_86⟩
theorem mk_X9_isHall : MOk yX9_isHall cX9_isHall 2 (some .boolean) 1 := ⟨by decide +kernel, wd_1410, wd_86⟩
theorem vk_X9_isHall : VOk yX9_isHall := ⟨wd_1409, wd_33⟩
theorem mk_X9_isIn : MOk yX9_isIn cX9_isIn 6 (some .boolean) 3 := ⟨by decide +kernel, wd_1401, wd_86⟩
theorem mk_X9_isRound : MOk yX9_isRound cX9_isRound 2 (some .boolean) 2 := ⟨by decide +kernel, wd_1502, wd_86⟩
theorem mk_X9_isShelf : MOk yX9_isShelf cX9_isShelf 1 (some .boolean) 1 := ⟨by decide +kernel, wd_1471, wd_86⟩
theorem mk_X9_leftOf : MOk yX9_leftOf cX9_leftOf 2 (some .int) 1 := ⟨by decide +kernel, wd_1524, wd_86⟩
theorem vk_X9_leftOf : VOk yX9_leftOf := ⟨wd_1523, wd_45⟩
theorem mk_X9_less : MOk yX9_less cX9_less 2 (some .int) 2 := ⟨by decide +kernel, wd_1440, wd_86⟩
theorem mk_X9_makes : MOk yX9_makes cX9_makes 3 none 1 := ⟨by decide +kernel, wd_1645, wd_86⟩
theorem vk_X9_makes : VOk yX9_makes := ⟨wd_1644, wd_58⟩
theorem mk_X9_markOf : MOk yX9_markOf cX9_markOf 3 (some .int) 1 := ⟨by decide +kernel, wd_1729, wd_86⟩
theorem vk_X9_markOf : VOk yX9_markOf := ⟨wd_1728, wd_73⟩
theorem mk_X9_measureNow : MOk yX9_measureNow cX9_measureNow 4 (some .int) 1 := ⟨by decide +kernel, wd_1631, wd_86⟩
theorem vk_X9_measureNow : VOk yX9_measureNow := ⟨wd_1630, wd_56⟩
theorem mk_X9_middleOf : MOk yX9_middleOf cX9_middleOf 5 (some .int) 1 := ⟨by decide +kernel, wd_1514, wd_86⟩
theorem vk_X9_middleOf : VOk yX9_middleOf := ⟨wd_1513, wd_44⟩
theorem mk_X9_or : MOk yX9_or cX9_or 3 (some .boolean) 0 := ⟨by decide +kernel, wd_1686, wd_86⟩
theorem vk_X9_or : VOk yX9_or := ⟨wd_1685, wd_65⟩
theorem mk_X9_product : MOk yX9_product cX9_product 4 (some .int) 0 := ⟨by decide +kernel, wd_1706, wd_86⟩
theorem vk_X9_product : VOk yX9_product := ⟨wd_1705, wd_70⟩
theorem mk_X9_round : MOk yX9_round cX9_round 4 (some .int) 1 := ⟨by decide +kernel, wd_1499, wd_86⟩
theorem vk_X9_round : VOk yX9_round := ⟨wd_1497, wd_1498⟩
theorem mk_X9_sentUp : MOk yX9_sentUp cX9_sentUp 3 (some .int) 2 := ⟨by decide +kernel, wd_1574, wd_86⟩
theorem vk_X9_sentUp : VOk yX9_sentUp := ⟨wd_1573, wd_49⟩
theorem mk_X9_share : MOk yX9_share cX9_share 2 (some .int) 1 := ⟨by decide +kernel, wd_1452, wd_86⟩
theorem vk_X9_share : VOk yX9_share := ⟨wd_1451, wd_39⟩
theorem mk_X9_sign : MOk yX9_sign cX9_sign 1 (some .int) 0 := ⟨by decide +kernel, wd_1676, wd_86⟩
theorem vk_X9_sign : VOk yX9_sign := ⟨wd_1675, wd_63⟩
theorem mk_X9_squares : MOk yX9_squares cX9_squares 5 (some .int) 1 := ⟨by decide +kernel, wd_1635, wd_86⟩
theorem vk_X9_squares : VOk yX9_squares := ⟨wd_1634, wd_57⟩
theorem mk_X9_sum_ : MOk yX9_sum_ cX9_sum_ 4 (some .int) 0 := ⟨by decide +kernel, wd_1702, wd_86⟩
theorem vk_X9_sum_ : VOk yX9_sum_ := ⟨wd_1701, wd_69⟩
theorem mk_X9_takes : MOk yX9_takes cX9_takes 2 (some .boolean) 1 := ⟨by decide +kernel, wd_1682, wd_86⟩
theorem vk_X9_takes : VOk yX9_takes := ⟨wd_1681, wd_64⟩
theorem mk_X9_tellsCame : MOk yX9_tellsCame cX9_tellsCame 3 (some .int) 1 := ⟨by decide +kernel, wd_1437, wd_86⟩
theorem vk_X9_tellsCame : VOk yX9_tellsCame := ⟨wd_1436, wd_36⟩
theorem mk_X9_tellsOurs : MOk yX9_tellsOurs cX9_tellsOurs 5 (some .int) 1 := ⟨by decide +kernel, wd_1444, wd_86⟩
theorem vk_X9_tellsOurs : VOk yX9_tellsOurs := ⟨wd_1443, wd_37⟩
theorem mk_X9_test : MOk yX9_test cX9_test 4 (some .boolean) 0 := ⟨by decide +kernel, wd_1694, wd_86⟩
theorem vk_X9_test : VOk yX9_test := ⟨wd_1693, wd_67⟩
theorem mk_X9_there : MOk yX9_there cX9_there 3 (some .int) 0 := ⟨by decide +kernel, wd_1464, wd_86⟩
theorem vk_X9_there : VOk yX9_there := ⟨wd_1463, wd_41⟩
theorem mk_X9_untrueAll : MOk yX9_untrueAll cX9_untrueAll 4 (some .int) 1 := ⟨by decide +kernel, wd_1590, wd_86⟩
theorem vk_X9_untrueAll : VOk yX9_untrueAll := ⟨wd_1589, wd_50⟩
theorem mk_X9_untrueOf : MOk yX9_untrueOf cX9_untrueOf 5 (some .int) 2 := ⟨by decide +kernel, wd_1594, wd_86⟩
theorem vk_X9_untrueOf : VOk yX9_untrueOf := ⟨wd_1593, wd_51⟩
theorem mk_X9_weightOf : MOk yX9_weightOf cX9_weightOf 2 (some .int) 1 := ⟨by decide +kernel, wd_1754, wd_86⟩
theorem vk_X9_weightOf : VOk yX9_weightOf := ⟨wd_1753, wd_74⟩
theorem mk_X9_worthAgain : MOk yX9_worthAgain cX9_worthAgain 2 (some .int) 1 := ⟨by decide +kernel, wd_1622, wd_86⟩
theorem vk_X9_worthAgain : VOk yX9_worthAgain := ⟨wd_1621, wd_55⟩
theorem mk_X9_writes : MOk yX9_writes cX9_writes 4 none 3 := ⟨by decide +kernel, wd_1460, wd_86⟩
theorem vk_X9_writes : VOk yX9_writes := ⟨wd_1459, wd_40⟩
theorem mk_X9_written : MOk yX9_written cX9_written 5 (some .int) 2 := ⟨by decide +kernel, wd_1570, wd_86⟩
theorem vk_X9_written : VOk yX9_written := ⟨wd_1569, wd_48⟩
theorem mk_X9_wrongKept : MOk yX9_wrongKept cX9_wrongKept 2 (some .int) 1 := ⟨by decide +kernel, wd_1779, wd_86⟩
theorem vk_X9_wrongKept : VOk yX9_wrongKept := ⟨wd_1778, wd_75⟩
theorem mk_X9_wrongRow : MOk yX9_wrongRow cX9_wrongRow 3 (some .int) 2 := ⟨by decide +kernel, wd_1664, wd_86⟩
theorem vk_X9_wrongRow : VOk yX9_wrongRow := ⟨wd_1663, wd_60⟩
end
section
/-! methods walked by hand (open as yet) -/
def rm_X2_isField : Room := { frames := 20, cells := 0, slots := 0, locals := 1000 }
def f_X2_isField (x : Int32) : Int32 := if 0 < x then (if x = 99 ∨ x = 111 ∨ x = 108 ∨ x = 116 ∨ x = 107 ∨ x = 100 ∨ x = 101 ∨ x = 115 ∨ x = 119 ∨ x = 104 then 1 else 0) else 0
theorem c_X2_isField (Z : Sys) {M : Mem} (hs : St M) (x0 : Int32) {q : Int32} (hf : f_X2_isField x0 = q) : Ct Z yX2_isField cX2_isField 1 (some .boolean) rm_X2_isField [.int x0] M False (PostZ q M) := sorry
end
section
abbrev Y_J6_bitCount_0f7a4 : My := (cJ6_bitCount_0f7a4, RJ6, 1)
def rm_J6_bitCount_0f7a4 : Room := { frames := 1, cells := 0, slots := 0, locals := 200 }
theorem dJ6_bitCount_0f7a4_0 : decode cJ6_bitCount_0f7a4 0 = .ok (.iload_n 0, 1) := by decide +kernel
theorem dJ6_bitCount_0f7a4_1 : decode cJ6_bitCount_0f7a4 1 = .ok (.iload_n 0, 1) := by decide +kernel
theorem dJ6_bitCount_0f7a4_2 : decode cJ6_bitCount_0f7a4 2 = .ok (.iconst 1, 1) := by decide +kernel
theorem dJ6_bitCount_0f7a4_3 : decode cJ6_bitCount_0f7a4 3 = .ok (.iushr, 1) := by decide +kernel
theorem dJ6_bitCount_0f7a4_4 : decode cJ6_bitCount_0f7a4 4 = .ok (.ldc_w 265, 3) := by decide +kernel
theorem dJ6_bitCount_0f7a4_7 : decode cJ6_bitCount_0f7a4 7 = .ok (.iand, 1) := by decide +kernel
theorem dJ6_bitCount_0f7a4_8 : decode cJ6_bitCount_0f7a4 8 = .ok (.isub, 1) := by decide +kernel
theorem dJ6_bitCount_0f7a4_9 : decode cJ6_bitCount_0f7a4 9 = .ok (.istore_n 0, 1) := by decide +kernel
theorem dJ6_bitCount_0f7a4_10 : decode cJ6_bitCount_0f7a4 10 = .ok (.iload_n 0, 1) := by decide +kernel
theorem dJ6_bitCount_0f7a4_11 : decode cJ6_bitCount_0f7a4 11 = .ok (.ldc_w 266, 3) := by decide +kernel
theorem dJ6_bitCount_0f7a4_14 : decode cJ6_bitCount_0f7a4 14 = .ok (.iand, 1) := by decide +kernel
theorem dJ6_bitCount_0f7a4_15 : decode cJ6_bitCount_0f7a4 15 = .ok (.iload_n 0, 1) := by decide +kernel
theorem dJ6_bitCount_0f7a4_16 : decode cJ6_bitCount_0f7a4 16 = .ok (.iconst 2, 1) := by decide +kernel
theorem dJ6_bitCount_0f7a4_17 : decode cJ6_bitCount_0f7a4 17 = .ok (.iushr, 1) := by decide +kernel
theorem dJ6_bitCount_0f7a4_18 : decode cJ6_bitCount_0f7a4 18 = .ok (.ldc_w 266, 3) := by decide +kernel
theorem dJ6_bitCount_0f7a4_21 : decode cJ6_bitCount_0f7a4 21 = .ok (.iand, 1) := by decide +kernel
theorem dJ6_bitCount_0f7a4_22 : decode cJ6_bitCount_0f7a4 22 = .ok (.iadd, 1) := by decide +kernel
theorem dJ6_bitCount_0f7a4_23 : decode cJ6_bitCount_0f7a4 23 = .ok (.istore_n 0, 1) := by decide +kernel
theorem dJ6_bitCount_0f7a4_24 : decode cJ6_bitCount_0f7a4 24 = .ok (.iload_n 0, 1) := by decide +kernel
theorem dJ6_bitCount_0f7a4_25 : decode cJ6_bitCount_0f7a4 25 = .ok (.iload_n 0, 1) := by decide +kernel
theorem dJ6_bitCount_0f7a4_26 : decode cJ6_bitCount_0f7a4 26 = .ok (.iconst 4, 1) := by decide +kernel
theorem dJ6_bitCount_0f7a4_27 : decode cJ6_bitCount_0f7a4 27 = .ok (.iushr, 1) := by decide +kernel
theorem dJ6_bitCount_0f7a4_28 : decode cJ6_bitCount_0f7a4 28 = .ok (.iadd, 1) := by decide +kernel
theorem dJ6_bitCount_0f7a4_29 : decode cJ6_bitCount_0f7a4 29 = .ok (.ldc_w 267, 3) := by decide +kernel
theorem dJ6_bitCount_0f7a4_32 : decode cJ6_bitCount_0f7a4 32 = .ok (.iand, 1) := by decide +kernel
theorem dJ6_bitCount_0f7a4_33 : decode cJ6_bitCount_0f7a4 33 = .ok (.istore_n 0, 1) := by decide +kernel
theorem dJ6_bitCount_0f7a4_34 : decode cJ6_bitCount_0f7a4 34 = .ok (.iload_n 0, 1) := by decide +kernel
theorem dJ6_bitCount_0f7a4_35 : decode cJ6_bitCount_0f7a4 35 = .ok (.iload_n 0, 1) := by decide +kernel
theorem dJ6_bitCount_0f7a4_36 : decode cJ6_bitCount_0f7a4 36 = .ok (.bipush 8, 2) := by decide +kernel
theorem dJ6_bitCount_0f7a4_38 : decode cJ6_bitCount_0f7a4 38 = .ok (.iushr, 1) := by decide +kernel
theorem dJ6_bitCount_0f7a4_39 : decode cJ6_bitCount_0f7a4 39 = .ok (.iadd, 1) := by decide +kernel
theorem dJ6_bitCount_0f7a4_40 : decode cJ6_bitCount_0f7a4 40 = .ok (.istore_n 0, 1) := by decide +kernel
theorem dJ6_bitCount_0f7a4_41 : decode cJ6_bitCount_0f7a4 41 = .ok (.iload_n 0, 1) := by decide +kernel
theorem dJ6_bitCount_0f7a4_42 : decode cJ6_bitCount_0f7a4 42 = .ok (.iload_n 0, 1) := by decide +kernel
theorem dJ6_bitCount_0f7a4_43 : decode cJ6_bitCount_0f7a4 43 = .ok (.bipush 16, 2) := by decide +kernel
theorem dJ6_bitCount_0f7a4_45 : decode cJ6_bitCount_0f7a4 45 = .ok (.iushr, 1) := by decide +kernel
theorem dJ6_bitCount_0f7a4_46 : decode cJ6_bitCount_0f7a4 46 = .ok (.iadd, 1) := by decide +kernel
theorem dJ6_bitCount_0f7a4_47 : decode cJ6_bitCount_0f7a4 47 = .ok (.istore_n 0, 1) := by decide +kernel
theorem dJ6_bitCount_0f7a4_48 : decode cJ6_bitCount_0f7a4 48 = .ok (.iload_n 0, 1) := by decide +kernel
theorem dJ6_bitCount_0f7a4_49 : decode cJ6_bitCount_0f7a4 49 = .ok (.bipush 63, 2) := by decide +kernel
theorem dJ6_bitCount_0f7a4_51 : decode cJ6_bitCount_0f7a4 51 = .ok (.iand, 1) := by decide +kernel
theorem dJ6_bitCount_0f7a4_52 : decode cJ6_bitCount_0f7a4 52 = .ok (.ireturn, 1) := by decide +kernel
def f_J6_bitCount_0f7a4 (x0 : Int32) : Int32 := ((((((((x0 - ((jushr x0 (1 : Int32)) &&& (1431655765 : Int32))) &&& (858993459 : Int32)) + ((jushr (x0 - ((jushr x0 (1 : Int32)) &&& (1431655765 : Int32))) (2 : Int32)) &&& (858993459 : Int32))) + (jushr (((x0 - ((jushr x0 (1 : Int32)) &&& (1431655765 : Int32))) &&& (858993459 : Int32)) + ((jushr (x0 - ((jushr x0 (1 : Int32)) &&& (1431655765 : Int32))) (2 : Int32)) &&& (858993459 : Int32))) (4 : Int32))) &&& (252645135 : Int32)) + (jushr (((((x0 - ((jushr x0 (1 : Int32)) &&& (1431655765 : Int32))) &&& (858993459 : Int32)) + ((jushr (x0 - ((jushr x0 (1 : Int32)) &&& (1431655765 : Int32))) (2 : Int32)) &&& (858993459 : Int32))) + (jushr (((x0 - ((jushr x0 (1 : Int32)) &&& (1431655765 : Int32))) &&& (858993459 : Int32)) + ((jushr (x0 - ((jushr x0 (1 : Int32)) &&& (1431655765 : Int32))) (2 : Int32)) &&& (858993459 : Int32))) (4 : Int32))) &&& (252645135 : Int32)) (8 : Int32))) + (jushr ((((((x0 - ((jushr x0 (1 : Int32)) &&& (1431655765 : Int32))) &&& (858993459 : Int32)) + ((jushr (x0 - ((jushr x0 (1 : Int32)) &&& (1431655765 : Int32))) (2 : Int32)) &&& (858993459 : Int32))) + (jushr (((x0 - ((jushr x0 (1 : Int32)) &&& (1431655765 : Int32))) &&& (858993459 : Int32)) + ((jushr (x0 - ((jushr x0 (1 : Int32)) &&& (1431655765 : Int32))) (2 : Int32)) &&& (858993459 : Int32))) (4 : Int32))) &&& (252645135 : Int32)) + (jushr (((((x0 - ((jushr x0 (1 : Int32)) &&& (1431655765 : Int32))) &&& (858993459 : Int32)) + ((jushr (x0 - ((jushr x0 (1 : Int32)) &&& (1431655765 : Int32))) (2 : Int32)) &&& (858993459 : Int32))) + (jushr (((x0 - ((jushr x0 (1 : Int32)) &&& (1431655765 : Int32))) &&& (858993459 : Int32)) + ((jushr (x0 - ((jushr x0 (1 : Int32)) &&& (1431655765 : Int32))) (2 : Int32)) &&& (858993459 : Int32))) (4 : Int32))) &&& (252645135 : Int32)) (8 : Int32))) (16 : Int32))) &&& (63 : Int32))
set_option maxRecDepth 100000 in
set_option maxHeartbeats 4000000 in
theorem c_J6_bitCount_0f7a4 (Z : Sys) {M : Mem} (hs : St M) (x0 : Int32) {q : Int32} (hf : f_J6_bitCount_0f7a4 x0 = q) : Ct Z yJ6_bitCount_0f7a4 cJ6_bitCount_0f7a4 1 (some .int) rm_J6_bitCount_0f7a4 [.int x0] M False (PostI q M) := by
  refine Ct.of (by decide +kernel) (Nat.le_of_ble_eq_true rfl) (fun X hR hq _ => ?_)
  show G Z X Y_J6_bitCount_0f7a4 False 0 0 0 [(0, .int x0)] [] M
  replace hq : RetOk Z X (some .int) False (PostI q M) 0 0 := hq
  unfold f_J6_bitCount_0f7a4 at hf
  refine G.iload_n 0 0 dJ6_bitCount_0f7a4_0 rfl rfl ?_
  refine G.iload_n 1 0 dJ6_bitCount_0f7a4_1 rfl rfl ?_
  refine G.iconst 2 (1 : Int32) dJ6_bitCount_0f7a4_2 (by decide +kernel) ?_
  refine G.iushr 3 dJ6_bitCount_0f7a4_3 ?_
  refine G.ldcw 4 (1431655765 : Int32) wd_675 dJ6_bitCount_0f7a4_4 ?_
  refine G.iand 7 dJ6_bitCount_0f7a4_7 ?_
  refine G.isub 8 dJ6_bitCount_0f7a4_8 ?_
  refine G.istore_n 9 [(0, .int (x0 - ((jushr x0 (1 : Int32)) &&& (1431655765 : Int32))))] dJ6_bitCount_0f7a4_9 rfl (Nat.le_of_ble_eq_true rfl) rfl ?_
  refine G.iload_n 10 0 dJ6_bitCount_0f7a4_10 rfl rfl ?_
  refine G.ldcw 11 (858993459 : Int32) wd_676 dJ6_bitCount_0f7a4_11 ?_
  refine G.iand 14 dJ6_bitCount_0f7a4_14 ?_
  refine G.iload_n 15 0 dJ6_bitCount_0f7a4_15 rfl rfl ?_
  refine G.iconst 16 (2 : Int32) dJ6_bitCount_0f7a4_16 (by decide +kernel) ?_
  refine G.iushr 17 dJ6_bitCount_0f7a4_17 ?_
  refine G.ldcw 18 (858993459 : Int32) wd_676 dJ6_bitCount_0f7a4_18 ?_
  refine G.iand 21 dJ6_bitCount_0f7a4_21 ?_
  refine G.iadd 22 dJ6_bitCount_0f7a4_22 ?_
  refine G.istore_n 23 [(0, .int (((x0 - ((jushr x0 (1 : Int32)) &&& (1431655765 : Int32))) &&& (858993459 : Int32)) + ((jushr (x0 - ((jushr x0 (1 : Int32)) &&& (1431655765 : Int32))) (2 : Int32)) &&& (858993459 : Int32))))] dJ6_bitCount_0f7a4_23 rfl (Nat.le_of_ble_eq_true rfl) rfl ?_
  refine G.iload_n 24 0 dJ6_bitCount_0f7a4_24 rfl rfl ?_
  refine G.iload_n 25 0 dJ6_bitCount_0f7a4_25 rfl rfl ?_
  refine G.iconst 26 (4 : Int32) dJ6_bitCount_0f7a4_26 (by decide +kernel) ?_
  refine G.iushr 27 dJ6_bitCount_0f7a4_27 ?_
  refine G.iadd 28 dJ6_bitCount_0f7a4_28 ?_
  refine G.ldcw 29 (252645135 : Int32) wd_677 dJ6_bitCount_0f7a4_29 ?_
  refine G.iand 32 dJ6_bitCount_0f7a4_32 ?_
  refine G.istore_n 33 [(0, .int (((((x0 - ((jushr x0 (1 : Int32)) &&& (1431655765 : Int32))) &&& (858993459 : Int32)) + ((jushr (x0 - ((jushr x0 (1 : Int32)) &&& (1431655765 : Int32))) (2 : Int32)) &&& (858993459 : Int32))) + (jushr (((x0 - ((jushr x0 (1 : Int32)) &&& (1431655765 : Int32))) &&& (858993459 : Int32)) + ((jushr (x0 - ((jushr x0 (1 : Int32)) &&& (1431655765 : Int32))) (2 : Int32)) &&& (858993459 : Int32))) (4 : Int32))) &&& (252645135 : Int32)))] dJ6_bitCount_0f7a4_33 rfl (Nat.le_of_ble_eq_true rfl) rfl ?_
  refine G.iload_n 34 0 dJ6_bitCount_0f7a4_34 rfl rfl ?_
  refine G.iload_n 35 0 dJ6_bitCount_0f7a4_35 rfl rfl ?_
  refine G.bipush 36 (8 : Int32) dJ6_bitCount_0f7a4_36 (by decide +kernel) ?_
  refine G.iushr 38 dJ6_bitCount_0f7a4_38 ?_
  refine G.iadd 39 dJ6_bitCount_0f7a4_39 ?_
  refine G.istore_n 40 [(0, .int ((((((x0 - ((jushr x0 (1 : Int32)) &&& (1431655765 : Int32))) &&& (858993459 : Int32)) + ((jushr (x0 - ((jushr x0 (1 : Int32)) &&& (1431655765 : Int32))) (2 : Int32)) &&& (858993459 : Int32))) + (jushr (((x0 - ((jushr x0 (1 : Int32)) &&& (1431655765 : Int32))) &&& (858993459 : Int32)) + ((jushr (x0 - ((jushr x0 (1 : Int32)) &&& (1431655765 : Int32))) (2 : Int32)) &&& (858993459 : Int32))) (4 : Int32))) &&& (252645135 : Int32)) + (jushr (((((x0 - ((jushr x0 (1 : Int32)) &&& (1431655765 : Int32))) &&& (858993459 : Int32)) + ((jushr (x0 - ((jushr x0 (1 : Int32)) &&& (1431655765 : Int32))) (2 : Int32)) &&& (858993459 : Int32))) + (jushr (((x0 - ((jushr x0 (1 : Int32)) &&& (1431655765 : Int32))) &&& (858993459 : Int32)) + ((jushr (x0 - ((jushr x0 (1 : Int32)) &&& (1431655765 : Int32))) (2 : Int32)) &&& (858993459 : Int32))) (4 : Int32))) &&& (252645135 : Int32)) (8 : Int32))))] dJ6_bitCount_0f7a4_40 rfl (Nat.le_of_ble_eq_true rfl) rfl ?_
  refine G.iload_n 41 0 dJ6_bitCount_0f7a4_41 rfl rfl ?_
  refine G.iload_n 42 0 dJ6_bitCount_0f7a4_42 rfl rfl ?_
  refine G.bipush 43 (16 : Int32) dJ6_bitCount_0f7a4_43 (by decide +kernel) ?_
  refine G.iushr 45 dJ6_bitCount_0f7a4_45 ?_
  refine G.iadd 46 dJ6_bitCount_0f7a4_46 ?_
  refine G.istore_n 47 [(0, .int (((((((x0 - ((jushr x0 (1 : Int32)) &&& (1431655765 : Int32))) &&& (858993459 : Int32)) + ((jushr (x0 - ((jushr x0 (1 : Int32)) &&& (1431655765 : Int32))) (2 : Int32)) &&& (858993459 : Int32))) + (jushr (((x0 - ((jushr x0 (1 : Int32)) &&& (1431655765 : Int32))) &&& (858993459 : Int32)) + ((jushr (x0 - ((jushr x0 (1 : Int32)) &&& (1431655765 : Int32))) (2 : Int32)) &&& (858993459 : Int32))) (4 : Int32))) &&& (252645135 : Int32)) + (jushr (((((x0 - ((jushr x0 (1 : Int32)) &&& (1431655765 : Int32))) &&& (858993459 : Int32)) + ((jushr (x0 - ((jushr x0 (1 : Int32)) &&& (1431655765 : Int32))) (2 : Int32)) &&& (858993459 : Int32))) + (jushr (((x0 - ((jushr x0 (1 : Int32)) &&& (1431655765 : Int32))) &&& (858993459 : Int32)) + ((jushr (x0 - ((jushr x0 (1 : Int32)) &&& (1431655765 : Int32))) (2 : Int32)) &&& (858993459 : Int32))) (4 : Int32))) &&& (252645135 : Int32)) (8 : Int32))) + (jushr ((((((x0 - ((jushr x0 (1 : Int32)) &&& (1431655765 : Int32))) &&& (858993459 : Int32)) + ((jushr (x0 - ((jushr x0 (1 : Int32)) &&& (1431655765 : Int32))) (2 : Int32)) &&& (858993459 : Int32))) + (jushr (((x0 - ((jushr x0 (1 : Int32)) &&& (1431655765 : Int32))) &&& (858993459 : Int32)) + ((jushr (x0 - ((jushr x0 (1 : Int32)) &&& (1431655765 : Int32))) (2 : Int32)) &&& (858993459 : Int32))) (4 : Int32))) &&& (252645135 : Int32)) + (jushr (((((x0 - ((jushr x0 (1 : Int32)) &&& (1431655765 : Int32))) &&& (858993459 : Int32)) + ((jushr (x0 - ((jushr x0 (1 : Int32)) &&& (1431655765 : Int32))) (2 : Int32)) &&& (858993459 : Int32))) + (jushr (((x0 - ((jushr x0 (1 : Int32)) &&& (1431655765 : Int32))) &&& (858993459 : Int32)) + ((jushr (x0 - ((jushr x0 (1 : Int32)) &&& (1431655765 : Int32))) (2 : Int32)) &&& (858993459 : Int32))) (4 : Int32))) &&& (252645135 : Int32)) (8 : Int32))) (16 : Int32))))] dJ6_bitCount_0f7a4_47 rfl (Nat.le_of_ble_eq_true rfl) rfl ?_
  refine G.iload_n 48 0 dJ6_bitCount_0f7a4_48 rfl rfl ?_
  refine G.bipush 49 (63 : Int32) dJ6_bitCount_0f7a4_49 (by decide +kernel) ?_
  refine G.iand 51 dJ6_bitCount_0f7a4_51 ?_
  subst hf
  exact G.rI 52 hq dJ6_bitCount_0f7a4_52 hs
abbrev Y_J7_fill_53178 : My := (cJ7_fill_53178, RJ7, 4)
def rm_J7_fill_53178 : Room := { frames := 1, cells := 0, slots := 0, locals := 200 }
theorem dJ7_fill_53178_0 : decode cJ7_fill_53178 0 = .ok (.iconst 0, 1) := by decide +kernel
theorem dJ7_fill_53178_1 : decode cJ7_fill_53178 1 = .ok (.istore_n 2, 1) := by decide +kernel
theorem dJ7_fill_53178_2 : decode cJ7_fill_53178 2 = .ok (.aload_n 0, 1) := by decide +kernel
theorem dJ7_fill_53178_3 : decode cJ7_fill_53178 3 = .ok (.arraylength, 1) := by decide +kernel
theorem dJ7_fill_53178_4 : decode cJ7_fill_53178 4 = .ok (.istore_n 3, 1) := by decide +kernel
theorem dJ7_fill_53178_5 : decode cJ7_fill_53178 5 = .ok (.iload_n 2, 1) := by decide +kernel
theorem dJ7_fill_53178_6 : decode cJ7_fill_53178 6 = .ok (.iload_n 3, 1) := by decide +kernel
theorem dJ7_fill_53178_7 : decode cJ7_fill_53178 7 = .ok (.if_icmp .ge 13, 3) := by decide +kernel
theorem dJ7_fill_53178_10 : decode cJ7_fill_53178 10 = .ok (.aload_n 0, 1) := by decide +kernel
theorem dJ7_fill_53178_11 : decode cJ7_fill_53178 11 = .ok (.iload_n 2, 1) := by decide +kernel
theorem dJ7_fill_53178_12 : decode cJ7_fill_53178 12 = .ok (.iload_n 1, 1) := by decide +kernel
theorem dJ7_fill_53178_13 : decode cJ7_fill_53178 13 = .ok (.iastore, 1) := by decide +kernel
theorem dJ7_fill_53178_14 : decode cJ7_fill_53178 14 = .ok (.iinc 2 1, 3) := by decide +kernel
theorem dJ7_fill_53178_17 : decode cJ7_fill_53178 17 = .ok (.goto (-12), 3) := by decide +kernel
theorem dJ7_fill_53178_20 : decode cJ7_fill_53178 20 = .ok (.return_, 1) := by decide +kernel
def L_J7_fill_53178_5 : Nat → Nat → Int32 → Int32 → Int32 → Mem → Option Mem
  | 0, _, _, _, _, _ => none
  | n + 1, a0, x1, x2, x3, M => if x3 ≤ x2 then some M else gd (inR x2 (ln a0)) (L_J7_fill_53178_5 n a0 x1 (x2 + 1) x3 (sI M a0 x2.toNatClampNeg x1))
def f_J7_fill_53178 (a0 : Nat) (x1 : Int32) (M : Mem) : Option Mem := L_J7_fill_53178_5 FU a0 x1 (0 : Int32) (Int32.ofNat (ln a0)) M
set_option maxRecDepth 100000 in
set_option maxHeartbeats 4000000 in
theorem l_J7_fill_53178_5 (Z : Sys) (X : Cx) (hR : xR X = rm_J7_fill_53178) {q : Mem} (hq : RetOk Z X none False (PostV q) 0 0) : ∀ (n : Nat) (a0 : Nat) (x1 : Int32) (x2 : Int32) (x3 : Int32) (M : Mem) (hs : St M) (k_a0 : K0[a0]? = some (10, (ln a0))) (hf : L_J7_fill_53178_5 n a0 x1 x2 x3 M = some q), G Z X Y_J7_fill_53178 False 0 0 5 [(0, .ref (zs Z + a0)), (1, .int x1), (2, .int x2), (3, .int x3)] [] M := by
  intro n
  induction n with
  | zero => intro a0 x1 x2 x3 M hs k_a0 hf; cases hf
  | succ n ih =>
    intro a0 x1 x2 x3 M hs k_a0 hf
    unfold L_J7_fill_53178_5 at hf
    refine G.iload_n 5 2 dJ7_fill_53178_5 rfl rfl ?_
    refine G.iload_n 6 3 dJ7_fill_53178_6 rfl rfl ?_
    refine G.icmp_ge 7 20 dJ7_fill_53178_7 (by decide) (fun h1 => ?_) (fun h1 => ?_)
    · replace hf := (if_pos h1).symm.trans hf
      cases hf
      exact G.rV 20 hq dJ7_fill_53178_20 hs
    · replace hf := (if_neg h1).symm.trans hf
      refine G.aload_n 10 0 dJ7_fill_53178_10 rfl rfl ?_
      refine G.iload_n 11 2 dJ7_fill_53178_11 rfl rfl ?_
      refine G.iload_n 12 1 dJ7_fill_53178_12 rfl rfl ?_
      obtain ⟨g2, hf⟩ := gd_e hf
      refine G.ist 13 x2.toNatClampNeg (hs.k k_a0) g2 rfl dJ7_fill_53178_13 ?_
      refine G.iinc 14 2 (x2 + 1) [(2, .int (x2 + 1)), (0, .ref (zs Z + a0)), (1, .int x1), (3, .int x3)] dJ7_fill_53178_14 rfl (congrArg (fun z => x2 + z) (by decide +kernel)) (Nat.le_of_ble_eq_true rfl) rfl ?_
      refine G.goto 17 5 dJ7_fill_53178_17 (by decide) ?_
      refine G.locs [1, 2, 0, 3] rfl ?_
      exact ih a0 x1 (x2 + 1) x3 (sI M a0 x2.toNatClampNeg x1) (St.i hs) (ln_k k_a0) hf
set_option maxRecDepth 100000 in
set_option maxHeartbeats 4000000 in
theorem c_J7_fill_53178 (Z : Sys) {M : Mem} (hs : St M) (a0 : Nat) (x1 : Int32) (k_a0 : K0[a0]? = some (10, (ln a0))) {q : Mem} (hf : f_J7_fill_53178 a0 x1 M = some q) : Ct Z yJ7_fill_53178 cJ7_fill_53178 4 none rm_J7_fill_53178 [.ref (zs Z + a0), .int x1] M False (PostV q) := by
  refine Ct.of (by decide +kernel) (Nat.le_of_ble_eq_true rfl) (fun X hR hq _ => ?_)
  show G Z X Y_J7_fill_53178 False 0 0 0 [(0, .ref (zs Z + a0)), (1, .int x1)] [] M
  replace hq : RetOk Z X none False (PostV q) 0 0 := hq
  unfold f_J7_fill_53178 at hf
  refine G.iconst 0 (0 : Int32) dJ7_fill_53178_0 (by decide +kernel) ?_
  refine G.istore_n 1 [(2, .int (0 : Int32)), (0, .ref (zs Z + a0)), (1, .int x1)] dJ7_fill_53178_1 rfl (Nat.le_of_ble_eq_true rfl) rfl ?_
  refine G.aload_n 2 1 dJ7_fill_53178_2 rfl rfl ?_
  refine G.alen 3 (Int32.ofNat (ln a0)) (hs.k k_a0) (by decide) rfl dJ7_fill_53178_3 ?_
  refine G.istore_n 4 [(3, .int (Int32.ofNat (ln a0))), (2, .int (0 : Int32)), (0, .ref (zs Z + a0)), (1, .int x1)] dJ7_fill_53178_4 rfl (Nat.le_of_ble_eq_true rfl) rfl ?_
  refine G.locs [2, 3, 1, 0] rfl ?_
  exact l_J7_fill_53178_5 Z X hR hq FU a0 x1 (0 : Int32) (Int32.ofNat (ln a0)) M hs (ln_k k_a0) hf
abbrev Y_X1_begin : My := (cX1_begin, RX1, 4)
def rm_X1_begin : Room := { frames := 1, cells := 0, slots := 0, locals := 200 }
theorem dX1_begin_0 : decode cX1_begin 0 = .ok (.aload_n 0, 1) := by decide +kernel
theorem dX1_begin_1 : decode cX1_begin 1 = .ok (.iload_n 1, 1) := by decide +kernel
theorem dX1_begin_2 : decode cX1_begin 2 = .ok (.putfield 18, 3) := by decide +kernel
theorem dX1_begin_5 : decode cX1_begin 5 = .ok (.aload_n 0, 1) := by decide +kernel
theorem dX1_begin_6 : decode cX1_begin 6 = .ok (.iload_n 2, 1) := by decide +kernel
theorem dX1_begin_7 : decode cX1_begin 7 = .ok (.sipush 1000, 3) := by decide +kernel
theorem dX1_begin_10 : decode cX1_begin 10 = .ok (.idiv, 1) := by decide +kernel
theorem dX1_begin_11 : decode cX1_begin 11 = .ok (.putfield 22, 3) := by decide +kernel
theorem dX1_begin_14 : decode cX1_begin 14 = .ok (.aload_n 0, 1) := by decide +kernel
theorem dX1_begin_15 : decode cX1_begin 15 = .ok (.iload_n 2, 1) := by decide +kernel
theorem dX1_begin_16 : decode cX1_begin 16 = .ok (.bipush 100, 2) := by decide +kernel
theorem dX1_begin_18 : decode cX1_begin 18 = .ok (.idiv, 1) := by decide +kernel
theorem dX1_begin_19 : decode cX1_begin 19 = .ok (.bipush 10, 2) := by decide +kernel
theorem dX1_begin_21 : decode cX1_begin 21 = .ok (.irem, 1) := by decide +kernel
theorem dX1_begin_22 : decode cX1_begin 22 = .ok (.putfield 25, 3) := by decide +kernel
theorem dX1_begin_25 : decode cX1_begin 25 = .ok (.aload_n 0, 1) := by decide +kernel
theorem dX1_begin_26 : decode cX1_begin 26 = .ok (.iload_n 2, 1) := by decide +kernel
theorem dX1_begin_27 : decode cX1_begin 27 = .ok (.bipush 10, 2) := by decide +kernel
theorem dX1_begin_29 : decode cX1_begin 29 = .ok (.idiv, 1) := by decide +kernel
theorem dX1_begin_30 : decode cX1_begin 30 = .ok (.bipush 10, 2) := by decide +kernel
theorem dX1_begin_32 : decode cX1_begin 32 = .ok (.irem, 1) := by decide +kernel
theorem dX1_begin_33 : decode cX1_begin 33 = .ok (.putfield 28, 3) := by decide +kernel
theorem dX1_begin_36 : decode cX1_begin 36 = .ok (.aload_n 0, 1) := by decide +kernel
theorem dX1_begin_37 : decode cX1_begin 37 = .ok (.iload_n 3, 1) := by decide +kernel
theorem dX1_begin_38 : decode cX1_begin 38 = .ok (.putfield 31, 3) := by decide +kernel
theorem dX1_begin_41 : decode cX1_begin 41 = .ok (.aload_n 0, 1) := by decide +kernel
theorem dX1_begin_42 : decode cX1_begin 42 = .ok (.iconst 0, 1) := by decide +kernel
theorem dX1_begin_43 : decode cX1_begin 43 = .ok (.putfield 34, 3) := by decide +kernel
theorem dX1_begin_46 : decode cX1_begin 46 = .ok (.aload_n 0, 1) := by decide +kernel
theorem dX1_begin_47 : decode cX1_begin 47 = .ok (.iconst 0, 1) := by decide +kernel
theorem dX1_begin_48 : decode cX1_begin 48 = .ok (.putfield 37, 3) := by decide +kernel
theorem dX1_begin_51 : decode cX1_begin 51 = .ok (.aload_n 0, 1) := by decide +kernel
theorem dX1_begin_52 : decode cX1_begin 52 = .ok (.getfield 12, 3) := by decide +kernel
theorem dX1_begin_55 : decode cX1_begin 55 = .ok (.iconst 0, 1) := by decide +kernel
theorem dX1_begin_56 : decode cX1_begin 56 = .ok (.putfield 40, 3) := by decide +kernel
theorem dX1_begin_59 : decode cX1_begin 59 = .ok (.aload_n 0, 1) := by decide +kernel
theorem dX1_begin_60 : decode cX1_begin 60 = .ok (.getfield 12, 3) := by decide +kernel
theorem dX1_begin_63 : decode cX1_begin 63 = .ok (.iconst 0, 1) := by decide +kernel
theorem dX1_begin_64 : decode cX1_begin 64 = .ok (.putfield 43, 3) := by decide +kernel
theorem dX1_begin_67 : decode cX1_begin 67 = .ok (.aload_n 0, 1) := by decide +kernel
theorem dX1_begin_68 : decode cX1_begin 68 = .ok (.iconst 0, 1) := by decide +kernel
theorem dX1_begin_69 : decode cX1_begin 69 = .ok (.putfield 46, 3) := by decide +kernel
theorem dX1_begin_72 : decode cX1_begin 72 = .ok (.aload_n 0, 1) := by decide +kernel
theorem dX1_begin_73 : decode cX1_begin 73 = .ok (.iconst 1, 1) := by decide +kernel
theorem dX1_begin_74 : decode cX1_begin 74 = .ok (.putfield 50, 3) := by decide +kernel
theorem dX1_begin_77 : decode cX1_begin 77 = .ok (.return_, 1) := by decide +kernel
def f_X1_begin (a0 : Nat) (x1 : Int32) (x2 : Int32) (x3 : Int32) (M : Mem) : Option Mem := some (sI (sI (sI (sI (sI (sI (sI (sI (sI (sI (sI M a0 1 x1) a0 2 (x2 / (1000 : Int32))) a0 3 (jrem (x2 / (100 : Int32)) (10 : Int32))) a0 4 (jrem (x2 / (10 : Int32)) (10 : Int32))) a0 5 x3) a0 6 (0 : Int32)) a0 7 (0 : Int32)) (a0 + 1) 0 (0 : Int32)) (a0 + 1) 1 (0 : Int32)) a0 8 (0 : Int32)) a0 9 (1 : Int32))
set_option maxRecDepth 100000 in
set_option maxHeartbeats 4000000 in
theorem c_X1_begin (Z : Sys) {M : Mem} (hs : St M) (a0 : Nat) (x1 : Int32) (x2 : Int32) (x3 : Int32) (k_a0 : K0[a0]? = some (1, 12)) {q : Mem} (hf : f_X1_begin a0 x1 x2 x3 M = some q) : Ct Z yX1_begin cX1_begin 4 none rm_X1_begin [.ref (zs Z + a0), .int x1, .int x2, .int x3] M False (PostV q) := by
  refine Ct.of (by decide +kernel) (Nat.le_of_ble_eq_true rfl) (fun X hR hq _ => ?_)
  show G Z X Y_X1_begin False 0 0 0 [(0, .ref (zs Z + a0)), (1, .int x1), (2, .int x2), (3, .int x3)] [] M
  replace hq : RetOk Z X none False (PostV q) 0 0 := hq
  unfold f_X1_begin at hf
  refine G.aload_n 0 0 dX1_begin_0 rfl rfl ?_
  refine G.iload_n 1 1 dX1_begin_1 rfl rfl ?_
  refine G.puti 2 ck_1 1 (hs.k k_a0) (by decide) (by decide +kernel) rfl wd_189 rfl rfl dX1_begin_2 ?_
  refine G.aload_n 5 0 dX1_begin_5 rfl rfl ?_
  refine G.iload_n 6 2 dX1_begin_6 rfl rfl ?_
  refine G.sipush 7 (1000 : Int32) dX1_begin_7 (by decide +kernel) ?_
  refine G.idiv 10 dX1_begin_10 (by decide +kernel) ?_
  refine G.puti 11 ck_1 2 ((St.i hs).k k_a0) (by decide) (by decide +kernel) rfl wd_193 rfl rfl dX1_begin_11 ?_
  refine G.aload_n 14 0 dX1_begin_14 rfl rfl ?_
  refine G.iload_n 15 2 dX1_begin_15 rfl rfl ?_
  refine G.bipush 16 (100 : Int32) dX1_begin_16 (by decide +kernel) ?_
  refine G.idiv 18 dX1_begin_18 (by decide +kernel) ?_
  refine G.bipush 19 (10 : Int32) dX1_begin_19 (by decide +kernel) ?_
  refine G.iremJ 21 dX1_begin_21 (by decide +kernel) ?_
  refine G.puti 22 ck_1 3 ((St.i (St.i hs)).k k_a0) (by decide) (by decide +kernel) rfl wd_197 rfl rfl dX1_begin_22 ?_
  refine G.aload_n 25 0 dX1_begin_25 rfl rfl ?_
  refine G.iload_n 26 2 dX1_begin_26 rfl rfl ?_
  refine G.bipush 27 (10 : Int32) dX1_begin_27 (by decide +kernel) ?_
  refine G.idiv 29 dX1_begin_29 (by decide +kernel) ?_
  refine G.bipush 30 (10 : Int32) dX1_begin_30 (by decide +kernel) ?_
  refine G.iremJ 32 dX1_begin_32 (by decide +kernel) ?_
  refine G.puti 33 ck_1 4 ((St.i (St.i (St.i hs))).k k_a0) (by decide) (by decide +kernel) rfl wd_200 rfl rfl dX1_begin_33 ?_
  refine G.aload_n 36 0 dX1_begin_36 rfl rfl ?_
  refine G.iload_n 37 3 dX1_begin_37 rfl rfl ?_
  refine G.puti 38 ck_1 5 ((St.i (St.i (St.i (St.i hs)))).k k_a0) (by decide) (by decide +kernel) rfl wd_203 rfl rfl dX1_begin_38 ?_
  refine G.aload_n 41 0 dX1_begin_41 rfl rfl ?_
  refine G.iconst 42 (0 : Int32) dX1_begin_42 (by decide +kernel) ?_
  refine G.puti 43 ck_1 6 ((St.i (St.i (St.i (St.i (St.i hs))))).k k_a0) (by decide) (by decide +kernel) rfl wd_207 rfl rfl dX1_begin_43 ?_
  refine G.aload_n 46 0 dX1_begin_46 rfl rfl ?_
  refine G.iconst 47 (0 : Int32) dX1_begin_47 (by decide +kernel) ?_
  refine G.puti 48 ck_1 7 ((St.i (St.i (St.i (St.i (St.i (St.i hs)))))).k k_a0) (by decide) (by decide +kernel) rfl wd_210 rfl rfl dX1_begin_48 ?_
  refine G.aload_n 51 0 dX1_begin_51 rfl rfl ?_
  refine G.getp 52 ck_1 0 (a0 + 1) ((St.i (St.i (St.i (St.i (St.i (St.i (St.i hs))))))).k k_a0) (pt_1_0 (St.i (St.i (St.i (St.i (St.i (St.i (St.i hs))))))) k_a0).1 (by decide) (by decide +kernel) wd_186 dX1_begin_52 ?_
  refine G.iconst 55 (0 : Int32) dX1_begin_55 (by decide +kernel) ?_
  refine G.puti 56 ck_5 0 ((St.i (St.i (St.i (St.i (St.i (St.i (St.i hs))))))).k (pt_1_0 hs k_a0).2) (by decide) (by decide +kernel) rfl wd_175 rfl rfl dX1_begin_56 ?_
  refine G.aload_n 59 0 dX1_begin_59 rfl rfl ?_
  refine G.getp 60 ck_1 0 (a0 + 1) ((St.i (St.i (St.i (St.i (St.i (St.i (St.i (St.i hs)))))))).k k_a0) (pt_1_0 (St.i (St.i (St.i (St.i (St.i (St.i (St.i (St.i hs)))))))) k_a0).1 (by decide) (by decide +kernel) wd_186 dX1_begin_60 ?_
  refine G.iconst 63 (0 : Int32) dX1_begin_63 (by decide +kernel) ?_
  refine G.puti 64 ck_5 1 ((St.i (St.i (St.i (St.i (St.i (St.i (St.i (St.i hs)))))))).k (pt_1_0 hs k_a0).2) (by decide) (by decide +kernel) rfl wd_178 rfl rfl dX1_begin_64 ?_
  refine G.aload_n 67 0 dX1_begin_67 rfl rfl ?_
  refine G.iconst 68 (0 : Int32) dX1_begin_68 (by decide +kernel) ?_
  refine G.puti 69 ck_1 8 ((St.i (St.i (St.i (St.i (St.i (St.i (St.i (St.i (St.i hs))))))))).k k_a0) (by decide) (by decide +kernel) rfl wd_213 rfl rfl dX1_begin_69 ?_
  refine G.aload_n 72 0 dX1_begin_72 rfl rfl ?_
  refine G.iconst 73 (1 : Int32) dX1_begin_73 (by decide +kernel) ?_
  refine G.puti 74 ck_1 9 ((St.i (St.i (St.i (St.i (St.i (St.i (St.i (St.i (St.i (St.i hs)))))))))).k k_a0) (by decide) (by decide +kernel) rfl wd_220 rfl rfl dX1_begin_74 ?_
  cases hf
  exact G.rV 77 hq dX1_begin_77 (St.i (St.i (St.i (St.i (St.i (St.i (St.i (St.i (St.i (St.i (St.i hs)))))))))))
abbrev Y_X0_addHall : My := (cX0_addHall, RX0, 4)
def rm_X0_addHall : Room := { frames := 2, cells := 0, slots := 0, locals := 223 }
theorem dX0_addHall_0 : decode cX0_addHall 0 = .ok (.aload_n 0, 1) := by decide +kernel
theorem dX0_addHall_1 : decode cX0_addHall 1 = .ok (.getfield 53, 3) := by decide +kernel
theorem dX0_addHall_4 : decode cX0_addHall 4 = .ok (.bipush 30, 2) := by decide +kernel
theorem dX0_addHall_6 : decode cX0_addHall 6 = .ok (.if_icmp .lt 6, 3) := by decide +kernel
theorem dX0_addHall_9 : decode cX0_addHall 9 = .ok (.bipush (-2), 2) := by decide +kernel
theorem dX0_addHall_11 : decode cX0_addHall 11 = .ok (.ireturn, 1) := by decide +kernel
theorem dX0_addHall_12 : decode cX0_addHall 12 = .ok (.aload_n 0, 1) := by decide +kernel
theorem dX0_addHall_13 : decode cX0_addHall 13 = .ok (.getfield 13, 3) := by decide +kernel
theorem dX0_addHall_16 : decode cX0_addHall 16 = .ok (.aload_n 0, 1) := by decide +kernel
theorem dX0_addHall_17 : decode cX0_addHall 17 = .ok (.getfield 53, 3) := by decide +kernel
theorem dX0_addHall_20 : decode cX0_addHall 20 = .ok (.aaload, 1) := by decide +kernel
theorem dX0_addHall_21 : decode cX0_addHall 21 = .ok (.iload_n 1, 1) := by decide +kernel
theorem dX0_addHall_22 : decode cX0_addHall 22 = .ok (.iload_n 2, 1) := by decide +kernel
theorem dX0_addHall_23 : decode cX0_addHall 23 = .ok (.iload_n 3, 1) := by decide +kernel
theorem dX0_addHall_24 : decode cX0_addHall 24 = .ok (.invokevirtual 74, 3) := by decide +kernel
theorem dX0_addHall_27 : decode cX0_addHall 27 = .ok (.aload_n 0, 1) := by decide +kernel
theorem dX0_addHall_28 : decode cX0_addHall 28 = .ok (.dup, 1) := by decide +kernel
theorem dX0_addHall_29 : decode cX0_addHall 29 = .ok (.getfield 53, 3) := by decide +kernel
theorem dX0_addHall_32 : decode cX0_addHall 32 = .ok (.iconst 1, 1) := by decide +kernel
theorem dX0_addHall_33 : decode cX0_addHall 33 = .ok (.iadd, 1) := by decide +kernel
theorem dX0_addHall_34 : decode cX0_addHall 34 = .ok (.putfield 53, 3) := by decide +kernel
theorem dX0_addHall_37 : decode cX0_addHall 37 = .ok (.aload_n 0, 1) := by decide +kernel
theorem dX0_addHall_38 : decode cX0_addHall 38 = .ok (.getfield 53, 3) := by decide +kernel
theorem dX0_addHall_41 : decode cX0_addHall 41 = .ok (.iconst 1, 1) := by decide +kernel
theorem dX0_addHall_42 : decode cX0_addHall 42 = .ok (.isub, 1) := by decide +kernel
theorem dX0_addHall_43 : decode cX0_addHall 43 = .ok (.ireturn, 1) := by decide +kernel
def f_X0_addHall (a0 : Nat) (x1 : Int32) (x2 : Int32) (x3 : Int32) (M : Mem) : Option (Int32 × Mem) := if (mI M a0 1) < (30 : Int32) then gd (inR (mI M a0 1) 30) ((f_X1_begin ((a0 + 1) + 23 + 2 * (mI M a0 1).toNatClampNeg) x1 x2 x3 M).bind fun q5 => some (((mI (sI q5 a0 1 ((mI q5 a0 1) + (1 : Int32))) a0 1) - (1 : Int32)), (sI q5 a0 1 ((mI q5 a0 1) + (1 : Int32))))) else some ((-2 : Int32), M)
set_option maxRecDepth 100000 in
set_option maxHeartbeats 4000000 in
theorem c_X0_addHall (Z : Sys) {M : Mem} (hs : St M) (a0 : Nat) (x1 : Int32) (x2 : Int32) (x3 : Int32) (k_a0 : K0[a0]? = some (0, 12)) {q : Int32 × Mem} (hf : f_X0_addHall a0 x1 x2 x3 M = some q) : Ct Z yX0_addHall cX0_addHall 4 (some .int) rm_X0_addHall [.ref (zs Z + a0), .int x1, .int x2, .int x3] M False (PostI q.1 q.2) := by
  refine Ct.of (by decide +kernel) (Nat.le_of_ble_eq_true rfl) (fun X hR hq _ => ?_)
  show G Z X Y_X0_addHall False 0 0 0 [(0, .ref (zs Z + a0)), (1, .int x1), (2, .int x2), (3, .int x3)] [] M
  replace hq : RetOk Z X (some .int) False (PostI q.1 q.2) 0 0 := hq
  unfold f_X0_addHall at hf
  refine G.aload_n 0 0 dX0_addHall_0 rfl rfl ?_
  refine G.geti 1 ck_0 1 (hs.k k_a0) (by decide) (by decide +kernel) wd_261 dX0_addHall_1 ?_
  refine G.bipush 4 (30 : Int32) dX0_addHall_4 (by decide +kernel) ?_
  refine G.icmp_lt 6 12 dX0_addHall_6 (by decide) (fun h1 => ?_) (fun h1 => ?_)
  · replace hf := (if_pos h1).symm.trans hf
    refine G.aload_n 12 0 dX0_addHall_12 rfl rfl ?_
    refine G.getp 13 ck_0 0 (a0 + 1) (hs.k k_a0) (pt_0_0 hs k_a0).1 (by decide) (by decide +kernel) wd_257 dX0_addHall_13 ?_
    refine G.aload_n 16 0 dX0_addHall_16 rfl rfl ?_
    refine G.geti 17 ck_0 1 (hs.k k_a0) (by decide) (by decide +kernel) wd_261 dX0_addHall_17 ?_
    obtain ⟨g2, hf⟩ := gd_e hf
    refine G.aa 20 (mI M a0 1).toNatClampNeg ((a0 + 1) + 23 + 2 * (mI M a0 1).toNatClampNeg) (hs.k (pt_0_0 hs k_a0).2) (by decide) rfl rfl g2 rfl (pa_13 hs (pt_0_0 hs k_a0).2 (inlt g2)).1 dX0_addHall_20 ?_
    refine G.iload_n 21 1 dX0_addHall_21 rfl rfl ?_
    refine G.iload_n 22 2 dX0_addHall_22 rfl rfl ?_
    refine G.iload_n 23 3 dX0_addHall_23 rfl rfl ?_
    obtain ⟨q5, e6, hf⟩ := bd_e hf
    refine G.cvV 24 (As := [.int x1, .int x2, .int x3]) ck_1 (hs.k (pa_13 hs (pt_0_0 hs k_a0).2 (inlt g2)).2) (c_X1_begin Z hs ((a0 + 1) + 23 + 2 * (mI M a0 1).toNatClampNeg) x1 x2 x3 (pa_13 hs (pt_0_0 hs k_a0).2 (inlt g2)).2 e6) mk_X1_begin vk_X1_begin rfl wd_436 hR (by decide +kernel) ⟨rfl, rfl⟩ rfl (Nat.le_of_ble_eq_true rfl) dX0_addHall_24 (fun hs3 => ?_)
    refine G.aload_n 27 0 dX0_addHall_27 rfl rfl ?_
    refine G.dup 28 dX0_addHall_28 rfl ?_
    refine G.geti 29 ck_0 1 (hs3.k k_a0) (by decide) (by decide +kernel) wd_261 dX0_addHall_29 ?_
    refine G.iconst 32 (1 : Int32) dX0_addHall_32 (by decide +kernel) ?_
    refine G.iadd 33 dX0_addHall_33 ?_
    refine G.puti 34 ck_0 1 (hs3.k k_a0) (by decide) (by decide +kernel) rfl wd_261 rfl rfl dX0_addHall_34 ?_
    refine G.aload_n 37 0 dX0_addHall_37 rfl rfl ?_
    refine G.geti 38 ck_0 1 ((St.i hs3).k k_a0) (by decide) (by decide +kernel) wd_261 dX0_addHall_38 ?_
    refine G.iconst 41 (1 : Int32) dX0_addHall_41 (by decide +kernel) ?_
    refine G.isub 42 dX0_addHall_42 ?_
    cases hf
    exact G.rI 43 hq dX0_addHall_43 (St.i hs3)
  · replace hf := (if_neg h1).symm.trans hf
    refine G.bipush 9 (-2 : Int32) dX0_addHall_9 (by decide +kernel) ?_
    cases hf
    exact G.rI 11 hq dX0_addHall_11 hs
abbrev Y_X0_addMark : My := (cX0_addMark, RX0, 3)
def rm_X0_addMark : Room := { frames := 1, cells := 0, slots := 0, locals := 200 }
theorem dX0_addMark_0 : decode cX0_addMark 0 = .ok (.aload_n 0, 1) := by decide +kernel
theorem dX0_addMark_1 : decode cX0_addMark 1 = .ok (.getfield 67, 3) := by decide +kernel
theorem dX0_addMark_4 : decode cX0_addMark 4 = .ok (.bipush 10, 2) := by decide +kernel
theorem dX0_addMark_6 : decode cX0_addMark 6 = .ok (.if_icmp .lt 6, 3) := by decide +kernel
theorem dX0_addMark_9 : decode cX0_addMark 9 = .ok (.bipush (-2), 2) := by decide +kernel
theorem dX0_addMark_11 : decode cX0_addMark 11 = .ok (.ireturn, 1) := by decide +kernel
theorem dX0_addMark_12 : decode cX0_addMark 12 = .ok (.aload_n 1, 1) := by decide +kernel
theorem dX0_addMark_13 : decode cX0_addMark 13 = .ok (.iconst 0, 1) := by decide +kernel
theorem dX0_addMark_14 : decode cX0_addMark 14 = .ok (.aload_n 0, 1) := by decide +kernel
theorem dX0_addMark_15 : decode cX0_addMark 15 = .ok (.getfield 33, 3) := by decide +kernel
theorem dX0_addMark_18 : decode cX0_addMark 18 = .ok (.aload_n 0, 1) := by decide +kernel
theorem dX0_addMark_19 : decode cX0_addMark 19 = .ok (.getfield 67, 3) := by decide +kernel
theorem dX0_addMark_22 : decode cX0_addMark 22 = .ok (.aaload, 1) := by decide +kernel
theorem dX0_addMark_23 : decode cX0_addMark 23 = .ok (.iconst 0, 1) := by decide +kernel
theorem dX0_addMark_24 : decode cX0_addMark 24 = .ok (.bipush 80, 2) := by decide +kernel
theorem dX0_addMark_26 : decode cX0_addMark 26 = .ok (.invokestatic 61, 3) := by decide +kernel
theorem dX0_addMark_29 : decode cX0_addMark 29 = .ok (.aload_n 0, 1) := by decide +kernel
theorem dX0_addMark_30 : decode cX0_addMark 30 = .ok (.getfield 36, 3) := by decide +kernel
theorem dX0_addMark_33 : decode cX0_addMark 33 = .ok (.aload_n 0, 1) := by decide +kernel
theorem dX0_addMark_34 : decode cX0_addMark 34 = .ok (.getfield 67, 3) := by decide +kernel
theorem dX0_addMark_37 : decode cX0_addMark 37 = .ok (.iload_n 2, 1) := by decide +kernel
theorem dX0_addMark_38 : decode cX0_addMark 38 = .ok (.iastore, 1) := by decide +kernel
theorem dX0_addMark_39 : decode cX0_addMark 39 = .ok (.aload_n 0, 1) := by decide +kernel
theorem dX0_addMark_40 : decode cX0_addMark 40 = .ok (.dup, 1) := by decide +kernel
theorem dX0_addMark_41 : decode cX0_addMark 41 = .ok (.getfield 67, 3) := by decide +kernel
theorem dX0_addMark_44 : decode cX0_addMark 44 = .ok (.iconst 1, 1) := by decide +kernel
theorem dX0_addMark_45 : decode cX0_addMark 45 = .ok (.iadd, 1) := by decide +kernel
theorem dX0_addMark_46 : decode cX0_addMark 46 = .ok (.putfield 67, 3) := by decide +kernel
theorem dX0_addMark_49 : decode cX0_addMark 49 = .ok (.aload_n 0, 1) := by decide +kernel
theorem dX0_addMark_50 : decode cX0_addMark 50 = .ok (.getfield 67, 3) := by decide +kernel
theorem dX0_addMark_53 : decode cX0_addMark 53 = .ok (.iconst 1, 1) := by decide +kernel
theorem dX0_addMark_54 : decode cX0_addMark 54 = .ok (.isub, 1) := by decide +kernel
theorem dX0_addMark_55 : decode cX0_addMark 55 = .ok (.ireturn, 1) := by decide +kernel
def f_X0_addMark (a0 : Nat) (a1 : Nat) (x2 : Int32) (M : Mem) : Option (Int32 × Mem) := if (mI M a0 8) < (10 : Int32) then gd (inR (mI M a0 8) 10) (gd (¬ (0 : Int32) < 0) (gd (¬ (0 : Int32) < 0) (gd (¬ (80 : Int32) < 0) (gd ((0 : Int32).toNatClampNeg + (80 : Int32).toNatClampNeg ≤ (ln a1)) (gd ((0 : Int32).toNatClampNeg + (80 : Int32).toNatClampNeg ≤ 80) (gd (inR (mI (cI M a1 (0 : Int32).toNatClampNeg ((a0 + 6) + 1 + 1 * (mI M a0 8).toNatClampNeg) (0 : Int32).toNatClampNeg (80 : Int32).toNatClampNeg) a0 8) 10) (some (((mI (sI (sI (cI M a1 (0 : Int32).toNatClampNeg ((a0 + 6) + 1 + 1 * (mI M a0 8).toNatClampNeg) (0 : Int32).toNatClampNeg (80 : Int32).toNatClampNeg) (a0 + 17) (mI (cI M a1 (0 : Int32).toNatClampNeg ((a0 + 6) + 1 + 1 * (mI M a0 8).toNatClampNeg) (0 : Int32).toNatClampNeg (80 : Int32).toNatClampNeg) a0 8).toNatClampNeg x2) a0 8 ((mI (sI (cI M a1 (0 : Int32).toNatClampNeg ((a0 + 6) + 1 + 1 * (mI M a0 8).toNatClampNeg) (0 : Int32).toNatClampNeg (80 : Int32).toNatClampNeg) (a0 + 17) (mI (cI M a1 (0 : Int32).toNatClampNeg ((a0 + 6) + 1 + 1 * (mI M a0 8).toNatClampNeg) (0 : Int32).toNatClampNeg (80 : Int32).toNatClampNeg) a0 8).toNatClampNeg x2) a0 8) + (1 : Int32))) a0 8) - (1 : Int32)), (sI (sI (cI M a1 (0 : Int32).toNatClampNeg ((a0 + 6) + 1 + 1 * (mI M a0 8).toNatClampNeg) (0 : Int32).toNatClampNeg (80 : Int32).toNatClampNeg) (a0 + 17) (mI (cI M a1 (0 : Int32).toNatClampNeg ((a0 + 6) + 1 + 1 * (mI M a0 8).toNatClampNeg) (0 : Int32).toNatClampNeg (80 : Int32).toNatClampNeg) a0 8).toNatClampNeg x2) a0 8 ((mI (sI (cI M a1 (0 : Int32).toNatClampNeg ((a0 + 6) + 1 + 1 * (mI M a0 8).toNatClampNeg) (0 : Int32).toNatClampNeg (80 : Int32).toNatClampNeg) (a0 + 17) (mI (cI M a1 (0 : Int32).toNatClampNeg ((a0 + 6) + 1 + 1 * (mI M a0 8).toNatClampNeg) (0 : Int32).toNatClampNeg (80 : Int32).toNatClampNeg) a0 8).toNatClampNeg x2) a0 8) + (1 : Int32))))))))))) else some ((-2 : Int32), M)
set_option maxRecDepth 100000 in
set_option maxHeartbeats 4000000 in
theorem c_X0_addMark (Z : Sys) {M : Mem} (hs : St M) (a0 : Nat) (a1 : Nat) (x2 : Int32) (k_a0 : K0[a0]? = some (0, 12)) (k_a1 : K0[a1]? = some (10, (ln a1))) {q : Int32 × Mem} (hf : f_X0_addMark a0 a1 x2 M = some q) : Ct Z yX0_addMark cX0_addMark 3 (some .int) rm_X0_addMark [.ref (zs Z + a0), .ref (zs Z + a1), .int x2] M False (PostI q.1 q.2) := by
  refine Ct.of (by decide +kernel) (Nat.le_of_ble_eq_true rfl) (fun X hR hq _ => ?_)
  show G Z X Y_X0_addMark False 0 0 0 [(0, .ref (zs Z + a0)), (1, .ref (zs Z + a1)), (2, .int x2)] [] M
  replace hq : RetOk Z X (some .int) False (PostI q.1 q.2) 0 0 := hq
  unfold f_X0_addMark at hf
  refine G.aload_n 0 0 dX0_addMark_0 rfl rfl ?_
  refine G.geti 1 ck_0 8 (hs.k k_a0) (by decide) (by decide +kernel) wd_275 dX0_addMark_1 ?_
  refine G.bipush 4 (10 : Int32) dX0_addMark_4 (by decide +kernel) ?_
  refine G.icmp_lt 6 12 dX0_addMark_6 (by decide) (fun h1 => ?_) (fun h1 => ?_)
  · replace hf := (if_pos h1).symm.trans hf
    refine G.aload_n 12 1 dX0_addMark_12 rfl rfl ?_
    refine G.iconst 13 (0 : Int32) dX0_addMark_13 (by decide +kernel) ?_
    refine G.aload_n 14 0 dX0_addMark_14 rfl rfl ?_
    refine G.getp 15 ck_0 6 (a0 + 6) (hs.k k_a0) (pt_0_6 hs k_a0).1 (by decide) (by decide +kernel) wd_273 dX0_addMark_15 ?_
    refine G.aload_n 18 0 dX0_addMark_18 rfl rfl ?_
    refine G.geti 19 ck_0 8 (hs.k k_a0) (by decide) (by decide +kernel) wd_275 dX0_addMark_19 ?_
    obtain ⟨g2, hf⟩ := gd_e hf
    refine G.aa 22 (mI M a0 8).toNatClampNeg ((a0 + 6) + 1 + 1 * (mI M a0 8).toNatClampNeg) (hs.k (pt_0_6 hs k_a0).2) (by decide) rfl rfl g2 rfl (pa_15 hs (pt_0_6 hs k_a0).2 (inlt g2)).1 dX0_addMark_22 ?_
    refine G.iconst 23 (0 : Int32) dX0_addMark_23 (by decide +kernel) ?_
    refine G.bipush 24 (80 : Int32) dX0_addMark_24 (by decide +kernel) ?_
    obtain ⟨g3, hf⟩ := gd_e hf
    obtain ⟨g4, hf⟩ := gd_e hf
    obtain ⟨g5, hf⟩ := gd_e hf
    obtain ⟨g6, hf⟩ := gd_e hf
    obtain ⟨g7, hf⟩ := gd_e hf
    refine G.copyi 26 (hs.k k_a1) (hs.k (pa_15 hs (pt_0_6 hs k_a0).2 (inlt g2)).2) wd_843 wd_845 wd_844 wd_90 g3 g4 g5 g6 g7 hR ⟨Nat.le_of_ble_eq_true rfl, Nat.le_of_ble_eq_true rfl⟩ dX0_addMark_26 ?_
    refine G.aload_n 29 0 dX0_addMark_29 rfl rfl ?_
    refine G.getp 30 ck_0 7 (a0 + 17) ((St.c hs).k k_a0) (pt_0_7 (St.c hs) k_a0).1 (by decide) (by decide +kernel) wd_274 dX0_addMark_30 ?_
    refine G.aload_n 33 0 dX0_addMark_33 rfl rfl ?_
    refine G.geti 34 ck_0 8 ((St.c hs).k k_a0) (by decide) (by decide +kernel) wd_275 dX0_addMark_34 ?_
    refine G.iload_n 37 2 dX0_addMark_37 rfl rfl ?_
    obtain ⟨g8, hf⟩ := gd_e hf
    refine G.ist 38 (mI (cI M a1 (0 : Int32).toNatClampNeg ((a0 + 6) + 1 + 1 * (mI M a0 8).toNatClampNeg) (0 : Int32).toNatClampNeg (80 : Int32).toNatClampNeg) a0 8).toNatClampNeg ((St.c hs).k (pt_0_7 hs k_a0).2) g8 rfl dX0_addMark_38 ?_
    refine G.aload_n 39 0 dX0_addMark_39 rfl rfl ?_
    refine G.dup 40 dX0_addMark_40 rfl ?_
    refine G.geti 41 ck_0 8 ((St.i (St.c hs)).k k_a0) (by decide) (by decide +kernel) wd_275 dX0_addMark_41 ?_
    refine G.iconst 44 (1 : Int32) dX0_addMark_44 (by decide +kernel) ?_
    refine G.iadd 45 dX0_addMark_45 ?_
    refine G.puti 46 ck_0 8 ((St.i (St.c hs)).k k_a0) (by decide) (by decide +kernel) rfl wd_275 rfl rfl dX0_addMark_46 ?_
    refine G.aload_n 49 0 dX0_addMark_49 rfl rfl ?_
    refine G.geti 50 ck_0 8 ((St.i (St.i (St.c hs))).k k_a0) (by decide) (by decide +kernel) wd_275 dX0_addMark_50 ?_
    refine G.iconst 53 (1 : Int32) dX0_addMark_53 (by decide +kernel) ?_
    refine G.isub 54 dX0_addMark_54 ?_
    cases hf
    exact G.rI 55 hq dX0_addMark_55 (St.i (St.i (St.c hs)))
  · replace hf := (if_neg h1).symm.trans hf
    refine G.bipush 9 (-2 : Int32) dX0_addMark_9 (by decide +kernel) ?_
    cases hf
    exact G.rI 11 hq dX0_addMark_11 hs
abbrev Y_X0_allLists : My := (cX0_allLists, RX0, 3)
def rm_X0_allLists : Room := { frames := 1, cells := 0, slots := 0, locals := 200 }
theorem dX0_allLists_0 : decode cX0_allLists 0 = .ok (.iconst 0, 1) := by decide +kernel
theorem dX0_allLists_1 : decode cX0_allLists 1 = .ok (.istore_n 1, 1) := by decide +kernel
theorem dX0_allLists_2 : decode cX0_allLists 2 = .ok (.iconst 0, 1) := by decide +kernel
theorem dX0_allLists_3 : decode cX0_allLists 3 = .ok (.istore_n 2, 1) := by decide +kernel
theorem dX0_allLists_4 : decode cX0_allLists 4 = .ok (.iload_n 2, 1) := by decide +kernel
theorem dX0_allLists_5 : decode cX0_allLists 5 = .ok (.aload_n 0, 1) := by decide +kernel
theorem dX0_allLists_6 : decode cX0_allLists 6 = .ok (.getfield 53, 3) := by decide +kernel
theorem dX0_allLists_9 : decode cX0_allLists 9 = .ok (.if_icmp .ge 21, 3) := by decide +kernel
theorem dX0_allLists_12 : decode cX0_allLists 12 = .ok (.iload_n 1, 1) := by decide +kernel
theorem dX0_allLists_13 : decode cX0_allLists 13 = .ok (.aload_n 0, 1) := by decide +kernel
theorem dX0_allLists_14 : decode cX0_allLists 14 = .ok (.getfield 13, 3) := by decide +kernel
theorem dX0_allLists_17 : decode cX0_allLists 17 = .ok (.iload_n 2, 1) := by decide +kernel
theorem dX0_allLists_18 : decode cX0_allLists 18 = .ok (.aaload, 1) := by decide +kernel
theorem dX0_allLists_19 : decode cX0_allLists 19 = .ok (.getfield 89, 3) := by decide +kernel
theorem dX0_allLists_22 : decode cX0_allLists 22 = .ok (.iadd, 1) := by decide +kernel
theorem dX0_allLists_23 : decode cX0_allLists 23 = .ok (.istore_n 1, 1) := by decide +kernel
theorem dX0_allLists_24 : decode cX0_allLists 24 = .ok (.iinc 2 1, 3) := by decide +kernel
theorem dX0_allLists_27 : decode cX0_allLists 27 = .ok (.goto (-23), 3) := by decide +kernel
theorem dX0_allLists_30 : decode cX0_allLists 30 = .ok (.iload_n 1, 1) := by decide +kernel
theorem dX0_allLists_31 : decode cX0_allLists 31 = .ok (.ireturn, 1) := by decide +kernel
def L_X0_allLists_4 : Nat → Nat → Int32 → Int32 → Mem → Option Int32
  | 0, _, _, _, _ => none
  | n + 1, a0, x1, x2, M => if (mI M a0 1) ≤ x2 then some x1 else gd (inR x2 30) (L_X0_allLists_4 n a0 (x1 + (mI M ((a0 + 1) + 23 + 2 * x2.toNatClampNeg) 1)) (x2 + 1) M)
def f_X0_allLists (a0 : Nat) (M : Mem) : Option Int32 := L_X0_allLists_4 FU a0 (0 : Int32) (0 : Int32) M
set_option maxRecDepth 100000 in
set_option maxHeartbeats 4000000 in
theorem l_X0_allLists_4 (Z : Sys) (X : Cx) (hR : xR X = rm_X0_allLists) {q : Int32} {M : Mem} (hq : RetOk Z X (some .int) False (PostI q M) 0 0) : ∀ (n : Nat) (a0 : Nat) (x1 : Int32) (x2 : Int32) (hs : St M) (k_a0 : K0[a0]? = some (0, 12)) (hf : L_X0_allLists_4 n a0 x1 x2 M = some q), G Z X Y_X0_allLists False 0 0 4 [(0, .ref (zs Z + a0)), (1, .int x1), (2, .int x2)] [] M := by
  intro n
  induction n with
  | zero => intro a0 x1 x2 hs k_a0 hf; cases hf
  | succ n ih =>
    intro a0 x1 x2 hs k_a0 hf
    unfold L_X0_allLists_4 at hf
    refine G.iload_n 4 2 dX0_allLists_4 rfl rfl ?_
    refine G.aload_n 5 0 dX0_allLists_5 rfl rfl ?_
    refine G.geti 6 ck_0 1 (hs.k k_a0) (by decide) (by decide +kernel) wd_261 dX0_allLists_6 ?_
    refine G.icmp_ge 9 30 dX0_allLists_9 (by decide) (fun h1 => ?_) (fun h1 => ?_)
    · replace hf := (if_pos h1).symm.trans hf
      refine G.iload_n 30 1 dX0_allLists_30 rfl rfl ?_
      cases hf
      exact G.rI 31 hq dX0_allLists_31 hs
    · replace hf := (if_neg h1).symm.trans hf
      refine G.iload_n 12 1 dX0_allLists_12 rfl rfl ?_
      refine G.aload_n 13 0 dX0_allLists_13 rfl rfl ?_
      refine G.getp 14 ck_0 0 (a0 + 1) (hs.k k_a0) (pt_0_0 hs k_a0).1 (by decide) (by decide +kernel) wd_257 dX0_allLists_14 ?_
      refine G.iload_n 17 2 dX0_allLists_17 rfl rfl ?_
      obtain ⟨g2, hf⟩ := gd_e hf
      refine G.aa 18 x2.toNatClampNeg ((a0 + 1) + 23 + 2 * x2.toNatClampNeg) (hs.k (pt_0_0 hs k_a0).2) (by decide) rfl rfl g2 rfl (pa_13 hs (pt_0_0 hs k_a0).2 (inlt g2)).1 dX0_allLists_18 ?_
      refine G.geti 19 ck_1 1 (hs.k (pa_13 hs (pt_0_0 hs k_a0).2 (inlt g2)).2) (by decide) (by decide +kernel) wd_192 dX0_allLists_19 ?_
      refine G.iadd 22 dX0_allLists_22 ?_
      refine G.istore_n 23 [(1, .int (x1 + (mI M ((a0 + 1) + 23 + 2 * x2.toNatClampNeg) 1))), (0, .ref (zs Z + a0)), (2, .int x2)] dX0_allLists_23 rfl (Nat.le_of_ble_eq_true rfl) rfl ?_
      refine G.iinc 24 2 (x2 + 1) [(2, .int (x2 + 1)), (1, .int (x1 + (mI M ((a0 + 1) + 23 + 2 * x2.toNatClampNeg) 1))), (0, .ref (zs Z + a0))] dX0_allLists_24 rfl (congrArg (fun z => x2 + z) (by decide +kernel)) (Nat.le_of_ble_eq_true rfl) rfl ?_
      refine G.goto 27 4 dX0_allLists_27 (by decide) ?_
      refine G.locs [2, 1, 0] rfl ?_
      exact ih a0 (x1 + (mI M ((a0 + 1) + 23 + 2 * x2.toNatClampNeg) 1)) (x2 + 1) hs k_a0 hf
set_option maxRecDepth 100000 in
set_option maxHeartbeats 4000000 in
theorem c_X0_allLists (Z : Sys) {M : Mem} (hs : St M) (a0 : Nat) (k_a0 : K0[a0]? = some (0, 12)) {q : Int32} (hf : f_X0_allLists a0 M = some q) : Ct Z yX0_allLists cX0_allLists 3 (some .int) rm_X0_allLists [.ref (zs Z + a0)] M False (PostI q M) := by
  refine Ct.of (by decide +kernel) (Nat.le_of_ble_eq_true rfl) (fun X hR hq _ => ?_)
  show G Z X Y_X0_allLists False 0 0 0 [(0, .ref (zs Z + a0))] [] M
  replace hq : RetOk Z X (some .int) False (PostI q M) 0 0 := hq
  unfold f_X0_allLists at hf
  refine G.iconst 0 (0 : Int32) dX0_allLists_0 (by decide +kernel) ?_
  refine G.istore_n 1 [(1, .int (0 : Int32)), (0, .ref (zs Z + a0))] dX0_allLists_1 rfl (Nat.le_of_ble_eq_true rfl) rfl ?_
  refine G.iconst 2 (0 : Int32) dX0_allLists_2 (by decide +kernel) ?_
  refine G.istore_n 3 [(2, .int (0 : Int32)), (1, .int (0 : Int32)), (0, .ref (zs Z + a0))] dX0_allLists_3 rfl (Nat.le_of_ble_eq_true rfl) rfl ?_
  refine G.locs [2, 1, 0] rfl ?_
  exact l_X0_allLists_4 Z X hR hq FU a0 (0 : Int32) (0 : Int32) hs k_a0 hf
abbrev Y_X1_mustBe : My := (cX1_mustBe, RX1, 1)
def rm_X1_mustBe : Room := { frames := 1, cells := 0, slots := 0, locals := 200 }
theorem dX1_mustBe_0 : decode cX1_mustBe 0 = .ok (.iconst 0, 1) := by decide +kernel
theorem dX1_mustBe_1 : decode cX1_mustBe 1 = .ok (.aload_n 0, 1) := by decide +kernel
theorem dX1_mustBe_2 : decode cX1_mustBe 2 = .ok (.getfield 57, 3) := by decide +kernel
theorem dX1_mustBe_5 : decode cX1_mustBe 5 = .ok (.aload_n 0, 1) := by decide +kernel
theorem dX1_mustBe_6 : decode cX1_mustBe 6 = .ok (.getfield 18, 3) := by decide +kernel
theorem dX1_mustBe_9 : decode cX1_mustBe 9 = .ok (.isub, 1) := by decide +kernel
theorem dX1_mustBe_10 : decode cX1_mustBe 10 = .ok (.invokestatic 80, 3) := by decide +kernel
theorem dX1_mustBe_13 : decode cX1_mustBe 13 = .ok (.ireturn, 1) := by decide +kernel
def f_X1_mustBe (a0 : Nat) (M : Mem) : Int32 := (jmax (0 : Int32) ((mI M a0 10) - (mI M a0 1)))
set_option maxRecDepth 100000 in
set_option maxHeartbeats 4000000 in
theorem c_X1_mustBe (Z : Sys) {M : Mem} (hs : St M) (a0 : Nat) (k_a0 : K0[a0]? = some (1, 12)) {q : Int32} (hf : f_X1_mustBe a0 M = q) : Ct Z yX1_mustBe cX1_mustBe 1 (some .int) rm_X1_mustBe [.ref (zs Z + a0)] M False (PostI q M) := by
  refine Ct.of (by decide +kernel) (Nat.le_of_ble_eq_true rfl) (fun X hR hq _ => ?_)
  show G Z X Y_X1_mustBe False 0 0 0 [(0, .ref (zs Z + a0))] [] M
  replace hq : RetOk Z X (some .int) False (PostI q M) 0 0 := hq
  unfold f_X1_mustBe at hf
  refine G.iconst 0 (0 : Int32) dX1_mustBe_0 (by decide +kernel) ?_
  refine G.aload_n 1 0 dX1_mustBe_1 rfl rfl ?_
  refine G.geti 2 ck_1 10 (hs.k k_a0) (by decide) (by decide +kernel) wd_224 dX1_mustBe_2 ?_
  refine G.aload_n 5 0 dX1_mustBe_5 rfl rfl ?_
  refine G.geti 6 ck_1 1 (hs.k k_a0) (by decide) (by decide +kernel) wd_189 dX1_mustBe_6 ?_
  refine G.isub 9 dX1_mustBe_9 ?_
  refine G.mmaxJ 10 wd_757 wd_546 wd_87 wd_547 hR ⟨Nat.le_of_ble_eq_true rfl, Nat.le_of_ble_eq_true rfl, Nat.le_of_ble_eq_true rfl, Nat.le_of_ble_eq_true rfl⟩ dX1_mustBe_10 ?_
  subst hf
  exact G.rI 13 hq dX1_mustBe_13 hs
abbrev Y_X0_allMustBe : My := (cX0_allMustBe, RX0, 3)
def rm_X0_allMustBe : Room := { frames := 2, cells := 0, slots := 0, locals := 220 }
theorem dX0_allMustBe_0 : decode cX0_allMustBe 0 = .ok (.iconst 0, 1) := by decide +kernel
theorem dX0_allMustBe_1 : decode cX0_allMustBe 1 = .ok (.istore_n 1, 1) := by decide +kernel
theorem dX0_allMustBe_2 : decode cX0_allMustBe 2 = .ok (.iconst 0, 1) := by decide +kernel
theorem dX0_allMustBe_3 : decode cX0_allMustBe 3 = .ok (.istore_n 2, 1) := by decide +kernel
theorem dX0_allMustBe_4 : decode cX0_allMustBe 4 = .ok (.iload_n 2, 1) := by decide +kernel
theorem dX0_allMustBe_5 : decode cX0_allMustBe 5 = .ok (.aload_n 0, 1) := by decide +kernel
theorem dX0_allMustBe_6 : decode cX0_allMustBe 6 = .ok (.getfield 53, 3) := by decide +kernel
theorem dX0_allMustBe_9 : decode cX0_allMustBe 9 = .ok (.if_icmp .ge 37, 3) := by decide +kernel
theorem dX0_allMustBe_12 : decode cX0_allMustBe 12 = .ok (.iload_n 1, 1) := by decide +kernel
theorem dX0_allMustBe_13 : decode cX0_allMustBe 13 = .ok (.aload_n 0, 1) := by decide +kernel
theorem dX0_allMustBe_14 : decode cX0_allMustBe 14 = .ok (.getfield 13, 3) := by decide +kernel
theorem dX0_allMustBe_17 : decode cX0_allMustBe 17 = .ok (.iload_n 2, 1) := by decide +kernel
theorem dX0_allMustBe_18 : decode cX0_allMustBe 18 = .ok (.aaload, 1) := by decide +kernel
theorem dX0_allMustBe_19 : decode cX0_allMustBe 19 = .ok (.getfield 78, 3) := by decide +kernel
theorem dX0_allMustBe_22 : decode cX0_allMustBe 22 = .ok (.ifCond .eq 7, 3) := by decide +kernel
theorem dX0_allMustBe_25 : decode cX0_allMustBe 25 = .ok (.iconst 0, 1) := by decide +kernel
theorem dX0_allMustBe_26 : decode cX0_allMustBe 26 = .ok (.goto 12, 3) := by decide +kernel
theorem dX0_allMustBe_29 : decode cX0_allMustBe 29 = .ok (.aload_n 0, 1) := by decide +kernel
theorem dX0_allMustBe_30 : decode cX0_allMustBe 30 = .ok (.getfield 13, 3) := by decide +kernel
theorem dX0_allMustBe_33 : decode cX0_allMustBe 33 = .ok (.iload_n 2, 1) := by decide +kernel
theorem dX0_allMustBe_34 : decode cX0_allMustBe 34 = .ok (.aaload, 1) := by decide +kernel
theorem dX0_allMustBe_35 : decode cX0_allMustBe 35 = .ok (.invokevirtual 166, 3) := by decide +kernel
theorem dX0_allMustBe_38 : decode cX0_allMustBe 38 = .ok (.iadd, 1) := by decide +kernel
theorem dX0_allMustBe_39 : decode cX0_allMustBe 39 = .ok (.istore_n 1, 1) := by decide +kernel
theorem dX0_allMustBe_40 : decode cX0_allMustBe 40 = .ok (.iinc 2 1, 3) := by decide +kernel
theorem dX0_allMustBe_43 : decode cX0_allMustBe 43 = .ok (.goto (-39), 3) := by decide +kernel
theorem dX0_allMustBe_46 : decode cX0_allMustBe 46 = .ok (.iload_n 1, 1) := by decide +kernel
theorem dX0_allMustBe_47 : decode cX0_allMustBe 47 = .ok (.ireturn, 1) := by decide +kernel
def L_X0_allMustBe_4 : Nat → Nat → Int32 → Int32 → Mem → Option Int32
  | 0, _, _, _, _ => none
  | n + 1, a0, x1, x2, M => if (mI M a0 1) ≤ x2 then some x1 else gd (inR x2 30) (if (mI M ((a0 + 1) + 23 + 2 * x2.toNatClampNeg) 9) = 0 then L_X0_allMustBe_4 n a0 (x1 + (f_X1_mustBe ((a0 + 1) + 23 + 2 * x2.toNatClampNeg) M)) (x2 + 1) M else L_X0_allMustBe_4 n a0 (x1 + (0 : Int32)) (x2 + 1) M)
def f_X0_allMustBe (a0 : Nat) (M : Mem) : Option Int32 := L_X0_allMustBe_4 FU a0 (0 : Int32) (0 : Int32) M
set_option maxRecDepth 100000 in
set_option maxHeartbeats 4000000 in
theorem l_X0_allMustBe_4 (Z : Sys) (X : Cx) (hR : xR X = rm_X0_allMustBe) {q : Int32} {M : Mem} (hq : RetOk Z X (some .int) False (PostI q M) 0 0) : ∀ (n : Nat) (a0 : Nat) (x1 : Int32) (x2 : Int32) (hs : St M) (k_a0 : K0[a0]? = some (0, 12)) (hf : L_X0_allMustBe_4 n a0 x1 x2 M = some q), G Z X Y_X0_allMustBe False 0 0 4 [(0, .ref (zs Z + a0)), (1, .int x1), (2, .int x2)] [] M := by
  intro n
  induction n with
  | zero => intro a0 x1 x2 hs k_a0 hf; cases hf
  | succ n ih =>
    intro a0 x1 x2 hs k_a0 hf
    unfold L_X0_allMustBe_4 at hf
    refine G.iload_n 4 2 dX0_allMustBe_4 rfl rfl ?_
    refine G.aload_n 5 0 dX0_allMustBe_5 rfl rfl ?_
    refine G.geti 6 ck_0 1 (hs.k k_a0) (by decide) (by decide +kernel) wd_261 dX0_allMustBe_6 ?_
    refine G.icmp_ge 9 46 dX0_allMustBe_9 (by decide) (fun h1 => ?_) (fun h1 => ?_)
    · replace hf := (if_pos h1).symm.trans hf
      refine G.iload_n 46 1 dX0_allMustBe_46 rfl rfl ?_
      cases hf
      exact G.rI 47 hq dX0_allMustBe_47 hs
    · replace hf := (if_neg h1).symm.trans hf
      refine G.iload_n 12 1 dX0_allMustBe_12 rfl rfl ?_
      refine G.aload_n 13 0 dX0_allMustBe_13 rfl rfl ?_
      refine G.getp 14 ck_0 0 (a0 + 1) (hs.k k_a0) (pt_0_0 hs k_a0).1 (by decide) (by decide +kernel) wd_257 dX0_allMustBe_14 ?_
      refine G.iload_n 17 2 dX0_allMustBe_17 rfl rfl ?_
      obtain ⟨g2, hf⟩ := gd_e hf
      refine G.aa 18 x2.toNatClampNeg ((a0 + 1) + 23 + 2 * x2.toNatClampNeg) (hs.k (pt_0_0 hs k_a0).2) (by decide) rfl rfl g2 rfl (pa_13 hs (pt_0_0 hs k_a0).2 (inlt g2)).1 dX0_allMustBe_18 ?_
      refine G.geti 19 ck_1 9 (hs.k (pa_13 hs (pt_0_0 hs k_a0).2 (inlt g2)).2) (by decide) (by decide +kernel) wd_222 dX0_allMustBe_19 ?_
      refine G.if_eq 22 29 dX0_allMustBe_22 (by decide) (fun h3 => ?_) (fun h3 => ?_)
      · replace hf := (if_pos h3).symm.trans hf
        refine G.aload_n 29 0 dX0_allMustBe_29 rfl rfl ?_
        refine G.getp 30 ck_0 0 (a0 + 1) (hs.k k_a0) (pt_0_0 hs k_a0).1 (by decide) (by decide +kernel) wd_257 dX0_allMustBe_30 ?_
        refine G.iload_n 33 2 dX0_allMustBe_33 rfl rfl ?_
        refine G.aa 34 x2.toNatClampNeg ((a0 + 1) + 23 + 2 * x2.toNatClampNeg) (hs.k (pt_0_0 hs k_a0).2) (by decide) rfl rfl g2 rfl (pa_13 hs (pt_0_0 hs k_a0).2 (inlt g2)).1 dX0_allMustBe_34 ?_
        refine G.cvI 35 (As := []) ck_1 (hs.k (pa_13 hs (pt_0_0 hs k_a0).2 (inlt g2)).2) (c_X1_mustBe Z hs ((a0 + 1) + 23 + 2 * x2.toNatClampNeg) (pa_13 hs (pt_0_0 hs k_a0).2 (inlt g2)).2 rfl) mk_X1_mustBe vk_X1_mustBe rfl wd_762 hR (by decide +kernel) ⟨rfl, rfl⟩ rfl (Nat.le_of_ble_eq_true rfl) dX0_allMustBe_35 (fun hs4 => ?_)
        refine G.iadd 38 dX0_allMustBe_38 ?_
        refine G.istore_n 39 [(1, .int (x1 + (f_X1_mustBe ((a0 + 1) + 23 + 2 * x2.toNatClampNeg) M))), (0, .ref (zs Z + a0)), (2, .int x2)] dX0_allMustBe_39 rfl (Nat.le_of_ble_eq_true rfl) rfl ?_
        refine G.iinc 40 2 (x2 + 1) [(2, .int (x2 + 1)), (1, .int (x1 + (f_X1_mustBe ((a0 + 1) + 23 + 2 * x2.toNatClampNeg) M))), (0, .ref (zs Z + a0))] dX0_allMustBe_40 rfl (congrArg (fun z => x2 + z) (by decide +kernel)) (Nat.le_of_ble_eq_true rfl) rfl ?_
        refine G.goto 43 4 dX0_allMustBe_43 (by decide) ?_
        refine G.locs [2, 1, 0] rfl ?_
        exact ih a0 (x1 + (f_X1_mustBe ((a0 + 1) + 23 + 2 * x2.toNatClampNeg) M)) (x2 + 1) hs4 k_a0 hf
      · replace hf := (if_neg h3).symm.trans hf
        refine G.iconst 25 (0 : Int32) dX0_allMustBe_25 (by decide +kernel) ?_
        refine G.goto 26 38 dX0_allMustBe_26 (by decide) ?_
        refine G.iadd 38 dX0_allMustBe_38 ?_
        refine G.istore_n 39 [(1, .int (x1 + (0 : Int32))), (0, .ref (zs Z + a0)), (2, .int x2)] dX0_allMustBe_39 rfl (Nat.le_of_ble_eq_true rfl) rfl ?_
        refine G.iinc 40 2 (x2 + 1) [(2, .int (x2 + 1)), (1, .int (x1 + (0 : Int32))), (0, .ref (zs Z + a0))] dX0_allMustBe_40 rfl (congrArg (fun z => x2 + z) (by decide +kernel)) (Nat.le_of_ble_eq_true rfl) rfl ?_
        refine G.goto 43 4 dX0_allMustBe_43 (by decide) ?_
        refine G.locs [2, 1, 0] rfl ?_
        exact ih a0 (x1 + (0 : Int32)) (x2 + 1) hs k_a0 hf
set_option maxRecDepth 100000 in
set_option maxHeartbeats 4000000 in
theorem c_X0_allMustBe (Z : Sys) {M : Mem} (hs : St M) (a0 : Nat) (k_a0 : K0[a0]? = some (0, 12)) {q : Int32} (hf : f_X0_allMustBe a0 M = some q) : Ct Z yX0_allMustBe cX0_allMustBe 3 (some .int) rm_X0_allMustBe [.ref (zs Z + a0)] M False (PostI q M) := by
  refine Ct.of (by decide +kernel) (Nat.le_of_ble_eq_true rfl) (fun X hR hq _ => ?_)
  show G Z X Y_X0_allMustBe False 0 0 0 [(0, .ref (zs Z + a0))] [] M
  replace hq : RetOk Z X (some .int) False (PostI q M) 0 0 := hq
  unfold f_X0_allMustBe at hf
  refine G.iconst 0 (0 : Int32) dX0_allMustBe_0 (by decide +kernel) ?_
  refine G.istore_n 1 [(1, .int (0 : Int32)), (0, .ref (zs Z + a0))] dX0_allMustBe_1 rfl (Nat.le_of_ble_eq_true rfl) rfl ?_
  refine G.iconst 2 (0 : Int32) dX0_allMustBe_2 (by decide +kernel) ?_
  refine G.istore_n 3 [(2, .int (0 : Int32)), (1, .int (0 : Int32)), (0, .ref (zs Z + a0))] dX0_allMustBe_3 rfl (Nat.le_of_ble_eq_true rfl) rfl ?_
  refine G.locs [2, 1, 0] rfl ?_
  exact l_X0_allMustBe_4 Z X hR hq FU a0 (0 : Int32) (0 : Int32) hs k_a0 hf
abbrev Y_X1_untruth : My := (cX1_untruth, RX1, 1)
def rm_X1_untruth : Room := { frames := 1, cells := 0, slots := 0, locals := 200 }
theorem dX1_untruth_0 : decode cX1_untruth 0 = .ok (.aload_n 0, 1) := by decide +kernel
theorem dX1_untruth_1 : decode cX1_untruth 1 = .ok (.getfield 57, 3) := by decide +kernel
theorem dX1_untruth_4 : decode cX1_untruth 4 = .ok (.aload_n 0, 1) := by decide +kernel
theorem dX1_untruth_5 : decode cX1_untruth 5 = .ok (.getfield 34, 3) := by decide +kernel
theorem dX1_untruth_8 : decode cX1_untruth 8 = .ok (.isub, 1) := by decide +kernel
theorem dX1_untruth_9 : decode cX1_untruth 9 = .ok (.invokestatic 74, 3) := by decide +kernel
theorem dX1_untruth_12 : decode cX1_untruth 12 = .ok (.aload_n 0, 1) := by decide +kernel
theorem dX1_untruth_13 : decode cX1_untruth 13 = .ok (.getfield 60, 3) := by decide +kernel
theorem dX1_untruth_16 : decode cX1_untruth 16 = .ok (.aload_n 0, 1) := by decide +kernel
theorem dX1_untruth_17 : decode cX1_untruth 17 = .ok (.getfield 37, 3) := by decide +kernel
theorem dX1_untruth_20 : decode cX1_untruth 20 = .ok (.isub, 1) := by decide +kernel
theorem dX1_untruth_21 : decode cX1_untruth 21 = .ok (.invokestatic 74, 3) := by decide +kernel
theorem dX1_untruth_24 : decode cX1_untruth 24 = .ok (.invokestatic 80, 3) := by decide +kernel
theorem dX1_untruth_27 : decode cX1_untruth 27 = .ok (.ireturn, 1) := by decide +kernel
def f_X1_untruth (a0 : Nat) (M : Mem) : Int32 := (jmax (jabs ((mI M a0 10) - (mI M a0 6))) (jabs ((mI M a0 11) - (mI M a0 7))))
set_option maxRecDepth 100000 in
set_option maxHeartbeats 4000000 in
theorem c_X1_untruth (Z : Sys) {M : Mem} (hs : St M) (a0 : Nat) (k_a0 : K0[a0]? = some (1, 12)) {q : Int32} (hf : f_X1_untruth a0 M = q) : Ct Z yX1_untruth cX1_untruth 1 (some .int) rm_X1_untruth [.ref (zs Z + a0)] M False (PostI q M) := by
  refine Ct.of (by decide +kernel) (Nat.le_of_ble_eq_true rfl) (fun X hR hq _ => ?_)
  show G Z X Y_X1_untruth False 0 0 0 [(0, .ref (zs Z + a0))] [] M
  replace hq : RetOk Z X (some .int) False (PostI q M) 0 0 := hq
  unfold f_X1_untruth at hf
  refine G.aload_n 0 0 dX1_untruth_0 rfl rfl ?_
  refine G.geti 1 ck_1 10 (hs.k k_a0) (by decide) (by decide +kernel) wd_224 dX1_untruth_1 ?_
  refine G.aload_n 4 0 dX1_untruth_4 rfl rfl ?_
  refine G.geti 5 ck_1 6 (hs.k k_a0) (by decide) (by decide +kernel) wd_207 dX1_untruth_5 ?_
  refine G.isub 8 dX1_untruth_8 ?_
  refine G.mabsJ 9 wd_754 wd_755 wd_87 wd_756 hR ⟨Nat.le_of_ble_eq_true rfl, Nat.le_of_ble_eq_true rfl, Nat.le_of_ble_eq_true rfl, Nat.le_of_ble_eq_true rfl⟩ dX1_untruth_9 ?_
  refine G.aload_n 12 0 dX1_untruth_12 rfl rfl ?_
  refine G.geti 13 ck_1 11 (hs.k k_a0) (by decide) (by decide +kernel) wd_228 dX1_untruth_13 ?_
  refine G.aload_n 16 0 dX1_untruth_16 rfl rfl ?_
  refine G.geti 17 ck_1 7 (hs.k k_a0) (by decide) (by decide +kernel) wd_210 dX1_untruth_17 ?_
  refine G.isub 20 dX1_untruth_20 ?_
  refine G.mabsJ 21 wd_754 wd_755 wd_87 wd_756 hR ⟨Nat.le_of_ble_eq_true rfl, Nat.le_of_ble_eq_true rfl, Nat.le_of_ble_eq_true rfl, Nat.le_of_ble_eq_true rfl⟩ dX1_untruth_21 ?_
  refine G.mmaxJ 24 wd_757 wd_546 wd_87 wd_547 hR ⟨Nat.le_of_ble_eq_true rfl, Nat.le_of_ble_eq_true rfl, Nat.le_of_ble_eq_true rfl, Nat.le_of_ble_eq_true rfl⟩ dX1_untruth_24 ?_
  subst hf
  exact G.rI 27 hq dX1_untruth_27 hs
abbrev Y_X0_allUntrue : My := (cX0_allUntrue, RX0, 3)
def rm_X0_allUntrue : Room := { frames := 2, cells := 0, slots := 0, locals := 220 }
theorem dX0_allUntrue_0 : decode cX0_allUntrue 0 = .ok (.iconst 0, 1) := by decide +kernel
theorem dX0_allUntrue_1 : decode cX0_allUntrue 1 = .ok (.istore_n 1, 1) := by decide +kernel
theorem dX0_allUntrue_2 : decode cX0_allUntrue 2 = .ok (.iconst 0, 1) := by decide +kernel
theorem dX0_allUntrue_3 : decode cX0_allUntrue 3 = .ok (.istore_n 2, 1) := by decide +kernel
theorem dX0_allUntrue_4 : decode cX0_allUntrue 4 = .ok (.iload_n 2, 1) := by decide +kernel
theorem dX0_allUntrue_5 : decode cX0_allUntrue 5 = .ok (.aload_n 0, 1) := by decide +kernel
theorem dX0_allUntrue_6 : decode cX0_allUntrue 6 = .ok (.getfield 53, 3) := by decide +kernel
theorem dX0_allUntrue_9 : decode cX0_allUntrue 9 = .ok (.if_icmp .ge 37, 3) := by decide +kernel
theorem dX0_allUntrue_12 : decode cX0_allUntrue 12 = .ok (.iload_n 1, 1) := by decide +kernel
theorem dX0_allUntrue_13 : decode cX0_allUntrue 13 = .ok (.aload_n 0, 1) := by decide +kernel
theorem dX0_allUntrue_14 : decode cX0_allUntrue 14 = .ok (.getfield 13, 3) := by decide +kernel
theorem dX0_allUntrue_17 : decode cX0_allUntrue 17 = .ok (.iload_n 2, 1) := by decide +kernel
theorem dX0_allUntrue_18 : decode cX0_allUntrue 18 = .ok (.aaload, 1) := by decide +kernel
theorem dX0_allUntrue_19 : decode cX0_allUntrue 19 = .ok (.getfield 78, 3) := by decide +kernel
theorem dX0_allUntrue_22 : decode cX0_allUntrue 22 = .ok (.ifCond .eq 7, 3) := by decide +kernel
theorem dX0_allUntrue_25 : decode cX0_allUntrue 25 = .ok (.iconst 0, 1) := by decide +kernel
theorem dX0_allUntrue_26 : decode cX0_allUntrue 26 = .ok (.goto 12, 3) := by decide +kernel
theorem dX0_allUntrue_29 : decode cX0_allUntrue 29 = .ok (.aload_n 0, 1) := by decide +kernel
theorem dX0_allUntrue_30 : decode cX0_allUntrue 30 = .ok (.getfield 13, 3) := by decide +kernel
theorem dX0_allUntrue_33 : decode cX0_allUntrue 33 = .ok (.iload_n 2, 1) := by decide +kernel
theorem dX0_allUntrue_34 : decode cX0_allUntrue 34 = .ok (.aaload, 1) := by decide +kernel
theorem dX0_allUntrue_35 : decode cX0_allUntrue 35 = .ok (.invokevirtual 163, 3) := by decide +kernel
theorem dX0_allUntrue_38 : decode cX0_allUntrue 38 = .ok (.iadd, 1) := by decide +kernel
theorem dX0_allUntrue_39 : decode cX0_allUntrue 39 = .ok (.istore_n 1, 1) := by decide +kernel
theorem dX0_allUntrue_40 : decode cX0_allUntrue 40 = .ok (.iinc 2 1, 3) := by decide +kernel
theorem dX0_allUntrue_43 : decode cX0_allUntrue 43 = .ok (.goto (-39), 3) := by decide +kernel
theorem dX0_allUntrue_46 : decode cX0_allUntrue 46 = .ok (.iload_n 1, 1) := by decide +kernel
theorem dX0_allUntrue_47 : decode cX0_allUntrue 47 = .ok (.ireturn, 1) := by decide +kernel
def L_X0_allUntrue_4 : Nat → Nat → Int32 → Int32 → Mem → Option Int32
  | 0, _, _, _, _ => none
  | n + 1, a0, x1, x2, M => if (mI M a0 1) ≤ x2 then some x1 else gd (inR x2 30) (if (mI M ((a0 + 1) + 23 + 2 * x2.toNatClampNeg) 9) = 0 then L_X0_allUntrue_4 n a0 (x1 + (f_X1_untruth ((a0 + 1) + 23 + 2 * x2.toNatClampNeg) M)) (x2 + 1) M else L_X0_allUntrue_4 n a0 (x1 + (0 : Int32)) (x2 + 1) M)
def f_X0_allUntrue (a0 : Nat) (M : Mem) : Option Int32 := L_X0_allUntrue_4 FU a0 (0 : Int32) (0 : Int32) M
set_option maxRecDepth 100000 in
set_option maxHeartbeats 4000000 in
theorem l_X0_allUntrue_4 (Z : Sys) (X : Cx) (hR : xR X = rm_X0_allUntrue) {q : Int32} {M : Mem} (hq : RetOk Z X (some .int) False (PostI q M) 0 0) : ∀ (n : Nat) (a0 : Nat) (x1 : Int32) (x2 : Int32) (hs : St M) (k_a0 : K0[a0]? = some (0, 12)) (hf : L_X0_allUntrue_4 n a0 x1 x2 M = some q), G Z X Y_X0_allUntrue False 0 0 4 [(0, .ref (zs Z + a0)), (1, .int x1), (2, .int x2)] [] M := by
  intro n
  induction n with
  | zero => intro a0 x1 x2 hs k_a0 hf; cases hf
  | succ n ih =>
    intro a0 x1 x2 hs k_a0 hf
    unfold L_X0_allUntrue_4 at hf
    refine G.iload_n 4 2 dX0_allUntrue_4 rfl rfl ?_
    refine G.aload_n 5 0 dX0_allUntrue_5 rfl rfl ?_
    refine G.geti 6 ck_0 1 (hs.k k_a0) (by decide) (by decide +kernel) wd_261 dX0_allUntrue_6 ?_
    refine G.icmp_ge 9 46 dX0_allUntrue_9 (by decide) (fun h1 => ?_) (fun h1 => ?_)
    · replace hf := (if_pos h1).symm.trans hf
      refine G.iload_n 46 1 dX0_allUntrue_46 rfl rfl ?_
      cases hf
      exact G.rI 47 hq dX0_allUntrue_47 hs
    · replace hf := (if_neg h1).symm.trans hf
      refine G.iload_n 12 1 dX0_allUntrue_12 rfl rfl ?_
      refine G.aload_n 13 0 dX0_allUntrue_13 rfl rfl ?_
      refine G.getp 14 ck_0 0 (a0 + 1) (hs.k k_a0) (pt_0_0 hs k_a0).1 (by decide) (by decide +kernel) wd_257 dX0_allUntrue_14 ?_
      refine G.iload_n 17 2 dX0_allUntrue_17 rfl rfl ?_
      obtain ⟨g2, hf⟩ := gd_e hf
      refine G.aa 18 x2.toNatClampNeg ((a0 + 1) + 23 + 2 * x2.toNatClampNeg) (hs.k (pt_0_0 hs k_a0).2) (by decide) rfl rfl g2 rfl (pa_13 hs (pt_0_0 hs k_a0).2 (inlt g2)).1 dX0_allUntrue_18 ?_
      refine G.geti 19 ck_1 9 (hs.k (pa_13 hs (pt_0_0 hs k_a0).2 (inlt g2)).2) (by decide) (by decide +kernel) wd_222 dX0_allUntrue_19 ?_
      refine G.if_eq 22 29 dX0_allUntrue_22 (by decide) (fun h3 => ?_) (fun h3 => ?_)
      · replace hf := (if_pos h3).symm.trans hf
        refine G.aload_n 29 0 dX0_allUntrue_29 rfl rfl ?_
        refine G.getp 30 ck_0 0 (a0 + 1) (hs.k k_a0) (pt_0_0 hs k_a0).1 (by decide) (by decide +kernel) wd_257 dX0_allUntrue_30 ?_
        refine G.iload_n 33 2 dX0_allUntrue_33 rfl rfl ?_
        refine G.aa 34 x2.toNatClampNeg ((a0 + 1) + 23 + 2 * x2.toNatClampNeg) (hs.k (pt_0_0 hs k_a0).2) (by decide) rfl rfl g2 rfl (pa_13 hs (pt_0_0 hs k_a0).2 (inlt g2)).1 dX0_allUntrue_34 ?_
        refine G.cvI 35 (As := []) ck_1 (hs.k (pa_13 hs (pt_0_0 hs k_a0).2 (inlt g2)).2) (c_X1_untruth Z hs ((a0 + 1) + 23 + 2 * x2.toNatClampNeg) (pa_13 hs (pt_0_0 hs k_a0).2 (inlt g2)).2 rfl) mk_X1_untruth vk_X1_untruth rfl wd_750 hR (by decide +kernel) ⟨rfl, rfl⟩ rfl (Nat.le_of_ble_eq_true rfl) dX0_allUntrue_35 (fun hs4 => ?_)
        refine G.iadd 38 dX0_allUntrue_38 ?_
        refine G.istore_n 39 [(1, .int (x1 + (f_X1_untruth ((a0 + 1) + 23 + 2 * x2.toNatClampNeg) M))), (0, .ref (zs Z + a0)), (2, .int x2)] dX0_allUntrue_39 rfl (Nat.le_of_ble_eq_true rfl) rfl ?_
        refine G.iinc 40 2 (x2 + 1) [(2, .int (x2 + 1)), (1, .int (x1 + (f_X1_untruth ((a0 + 1) + 23 + 2 * x2.toNatClampNeg) M))), (0, .ref (zs Z + a0))] dX0_allUntrue_40 rfl (congrArg (fun z => x2 + z) (by decide +kernel)) (Nat.le_of_ble_eq_true rfl) rfl ?_
        refine G.goto 43 4 dX0_allUntrue_43 (by decide) ?_
        refine G.locs [2, 1, 0] rfl ?_
        exact ih a0 (x1 + (f_X1_untruth ((a0 + 1) + 23 + 2 * x2.toNatClampNeg) M)) (x2 + 1) hs4 k_a0 hf
      · replace hf := (if_neg h3).symm.trans hf
        refine G.iconst 25 (0 : Int32) dX0_allUntrue_25 (by decide +kernel) ?_
        refine G.goto 26 38 dX0_allUntrue_26 (by decide) ?_
        refine G.iadd 38 dX0_allUntrue_38 ?_
        refine G.istore_n 39 [(1, .int (x1 + (0 : Int32))), (0, .ref (zs Z + a0)), (2, .int x2)] dX0_allUntrue_39 rfl (Nat.le_of_ble_eq_true rfl) rfl ?_
        refine G.iinc 40 2 (x2 + 1) [(2, .int (x2 + 1)), (1, .int (x1 + (0 : Int32))), (0, .ref (zs Z + a0))] dX0_allUntrue_40 rfl (congrArg (fun z => x2 + z) (by decide +kernel)) (Nat.le_of_ble_eq_true rfl) rfl ?_
        refine G.goto 43 4 dX0_allUntrue_43 (by decide) ?_
        refine G.locs [2, 1, 0] rfl ?_
        exact ih a0 (x1 + (0 : Int32)) (x2 + 1) hs k_a0 hf
set_option maxRecDepth 100000 in
set_option maxHeartbeats 4000000 in
theorem c_X0_allUntrue (Z : Sys) {M : Mem} (hs : St M) (a0 : Nat) (k_a0 : K0[a0]? = some (0, 12)) {q : Int32} (hf : f_X0_allUntrue a0 M = some q) : Ct Z yX0_allUntrue cX0_allUntrue 3 (some .int) rm_X0_allUntrue [.ref (zs Z + a0)] M False (PostI q M) := by
  refine Ct.of (by decide +kernel) (Nat.le_of_ble_eq_true rfl) (fun X hR hq _ => ?_)
  show G Z X Y_X0_allUntrue False 0 0 0 [(0, .ref (zs Z + a0))] [] M
  replace hq : RetOk Z X (some .int) False (PostI q M) 0 0 := hq
  unfold f_X0_allUntrue at hf
  refine G.iconst 0 (0 : Int32) dX0_allUntrue_0 (by decide +kernel) ?_
  refine G.istore_n 1 [(1, .int (0 : Int32)), (0, .ref (zs Z + a0))] dX0_allUntrue_1 rfl (Nat.le_of_ble_eq_true rfl) rfl ?_
  refine G.iconst 2 (0 : Int32) dX0_allUntrue_2 (by decide +kernel) ?_
  refine G.istore_n 3 [(2, .int (0 : Int32)), (1, .int (0 : Int32)), (0, .ref (zs Z + a0))] dX0_allUntrue_3 rfl (Nat.le_of_ble_eq_true rfl) rfl ?_
  refine G.locs [2, 1, 0] rfl ?_
  exact l_X0_allUntrue_4 Z X hR hq FU a0 (0 : Int32) (0 : Int32) hs k_a0 hf
abbrev Y_X0_writtenCame : My := (cX0_writtenCame, RX0, 4)
def rm_X0_writtenCame : Room := { frames := 1, cells := 0, slots := 0, locals := 200 }
theorem dX0_writtenCame_0 : decode cX0_writtenCame 0 = .ok (.iconst 0, 1) := by decide +kernel
theorem dX0_writtenCame_1 : decode cX0_writtenCame 1 = .ok (.istore_n 2, 1) := by decide +kernel
theorem dX0_writtenCame_2 : decode cX0_writtenCame 2 = .ok (.iconst 0, 1) := by decide +kernel
theorem dX0_writtenCame_3 : decode cX0_writtenCame 3 = .ok (.istore_n 3, 1) := by decide +kernel
theorem dX0_writtenCame_4 : decode cX0_writtenCame 4 = .ok (.iload_n 3, 1) := by decide +kernel
theorem dX0_writtenCame_5 : decode cX0_writtenCame 5 = .ok (.aload_n 0, 1) := by decide +kernel
theorem dX0_writtenCame_6 : decode cX0_writtenCame 6 = .ok (.getfield 53, 3) := by decide +kernel
theorem dX0_writtenCame_9 : decode cX0_writtenCame 9 = .ok (.if_icmp .ge 50, 3) := by decide +kernel
theorem dX0_writtenCame_12 : decode cX0_writtenCame 12 = .ok (.iload_n 2, 1) := by decide +kernel
theorem dX0_writtenCame_13 : decode cX0_writtenCame 13 = .ok (.aload_n 0, 1) := by decide +kernel
theorem dX0_writtenCame_14 : decode cX0_writtenCame 14 = .ok (.getfield 13, 3) := by decide +kernel
theorem dX0_writtenCame_17 : decode cX0_writtenCame 17 = .ok (.iload_n 3, 1) := by decide +kernel
theorem dX0_writtenCame_18 : decode cX0_writtenCame 18 = .ok (.aaload, 1) := by decide +kernel
theorem dX0_writtenCame_19 : decode cX0_writtenCame 19 = .ok (.getfield 78, 3) := by decide +kernel
theorem dX0_writtenCame_22 : decode cX0_writtenCame 22 = .ok (.ifCond .ne 28, 3) := by decide +kernel
theorem dX0_writtenCame_25 : decode cX0_writtenCame 25 = .ok (.aload_n 0, 1) := by decide +kernel
theorem dX0_writtenCame_26 : decode cX0_writtenCame 26 = .ok (.getfield 13, 3) := by decide +kernel
theorem dX0_writtenCame_29 : decode cX0_writtenCame 29 = .ok (.iload_n 3, 1) := by decide +kernel
theorem dX0_writtenCame_30 : decode cX0_writtenCame 30 = .ok (.aaload, 1) := by decide +kernel
theorem dX0_writtenCame_31 : decode cX0_writtenCame 31 = .ok (.getfield 142, 3) := by decide +kernel
theorem dX0_writtenCame_34 : decode cX0_writtenCame 34 = .ok (.iload_n 1, 1) := by decide +kernel
theorem dX0_writtenCame_35 : decode cX0_writtenCame 35 = .ok (.if_icmp .ne 15, 3) := by decide +kernel
theorem dX0_writtenCame_38 : decode cX0_writtenCame 38 = .ok (.aload_n 0, 1) := by decide +kernel
theorem dX0_writtenCame_39 : decode cX0_writtenCame 39 = .ok (.getfield 13, 3) := by decide +kernel
theorem dX0_writtenCame_42 : decode cX0_writtenCame 42 = .ok (.iload_n 3, 1) := by decide +kernel
theorem dX0_writtenCame_43 : decode cX0_writtenCame 43 = .ok (.aaload, 1) := by decide +kernel
theorem dX0_writtenCame_44 : decode cX0_writtenCame 44 = .ok (.getfield 115, 3) := by decide +kernel
theorem dX0_writtenCame_47 : decode cX0_writtenCame 47 = .ok (.goto 4, 3) := by decide +kernel
theorem dX0_writtenCame_50 : decode cX0_writtenCame 50 = .ok (.iconst 0, 1) := by decide +kernel
theorem dX0_writtenCame_51 : decode cX0_writtenCame 51 = .ok (.iadd, 1) := by decide +kernel
theorem dX0_writtenCame_52 : decode cX0_writtenCame 52 = .ok (.istore_n 2, 1) := by decide +kernel
theorem dX0_writtenCame_53 : decode cX0_writtenCame 53 = .ok (.iinc 3 1, 3) := by decide +kernel
theorem dX0_writtenCame_56 : decode cX0_writtenCame 56 = .ok (.goto (-52), 3) := by decide +kernel
theorem dX0_writtenCame_59 : decode cX0_writtenCame 59 = .ok (.iload_n 2, 1) := by decide +kernel
theorem dX0_writtenCame_60 : decode cX0_writtenCame 60 = .ok (.ireturn, 1) := by decide +kernel
def L_X0_writtenCame_4 : Nat → Nat → Int32 → Int32 → Int32 → Mem → Option Int32
  | 0, _, _, _, _, _ => none
  | n + 1, a0, x1, x2, x3, M => if (mI M a0 1) ≤ x3 then some x2 else gd (inR x3 30) (if (mI M ((a0 + 1) + 23 + 2 * x3.toNatClampNeg) 9) = 0 then if (mI M ((a0 + 1) + 23 + 2 * x3.toNatClampNeg) 4) = x1 then L_X0_writtenCame_4 n a0 x1 (x2 + (mI M ((a0 + 1) + 23 + 2 * x3.toNatClampNeg) 10)) (x3 + 1) M else L_X0_writtenCame_4 n a0 x1 (x2 + (0 : Int32)) (x3 + 1) M else L_X0_writtenCame_4 n a0 x1 (x2 + (0 : Int32)) (x3 + 1) M)
def f_X0_writtenCame (a0 : Nat) (x1 : Int32) (M : Mem) : Option Int32 := L_X0_writtenCame_4 FU a0 x1 (0 : Int32) (0 : Int32) M
set_option maxRecDepth 100000 in
set_option maxHeartbeats 4000000 in
theorem l_X0_writtenCame_4 (Z : Sys) (X : Cx) (hR : xR X = rm_X0_writtenCame) {q : Int32} {M : Mem} (hq : RetOk Z X (some .int) False (PostI q M) 0 0) : ∀ (n : Nat) (a0 : Nat) (x1 : Int32) (x2 : Int32) (x3 : Int32) (hs : St M) (k_a0 : K0[a0]? = some (0, 12)) (hf : L_X0_writtenCame_4 n a0 x1 x2 x3 M = some q), G Z X Y_X0_writtenCame False 0 0 4 [(0, .ref (zs Z + a0)), (1, .int x1), (2, .int x2), (3, .int x3)] [] M := by
  intro n
  induction n with
  | zero => intro a0 x1 x2 x3 hs k_a0 hf; cases hf
  | succ n ih =>
    intro a0 x1 x2 x3 hs k_a0 hf
    unfold L_X0_writtenCame_4 at hf
    refine G.iload_n 4 3 dX0_writtenCame_4 rfl rfl ?_
    refine G.aload_n 5 0 dX0_writtenCame_5 rfl rfl ?_
    refine G.geti 6 ck_0 1 (hs.k k_a0) (by decide) (by decide +kernel) wd_261 dX0_writtenCame_6 ?_
    refine G.icmp_ge 9 59 dX0_writtenCame_9 (by decide) (fun h1 => ?_) (fun h1 => ?_)
    · replace hf := (if_pos h1).symm.trans hf
      refine G.iload_n 59 2 dX0_writtenCame_59 rfl rfl ?_
      cases hf
      exact G.rI 60 hq dX0_writtenCame_60 hs
    · replace hf := (if_neg h1).symm.trans hf
      refine G.iload_n 12 2 dX0_writtenCame_12 rfl rfl ?_
      refine G.aload_n 13 0 dX0_writtenCame_13 rfl rfl ?_
      refine G.getp 14 ck_0 0 (a0 + 1) (hs.k k_a0) (pt_0_0 hs k_a0).1 (by decide) (by decide +kernel) wd_257 dX0_writtenCame_14 ?_
      refine G.iload_n 17 3 dX0_writtenCame_17 rfl rfl ?_
      obtain ⟨g2, hf⟩ := gd_e hf
      refine G.aa 18 x3.toNatClampNeg ((a0 + 1) + 23 + 2 * x3.toNatClampNeg) (hs.k (pt_0_0 hs k_a0).2) (by decide) rfl rfl g2 rfl (pa_13 hs (pt_0_0 hs k_a0).2 (inlt g2)).1 dX0_writtenCame_18 ?_
      refine G.geti 19 ck_1 9 (hs.k (pa_13 hs (pt_0_0 hs k_a0).2 (inlt g2)).2) (by decide) (by decide +kernel) wd_222 dX0_writtenCame_19 ?_
      refine G.if_ne 22 50 dX0_writtenCame_22 (by decide) (fun h3 => ?_) (fun h3 => ?_)
      · replace hf := (if_neg h3).symm.trans hf
        refine G.iconst 50 (0 : Int32) dX0_writtenCame_50 (by decide +kernel) ?_
        refine G.iadd 51 dX0_writtenCame_51 ?_
        refine G.istore_n 52 [(2, .int (x2 + (0 : Int32))), (0, .ref (zs Z + a0)), (1, .int x1), (3, .int x3)] dX0_writtenCame_52 rfl (Nat.le_of_ble_eq_true rfl) rfl ?_
        refine G.iinc 53 3 (x3 + 1) [(3, .int (x3 + 1)), (2, .int (x2 + (0 : Int32))), (0, .ref (zs Z + a0)), (1, .int x1)] dX0_writtenCame_53 rfl (congrArg (fun z => x3 + z) (by decide +kernel)) (Nat.le_of_ble_eq_true rfl) rfl ?_
        refine G.goto 56 4 dX0_writtenCame_56 (by decide) ?_
        refine G.locs [2, 3, 1, 0] rfl ?_
        exact ih a0 x1 (x2 + (0 : Int32)) (x3 + 1) hs k_a0 hf
      · replace hf := (if_pos h3).symm.trans hf
        refine G.aload_n 25 0 dX0_writtenCame_25 rfl rfl ?_
        refine G.getp 26 ck_0 0 (a0 + 1) (hs.k k_a0) (pt_0_0 hs k_a0).1 (by decide) (by decide +kernel) wd_257 dX0_writtenCame_26 ?_
        refine G.iload_n 29 3 dX0_writtenCame_29 rfl rfl ?_
        refine G.aa 30 x3.toNatClampNeg ((a0 + 1) + 23 + 2 * x3.toNatClampNeg) (hs.k (pt_0_0 hs k_a0).2) (by decide) rfl rfl g2 rfl (pa_13 hs (pt_0_0 hs k_a0).2 (inlt g2)).1 dX0_writtenCame_30 ?_
        refine G.geti 31 ck_1 4 (hs.k (pa_13 hs (pt_0_0 hs k_a0).2 (inlt g2)).2) (by decide) (by decide +kernel) wd_202 dX0_writtenCame_31 ?_
        refine G.iload_n 34 1 dX0_writtenCame_34 rfl rfl ?_
        refine G.icmp_ne 35 50 dX0_writtenCame_35 (by decide) (fun h4 => ?_) (fun h4 => ?_)
        · replace hf := (if_neg h4).symm.trans hf
          refine G.iconst 50 (0 : Int32) dX0_writtenCame_50 (by decide +kernel) ?_
          refine G.iadd 51 dX0_writtenCame_51 ?_
          refine G.istore_n 52 [(2, .int (x2 + (0 : Int32))), (0, .ref (zs Z + a0)), (1, .int x1), (3, .int x3)] dX0_writtenCame_52 rfl (Nat.le_of_ble_eq_true rfl) rfl ?_
          refine G.iinc 53 3 (x3 + 1) [(3, .int (x3 + 1)), (2, .int (x2 + (0 : Int32))), (0, .ref (zs Z + a0)), (1, .int x1)] dX0_writtenCame_53 rfl (congrArg (fun z => x3 + z) (by decide +kernel)) (Nat.le_of_ble_eq_true rfl) rfl ?_
          refine G.goto 56 4 dX0_writtenCame_56 (by decide) ?_
          refine G.locs [2, 3, 1, 0] rfl ?_
          exact ih a0 x1 (x2 + (0 : Int32)) (x3 + 1) hs k_a0 hf
        · replace hf := (if_pos h4).symm.trans hf
          refine G.aload_n 38 0 dX0_writtenCame_38 rfl rfl ?_
          refine G.getp 39 ck_0 0 (a0 + 1) (hs.k k_a0) (pt_0_0 hs k_a0).1 (by decide) (by decide +kernel) wd_257 dX0_writtenCame_39 ?_
          refine G.iload_n 42 3 dX0_writtenCame_42 rfl rfl ?_
          refine G.aa 43 x3.toNatClampNeg ((a0 + 1) + 23 + 2 * x3.toNatClampNeg) (hs.k (pt_0_0 hs k_a0).2) (by decide) rfl rfl g2 rfl (pa_13 hs (pt_0_0 hs k_a0).2 (inlt g2)).1 dX0_writtenCame_43 ?_
          refine G.geti 44 ck_1 10 (hs.k (pa_13 hs (pt_0_0 hs k_a0).2 (inlt g2)).2) (by decide) (by decide +kernel) wd_227 dX0_writtenCame_44 ?_
          refine G.goto 47 51 dX0_writtenCame_47 (by decide) ?_
          refine G.iadd 51 dX0_writtenCame_51 ?_
          refine G.istore_n 52 [(2, .int (x2 + (mI M ((a0 + 1) + 23 + 2 * x3.toNatClampNeg) 10))), (0, .ref (zs Z + a0)), (1, .int x1), (3, .int x3)] dX0_writtenCame_52 rfl (Nat.le_of_ble_eq_true rfl) rfl ?_
          refine G.iinc 53 3 (x3 + 1) [(3, .int (x3 + 1)), (2, .int (x2 + (mI M ((a0 + 1) + 23 + 2 * x3.toNatClampNeg) 10))), (0, .ref (zs Z + a0)), (1, .int x1)] dX0_writtenCame_53 rfl (congrArg (fun z => x3 + z) (by decide +kernel)) (Nat.le_of_ble_eq_true rfl) rfl ?_
          refine G.goto 56 4 dX0_writtenCame_56 (by decide) ?_
          refine G.locs [2, 3, 1, 0] rfl ?_
          exact ih a0 x1 (x2 + (mI M ((a0 + 1) + 23 + 2 * x3.toNatClampNeg) 10)) (x3 + 1) hs k_a0 hf
set_option maxRecDepth 100000 in
set_option maxHeartbeats 4000000 in
theorem c_X0_writtenCame (Z : Sys) {M : Mem} (hs : St M) (a0 : Nat) (x1 : Int32) (k_a0 : K0[a0]? = some (0, 12)) {q : Int32} (hf : f_X0_writtenCame a0 x1 M = some q) : Ct Z yX0_writtenCame cX0_writtenCame 4 (some .int) rm_X0_writtenCame [.ref (zs Z + a0), .int x1] M False (PostI q M) := by
  refine Ct.of (by decide +kernel) (Nat.le_of_ble_eq_true rfl) (fun X hR hq _ => ?_)
  show G Z X Y_X0_writtenCame False 0 0 0 [(0, .ref (zs Z + a0)), (1, .int x1)] [] M
  replace hq : RetOk Z X (some .int) False (PostI q M) 0 0 := hq
  unfold f_X0_writtenCame at hf
  refine G.iconst 0 (0 : Int32) dX0_writtenCame_0 (by decide +kernel) ?_
  refine G.istore_n 1 [(2, .int (0 : Int32)), (0, .ref (zs Z + a0)), (1, .int x1)] dX0_writtenCame_1 rfl (Nat.le_of_ble_eq_true rfl) rfl ?_
  refine G.iconst 2 (0 : Int32) dX0_writtenCame_2 (by decide +kernel) ?_
  refine G.istore_n 3 [(3, .int (0 : Int32)), (2, .int (0 : Int32)), (0, .ref (zs Z + a0)), (1, .int x1)] dX0_writtenCame_3 rfl (Nat.le_of_ble_eq_true rfl) rfl ?_
  refine G.locs [2, 3, 1, 0] rfl ?_
  exact l_X0_writtenCame_4 Z X hR hq FU a0 x1 (0 : Int32) (0 : Int32) hs k_a0 hf
abbrev Y_X0_allWrittenCame : My := (cX0_allWrittenCame, RX0, 3)
def rm_X0_allWrittenCame : Room := { frames := 2, cells := 0, slots := 0, locals := 223 }
theorem dX0_allWrittenCame_0 : decode cX0_allWrittenCame 0 = .ok (.iconst 0, 1) := by decide +kernel
theorem dX0_allWrittenCame_1 : decode cX0_allWrittenCame 1 = .ok (.istore_n 1, 1) := by decide +kernel
theorem dX0_allWrittenCame_2 : decode cX0_allWrittenCame 2 = .ok (.iconst 0, 1) := by decide +kernel
theorem dX0_allWrittenCame_3 : decode cX0_allWrittenCame 3 = .ok (.istore_n 2, 1) := by decide +kernel
theorem dX0_allWrittenCame_4 : decode cX0_allWrittenCame 4 = .ok (.iload_n 2, 1) := by decide +kernel
theorem dX0_allWrittenCame_5 : decode cX0_allWrittenCame 5 = .ok (.iconst 4, 1) := by decide +kernel
theorem dX0_allWrittenCame_6 : decode cX0_allWrittenCame 6 = .ok (.if_icmp .ge 17, 3) := by decide +kernel
theorem dX0_allWrittenCame_9 : decode cX0_allWrittenCame 9 = .ok (.iload_n 1, 1) := by decide +kernel
theorem dX0_allWrittenCame_10 : decode cX0_allWrittenCame 10 = .ok (.aload_n 0, 1) := by decide +kernel
theorem dX0_allWrittenCame_11 : decode cX0_allWrittenCame 11 = .ok (.iload_n 2, 1) := by decide +kernel
theorem dX0_allWrittenCame_12 : decode cX0_allWrittenCame 12 = .ok (.invokevirtual 145, 3) := by decide +kernel
theorem dX0_allWrittenCame_15 : decode cX0_allWrittenCame 15 = .ok (.iadd, 1) := by decide +kernel
theorem dX0_allWrittenCame_16 : decode cX0_allWrittenCame 16 = .ok (.istore_n 1, 1) := by decide +kernel
theorem dX0_allWrittenCame_17 : decode cX0_allWrittenCame 17 = .ok (.iinc 2 1, 3) := by decide +kernel
theorem dX0_allWrittenCame_20 : decode cX0_allWrittenCame 20 = .ok (.goto (-16), 3) := by decide +kernel
theorem dX0_allWrittenCame_23 : decode cX0_allWrittenCame 23 = .ok (.iload_n 1, 1) := by decide +kernel
theorem dX0_allWrittenCame_24 : decode cX0_allWrittenCame 24 = .ok (.ireturn, 1) := by decide +kernel
def L_X0_allWrittenCame_4 : Nat → Nat → Int32 → Int32 → Mem → Option Int32
  | 0, _, _, _, _ => none
  | n + 1, a0, x1, x2, M => if (4 : Int32) ≤ x2 then some x1 else (f_X0_writtenCame a0 x2 M).bind fun q4 => L_X0_allWrittenCame_4 n a0 (x1 + q4) (x2 + 1) M
def f_X0_allWrittenCame (a0 : Nat) (M : Mem) : Option Int32 := L_X0_allWrittenCame_4 FU a0 (0 : Int32) (0 : Int32) M
set_option maxRecDepth 100000 in
set_option maxHeartbeats 4000000 in
theorem l_X0_allWrittenCame_4 (Z : Sys) (X : Cx) (hR : xR X = rm_X0_allWrittenCame) {q : Int32} {M : Mem} (hq : RetOk Z X (some .int) False (PostI q M) 0 0) : ∀ (n : Nat) (a0 : Nat) (x1 : Int32) (x2 : Int32) (hs : St M) (k_a0 : K0[a0]? = some (0, 12)) (hf : L_X0_allWrittenCame_4 n a0 x1 x2 M = some q), G Z X Y_X0_allWrittenCame False 0 0 4 [(0, .ref (zs Z + a0)), (1, .int x1), (2, .int x2)] [] M := by
  intro n
  induction n with
  | zero => intro a0 x1 x2 hs k_a0 hf; cases hf
  | succ n ih =>
    intro a0 x1 x2 hs k_a0 hf
    unfold L_X0_allWrittenCame_4 at hf
    refine G.iload_n 4 2 dX0_allWrittenCame_4 rfl rfl ?_
    refine G.iconst 5 (4 : Int32) dX0_allWrittenCame_5 (by decide +kernel) ?_
    refine G.icmp_ge 6 23 dX0_allWrittenCame_6 (by decide) (fun h1 => ?_) (fun h1 => ?_)
    · replace hf := (if_pos h1).symm.trans hf
      refine G.iload_n 23 1 dX0_allWrittenCame_23 rfl rfl ?_
      cases hf
      exact G.rI 24 hq dX0_allWrittenCame_24 hs
    · replace hf := (if_neg h1).symm.trans hf
      refine G.iload_n 9 1 dX0_allWrittenCame_9 rfl rfl ?_
      refine G.aload_n 10 0 dX0_allWrittenCame_10 rfl rfl ?_
      refine G.iload_n 11 2 dX0_allWrittenCame_11 rfl rfl ?_
      obtain ⟨q4, e5, hf⟩ := bd_e hf
      refine G.cvI 12 (As := [.int x2]) ck_0 (hs.k k_a0) (c_X0_writtenCame Z hs a0 x2 k_a0 e5) mk_X0_writtenCame vk_X0_writtenCame rfl wd_710 hR (by decide +kernel) ⟨rfl, rfl⟩ rfl (Nat.le_of_ble_eq_true rfl) dX0_allWrittenCame_12 (fun hs2 => ?_)
      refine G.iadd 15 dX0_allWrittenCame_15 ?_
      refine G.istore_n 16 [(1, .int (x1 + q4)), (0, .ref (zs Z + a0)), (2, .int x2)] dX0_allWrittenCame_16 rfl (Nat.le_of_ble_eq_true rfl) rfl ?_
      refine G.iinc 17 2 (x2 + 1) [(2, .int (x2 + 1)), (1, .int (x1 + q4)), (0, .ref (zs Z + a0))] dX0_allWrittenCame_17 rfl (congrArg (fun z => x2 + z) (by decide +kernel)) (Nat.le_of_ble_eq_true rfl) rfl ?_
      refine G.goto 20 4 dX0_allWrittenCame_20 (by decide) ?_
      refine G.locs [2, 1, 0] rfl ?_
      exact ih a0 (x1 + q4) (x2 + 1) hs2 k_a0 hf
set_option maxRecDepth 100000 in
set_option maxHeartbeats 4000000 in
theorem c_X0_allWrittenCame (Z : Sys) {M : Mem} (hs : St M) (a0 : Nat) (k_a0 : K0[a0]? = some (0, 12)) {q : Int32} (hf : f_X0_allWrittenCame a0 M = some q) : Ct Z yX0_allWrittenCame cX0_allWrittenCame 3 (some .int) rm_X0_allWrittenCame [.ref (zs Z + a0)] M False (PostI q M) := by
  refine Ct.of (by decide +kernel) (Nat.le_of_ble_eq_true rfl) (fun X hR hq _ => ?_)
  show G Z X Y_X0_allWrittenCame False 0 0 0 [(0, .ref (zs Z + a0))] [] M
  replace hq : RetOk Z X (some .int) False (PostI q M) 0 0 := hq
  unfold f_X0_allWrittenCame at hf
  refine G.iconst 0 (0 : Int32) dX0_allWrittenCame_0 (by decide +kernel) ?_
  refine G.istore_n 1 [(1, .int (0 : Int32)), (0, .ref (zs Z + a0))] dX0_allWrittenCame_1 rfl (Nat.le_of_ble_eq_true rfl) rfl ?_
  refine G.iconst 2 (0 : Int32) dX0_allWrittenCame_2 (by decide +kernel) ?_
  refine G.istore_n 3 [(2, .int (0 : Int32)), (1, .int (0 : Int32)), (0, .ref (zs Z + a0))] dX0_allWrittenCame_3 rfl (Nat.le_of_ble_eq_true rfl) rfl ?_
  refine G.locs [2, 1, 0] rfl ?_
  exact l_X0_allWrittenCame_4 Z X hR hq FU a0 (0 : Int32) (0 : Int32) hs k_a0 hf
abbrev Y_X0_writtenOurs : My := (cX0_writtenOurs, RX0, 4)
def rm_X0_writtenOurs : Room := { frames := 1, cells := 0, slots := 0, locals := 200 }
theorem dX0_writtenOurs_0 : decode cX0_writtenOurs 0 = .ok (.iconst 0, 1) := by decide +kernel
theorem dX0_writtenOurs_1 : decode cX0_writtenOurs 1 = .ok (.istore_n 2, 1) := by decide +kernel
theorem dX0_writtenOurs_2 : decode cX0_writtenOurs 2 = .ok (.iconst 0, 1) := by decide +kernel
theorem dX0_writtenOurs_3 : decode cX0_writtenOurs 3 = .ok (.istore_n 3, 1) := by decide +kernel
theorem dX0_writtenOurs_4 : decode cX0_writtenOurs 4 = .ok (.iload_n 3, 1) := by decide +kernel
theorem dX0_writtenOurs_5 : decode cX0_writtenOurs 5 = .ok (.aload_n 0, 1) := by decide +kernel
theorem dX0_writtenOurs_6 : decode cX0_writtenOurs 6 = .ok (.getfield 53, 3) := by decide +kernel
theorem dX0_writtenOurs_9 : decode cX0_writtenOurs 9 = .ok (.if_icmp .ge 50, 3) := by decide +kernel
theorem dX0_writtenOurs_12 : decode cX0_writtenOurs 12 = .ok (.iload_n 2, 1) := by decide +kernel
theorem dX0_writtenOurs_13 : decode cX0_writtenOurs 13 = .ok (.aload_n 0, 1) := by decide +kernel
theorem dX0_writtenOurs_14 : decode cX0_writtenOurs 14 = .ok (.getfield 13, 3) := by decide +kernel
theorem dX0_writtenOurs_17 : decode cX0_writtenOurs 17 = .ok (.iload_n 3, 1) := by decide +kernel
theorem dX0_writtenOurs_18 : decode cX0_writtenOurs 18 = .ok (.aaload, 1) := by decide +kernel
theorem dX0_writtenOurs_19 : decode cX0_writtenOurs 19 = .ok (.getfield 78, 3) := by decide +kernel
theorem dX0_writtenOurs_22 : decode cX0_writtenOurs 22 = .ok (.ifCond .ne 28, 3) := by decide +kernel
theorem dX0_writtenOurs_25 : decode cX0_writtenOurs 25 = .ok (.aload_n 0, 1) := by decide +kernel
theorem dX0_writtenOurs_26 : decode cX0_writtenOurs 26 = .ok (.getfield 13, 3) := by decide +kernel
theorem dX0_writtenOurs_29 : decode cX0_writtenOurs 29 = .ok (.iload_n 3, 1) := by decide +kernel
theorem dX0_writtenOurs_30 : decode cX0_writtenOurs 30 = .ok (.aaload, 1) := by decide +kernel
theorem dX0_writtenOurs_31 : decode cX0_writtenOurs 31 = .ok (.getfield 142, 3) := by decide +kernel
theorem dX0_writtenOurs_34 : decode cX0_writtenOurs 34 = .ok (.iload_n 1, 1) := by decide +kernel
theorem dX0_writtenOurs_35 : decode cX0_writtenOurs 35 = .ok (.if_icmp .ne 15, 3) := by decide +kernel
theorem dX0_writtenOurs_38 : decode cX0_writtenOurs 38 = .ok (.aload_n 0, 1) := by decide +kernel
theorem dX0_writtenOurs_39 : decode cX0_writtenOurs 39 = .ok (.getfield 13, 3) := by decide +kernel
theorem dX0_writtenOurs_42 : decode cX0_writtenOurs 42 = .ok (.iload_n 3, 1) := by decide +kernel
theorem dX0_writtenOurs_43 : decode cX0_writtenOurs 43 = .ok (.aaload, 1) := by decide +kernel
theorem dX0_writtenOurs_44 : decode cX0_writtenOurs 44 = .ok (.getfield 118, 3) := by decide +kernel
theorem dX0_writtenOurs_47 : decode cX0_writtenOurs 47 = .ok (.goto 4, 3) := by decide +kernel
theorem dX0_writtenOurs_50 : decode cX0_writtenOurs 50 = .ok (.iconst 0, 1) := by decide +kernel
theorem dX0_writtenOurs_51 : decode cX0_writtenOurs 51 = .ok (.iadd, 1) := by decide +kernel
theorem dX0_writtenOurs_52 : decode cX0_writtenOurs 52 = .ok (.istore_n 2, 1) := by decide +kernel
theorem dX0_writtenOurs_53 : decode cX0_writtenOurs 53 = .ok (.iinc 3 1, 3) := by decide +kernel
theorem dX0_writtenOurs_56 : decode cX0_writtenOurs 56 = .ok (.goto (-52), 3) := by decide +kernel
theorem dX0_writtenOurs_59 : decode cX0_writtenOurs 59 = .ok (.iload_n 2, 1) := by decide +kernel
theorem dX0_writtenOurs_60 : decode cX0_writtenOurs 60 = .ok (.ireturn, 1) := by decide +kernel
def L_X0_writtenOurs_4 : Nat → Nat → Int32 → Int32 → Int32 → Mem → Option Int32
  | 0, _, _, _, _, _ => none
  | n + 1, a0, x1, x2, x3, M => if (mI M a0 1) ≤ x3 then some x2 else gd (inR x3 30) (if (mI M ((a0 + 1) + 23 + 2 * x3.toNatClampNeg) 9) = 0 then if (mI M ((a0 + 1) + 23 + 2 * x3.toNatClampNeg) 4) = x1 then L_X0_writtenOurs_4 n a0 x1 (x2 + (mI M ((a0 + 1) + 23 + 2 * x3.toNatClampNeg) 11)) (x3 + 1) M else L_X0_writtenOurs_4 n a0 x1 (x2 + (0 : Int32)) (x3 + 1) M else L_X0_writtenOurs_4 n a0 x1 (x2 + (0 : Int32)) (x3 + 1) M)
def f_X0_writtenOurs (a0 : Nat) (x1 : Int32) (M : Mem) : Option Int32 := L_X0_writtenOurs_4 FU a0 x1 (0 : Int32) (0 : Int32) M
set_option maxRecDepth 100000 in
set_option maxHeartbeats 4000000 in
theorem l_X0_writtenOurs_4 (Z : Sys) (X : Cx) (hR : xR X = rm_X0_writtenOurs) {q : Int32} {M : Mem} (hq : RetOk Z X (some .int) False (PostI q M) 0 0) : ∀ (n : Nat) (a0 : Nat) (x1 : Int32) (x2 : Int32) (x3 : Int32) (hs : St M) (k_a0 : K0[a0]? = some (0, 12)) (hf : L_X0_writtenOurs_4 n a0 x1 x2 x3 M = some q), G Z X Y_X0_writtenOurs False 0 0 4 [(0, .ref (zs Z + a0)), (1, .int x1), (2, .int x2), (3, .int x3)] [] M := by
  intro n
  induction n with
  | zero => intro a0 x1 x2 x3 hs k_a0 hf; cases hf
  | succ n ih =>
    intro a0 x1 x2 x3 hs k_a0 hf
    unfold L_X0_writtenOurs_4 at hf
    refine G.iload_n 4 3 dX0_writtenOurs_4 rfl rfl ?_
    refine G.aload_n 5 0 dX0_writtenOurs_5 rfl rfl ?_
    refine G.geti 6 ck_0 1 (hs.k k_a0) (by decide) (by decide +kernel) wd_261 dX0_writtenOurs_6 ?_
    refine G.icmp_ge 9 59 dX0_writtenOurs_9 (by decide) (fun h1 => ?_) (fun h1 => ?_)
    · replace hf := (if_pos h1).symm.trans hf
      refine G.iload_n 59 2 dX0_writtenOurs_59 rfl rfl ?_
      cases hf
      exact G.rI 60 hq dX0_writtenOurs_60 hs
    · replace hf := (if_neg h1).symm.trans hf
      refine G.iload_n 12 2 dX0_writtenOurs_12 rfl rfl ?_
      refine G.aload_n 13 0 dX0_writtenOurs_13 rfl rfl ?_
      refine G.getp 14 ck_0 0 (a0 + 1) (hs.k k_a0) (pt_0_0 hs k_a0).1 (by decide) (by decide +kernel) wd_257 dX0_writtenOurs_14 ?_
      refine G.iload_n 17 3 dX0_writtenOurs_17 rfl rfl ?_
      obtain ⟨g2, hf⟩ := gd_e hf
      refine G.aa 18 x3.toNatClampNeg ((a0 + 1) + 23 + 2 * x3.toNatClampNeg) (hs.k (pt_0_0 hs k_a0).2) (by decide) rfl rfl g2 rfl (pa_13 hs (pt_0_0 hs k_a0).2 (inlt g2)).1 dX0_writtenOurs_18 ?_
      refine G.geti 19 ck_1 9 (hs.k (pa_13 hs (pt_0_0 hs k_a0).2 (inlt g2)).2) (by decide) (by decide +kernel) wd_222 dX0_writtenOurs_19 ?_
      refine G.if_ne 22 50 dX0_writtenOurs_22 (by decide) (fun h3 => ?_) (fun h3 => ?_)
      · replace hf := (if_neg h3).symm.trans hf
        refine G.iconst 50 (0 : Int32) dX0_writtenOurs_50 (by decide +kernel) ?_
        refine G.iadd 51 dX0_writtenOurs_51 ?_
        refine G.istore_n 52 [(2, .int (x2 + (0 : Int32))), (0, .ref (zs Z + a0)), (1, .int x1), (3, .int x3)] dX0_writtenOurs_52 rfl (Nat.le_of_ble_eq_true rfl) rfl ?_
        refine G.iinc 53 3 (x3 + 1) [(3, .int (x3 + 1)), (2, .int (x2 + (0 : Int32))), (0, .ref (zs Z + a0)), (1, .int x1)] dX0_writtenOurs_53 rfl (congrArg (fun z => x3 + z) (by decide +kernel)) (Nat.le_of_ble_eq_true rfl) rfl ?_
        refine G.goto 56 4 dX0_writtenOurs_56 (by decide) ?_
        refine G.locs [2, 3, 1, 0] rfl ?_
        exact ih a0 x1 (x2 + (0 : Int32)) (x3 + 1) hs k_a0 hf
      · replace hf := (if_pos h3).symm.trans hf
        refine G.aload_n 25 0 dX0_writtenOurs_25 rfl rfl ?_
        refine G.getp 26 ck_0 0 (a0 + 1) (hs.k k_a0) (pt_0_0 hs k_a0).1 (by decide) (by decide +kernel) wd_257 dX0_writtenOurs_26 ?_
        refine G.iload_n 29 3 dX0_writtenOurs_29 rfl rfl ?_
        refine G.aa 30 x3.toNatClampNeg ((a0 + 1) + 23 + 2 * x3.toNatClampNeg) (hs.k (pt_0_0 hs k_a0).2) (by decide) rfl rfl g2 rfl (pa_13 hs (pt_0_0 hs k_a0).2 (inlt g2)).1 dX0_writtenOurs_30 ?_
        refine G.geti 31 ck_1 4 (hs.k (pa_13 hs (pt_0_0 hs k_a0).2 (inlt g2)).2) (by decide) (by decide +kernel) wd_202 dX0_writtenOurs_31 ?_
        refine G.iload_n 34 1 dX0_writtenOurs_34 rfl rfl ?_
        refine G.icmp_ne 35 50 dX0_writtenOurs_35 (by decide) (fun h4 => ?_) (fun h4 => ?_)
        · replace hf := (if_neg h4).symm.trans hf
          refine G.iconst 50 (0 : Int32) dX0_writtenOurs_50 (by decide +kernel) ?_
          refine G.iadd 51 dX0_writtenOurs_51 ?_
          refine G.istore_n 52 [(2, .int (x2 + (0 : Int32))), (0, .ref (zs Z + a0)), (1, .int x1), (3, .int x3)] dX0_writtenOurs_52 rfl (Nat.le_of_ble_eq_true rfl) rfl ?_
          refine G.iinc 53 3 (x3 + 1) [(3, .int (x3 + 1)), (2, .int (x2 + (0 : Int32))), (0, .ref (zs Z + a0)), (1, .int x1)] dX0_writtenOurs_53 rfl (congrArg (fun z => x3 + z) (by decide +kernel)) (Nat.le_of_ble_eq_true rfl) rfl ?_
          refine G.goto 56 4 dX0_writtenOurs_56 (by decide) ?_
          refine G.locs [2, 3, 1, 0] rfl ?_
          exact ih a0 x1 (x2 + (0 : Int32)) (x3 + 1) hs k_a0 hf
        · replace hf := (if_pos h4).symm.trans hf
          refine G.aload_n 38 0 dX0_writtenOurs_38 rfl rfl ?_
          refine G.getp 39 ck_0 0 (a0 + 1) (hs.k k_a0) (pt_0_0 hs k_a0).1 (by decide) (by decide +kernel) wd_257 dX0_writtenOurs_39 ?_
          refine G.iload_n 42 3 dX0_writtenOurs_42 rfl rfl ?_
          refine G.aa 43 x3.toNatClampNeg ((a0 + 1) + 23 + 2 * x3.toNatClampNeg) (hs.k (pt_0_0 hs k_a0).2) (by decide) rfl rfl g2 rfl (pa_13 hs (pt_0_0 hs k_a0).2 (inlt g2)).1 dX0_writtenOurs_43 ?_
          refine G.geti 44 ck_1 11 (hs.k (pa_13 hs (pt_0_0 hs k_a0).2 (inlt g2)).2) (by decide) (by decide +kernel) wd_231 dX0_writtenOurs_44 ?_
          refine G.goto 47 51 dX0_writtenOurs_47 (by decide) ?_
          refine G.iadd 51 dX0_writtenOurs_51 ?_
          refine G.istore_n 52 [(2, .int (x2 + (mI M ((a0 + 1) + 23 + 2 * x3.toNatClampNeg) 11))), (0, .ref (zs Z + a0)), (1, .int x1), (3, .int x3)] dX0_writtenOurs_52 rfl (Nat.le_of_ble_eq_true rfl) rfl ?_
          refine G.iinc 53 3 (x3 + 1) [(3, .int (x3 + 1)), (2, .int (x2 + (mI M ((a0 + 1) + 23 + 2 * x3.toNatClampNeg) 11))), (0, .ref (zs Z + a0)), (1, .int x1)] dX0_writtenOurs_53 rfl (congrArg (fun z => x3 + z) (by decide +kernel)) (Nat.le_of_ble_eq_true rfl) rfl ?_
          refine G.goto 56 4 dX0_writtenOurs_56 (by decide) ?_
          refine G.locs [2, 3, 1, 0] rfl ?_
          exact ih a0 x1 (x2 + (mI M ((a0 + 1) + 23 + 2 * x3.toNatClampNeg) 11)) (x3 + 1) hs k_a0 hf
set_option maxRecDepth 100000 in
set_option maxHeartbeats 4000000 in
theorem c_X0_writtenOurs (Z : Sys) {M : Mem} (hs : St M) (a0 : Nat) (x1 : Int32) (k_a0 : K0[a0]? = some (0, 12)) {q : Int32} (hf : f_X0_writtenOurs a0 x1 M = some q) : Ct Z yX0_writtenOurs cX0_writtenOurs 4 (some .int) rm_X0_writtenOurs [.ref (zs Z + a0), .int x1] M False (PostI q M) := by
  refine Ct.of (by decide +kernel) (Nat.le_of_ble_eq_true rfl) (fun X hR hq _ => ?_)
  show G Z X Y_X0_writtenOurs False 0 0 0 [(0, .ref (zs Z + a0)), (1, .int x1)] [] M
  replace hq : RetOk Z X (some .int) False (PostI q M) 0 0 := hq
  unfold f_X0_writtenOurs at hf
  refine G.iconst 0 (0 : Int32) dX0_writtenOurs_0 (by decide +kernel) ?_
  refine G.istore_n 1 [(2, .int (0 : Int32)), (0, .ref (zs Z + a0)), (1, .int x1)] dX0_writtenOurs_1 rfl (Nat.le_of_ble_eq_true rfl) rfl ?_
  refine G.iconst 2 (0 : Int32) dX0_writtenOurs_2 (by decide +kernel) ?_
  refine G.istore_n 3 [(3, .int (0 : Int32)), (2, .int (0 : Int32)), (0, .ref (zs Z + a0)), (1, .int x1)] dX0_writtenOurs_3 rfl (Nat.le_of_ble_eq_true rfl) rfl ?_
  refine G.locs [2, 3, 1, 0] rfl ?_
  exact l_X0_writtenOurs_4 Z X hR hq FU a0 x1 (0 : Int32) (0 : Int32) hs k_a0 hf
end
