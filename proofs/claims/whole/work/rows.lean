section
-- ===== PART A: goes FIRST, ahead of the names: the tables' words, and 'selects' of the private methods out of them =====
/-- a private method of a class that the tables say can be made, by its rows of tables_1 -/
def lw_okq (q : MethodName × Nat) : Prop := (q.1.cls ≠ "java/lang/invoke/MethodHandle" ∧ q.1.cls ≠ "java/lang/invoke/VarHandle") ∧ Cond.instantiable q.1.cls q.2 ∈ tables_1 ∧ Cond.privateMethod q.1 ∈ tables_1 ∧ Cond.instanceMethod q.1 ∈ tables_1
theorem lw_p0 : lw_okq (⟨"HallSheets$Sheet", "madeOurs", "(II)I"⟩, 2) := ⟨⟨by decide +kernel, by decide +kernel⟩, List.mem_of_getElem? (i := 93) (by decide +kernel), List.mem_of_getElem? (i := 412) (by decide +kernel), List.mem_of_getElem? (i := 413) (by decide +kernel)⟩
theorem lw_p1 : lw_okq (⟨"HallSheets", "rowsRefusal", "(II)I"⟩, 8) := ⟨⟨by decide +kernel, by decide +kernel⟩, List.mem_of_getElem? (i := 28) (by decide +kernel), List.mem_of_getElem? (i := 442) (by decide +kernel), List.mem_of_getElem? (i := 443) (by decide +kernel)⟩
theorem lw_p2 : lw_okq (⟨"HallSheets$Shelf", "leastNumber", "()I"⟩, 7) := ⟨⟨by decide +kernel, by decide +kernel⟩, List.mem_of_getElem? (i := 290) (by decide +kernel), List.mem_of_getElem? (i := 461) (by decide +kernel), List.mem_of_getElem? (i := 462) (by decide +kernel)⟩
theorem lw_p3 : lw_okq (⟨"HallSheets$Country", "countFigures", "(Z)I"⟩, 12) := ⟨⟨by decide +kernel, by decide +kernel⟩, List.mem_of_getElem? (i := 36) (by decide +kernel), List.mem_of_getElem? (i := 481) (by decide +kernel), List.mem_of_getElem? (i := 482) (by decide +kernel)⟩
theorem lw_p4 : lw_okq (⟨"HallSheets$Country", "putInOrder", "(II)V"⟩, 12) := ⟨⟨by decide +kernel, by decide +kernel⟩, List.mem_of_getElem? (i := 36) (by decide +kernel), List.mem_of_getElem? (i := 540) (by decide +kernel), List.mem_of_getElem? (i := 541) (by decide +kernel)⟩
theorem lw_p5 : lw_okq (⟨"HallSheets$Watchers", "sharesIn", "(I)I"⟩, 5) := ⟨⟨by decide +kernel, by decide +kernel⟩, List.mem_of_getElem? (i := 232) (by decide +kernel), List.mem_of_getElem? (i := 603) (by decide +kernel), List.mem_of_getElem? (i := 604) (by decide +kernel)⟩
theorem lw_p6 : lw_okq (⟨"HallSheets$Country", "mostFalling", "(I)I"⟩, 12) := ⟨⟨by decide +kernel, by decide +kernel⟩, List.mem_of_getElem? (i := 36) (by decide +kernel), List.mem_of_getElem? (i := 702) (by decide +kernel), List.mem_of_getElem? (i := 703) (by decide +kernel)⟩
theorem lw_p7 : lw_okq (⟨"HallSheets$Recount", "consider", "(IIII)V"⟩, 2) := ⟨⟨by decide +kernel, by decide +kernel⟩, List.mem_of_getElem? (i := 254) (by decide +kernel), List.mem_of_getElem? (i := 730) (by decide +kernel), List.mem_of_getElem? (i := 731) (by decide +kernel)⟩
theorem lw_p8 : lw_okq (⟨"HallSheets$Country", "unevenness", "(Z)I"⟩, 12) := ⟨⟨by decide +kernel, by decide +kernel⟩, List.mem_of_getElem? (i := 36) (by decide +kernel), List.mem_of_getElem? (i := 742) (by decide +kernel), List.mem_of_getElem? (i := 743) (by decide +kernel)⟩
theorem lw_p9 : lw_okq (⟨"HallSheets$Country", "drawn", "(I)I"⟩, 12) := ⟨⟨by decide +kernel, by decide +kernel⟩, List.mem_of_getElem? (i := 36) (by decide +kernel), List.mem_of_getElem? (i := 779) (by decide +kernel), List.mem_of_getElem? (i := 780) (by decide +kernel)⟩
theorem lw_p10 : lw_okq (⟨"HallSheets", "textRefusal", "(I)I"⟩, 8) := ⟨⟨by decide +kernel, by decide +kernel⟩, List.mem_of_getElem? (i := 28) (by decide +kernel), List.mem_of_getElem? (i := 799) (by decide +kernel), List.mem_of_getElem? (i := 800) (by decide +kernel)⟩
theorem lw_p11 : lw_okq (⟨"HallSheets", "rowRefusal", "(I)I"⟩, 8) := ⟨⟨by decide +kernel, by decide +kernel⟩, List.mem_of_getElem? (i := 28) (by decide +kernel), List.mem_of_getElem? (i := 803) (by decide +kernel), List.mem_of_getElem? (i := 804) (by decide +kernel)⟩
theorem lw_p12 : lw_okq (⟨"HallSheets$MarkGrammar", "goesOn", "(I)Z"⟩, 5) := ⟨⟨by decide +kernel, by decide +kernel⟩, List.mem_of_getElem? (i := 269) (by decide +kernel), List.mem_of_getElem? (i := 811) (by decide +kernel), List.mem_of_getElem? (i := 812) (by decide +kernel)⟩
theorem lw_p13 : lw_okq (⟨"HallSheets$MarkGrammar", "become", "(I)Z"⟩, 5) := ⟨⟨by decide +kernel, by decide +kernel⟩, List.mem_of_getElem? (i := 269) (by decide +kernel), List.mem_of_getElem? (i := 815) (by decide +kernel), List.mem_of_getElem? (i := 816) (by decide +kernel)⟩
theorem lw_p14 : lw_okq (⟨"HallSheets$MarkGrammar", "beginsTest", "(I)Z"⟩, 5) := ⟨⟨by decide +kernel, by decide +kernel⟩, List.mem_of_getElem? (i := 269) (by decide +kernel), List.mem_of_getElem? (i := 819) (by decide +kernel), List.mem_of_getElem? (i := 820) (by decide +kernel)⟩
theorem lw_p15 : lw_okq (⟨"HallSheets$MarkGrammar", "beginsAtom", "(I)Z"⟩, 5) := ⟨⟨by decide +kernel, by decide +kernel⟩, List.mem_of_getElem? (i := 269) (by decide +kernel), List.mem_of_getElem? (i := 823) (by decide +kernel), List.mem_of_getElem? (i := 824) (by decide +kernel)⟩
def lw_privs_1 : List (MethodName × Nat) := [(⟨"HallSheets$Sheet", "madeOurs", "(II)I"⟩, 2), (⟨"HallSheets", "rowsRefusal", "(II)I"⟩, 8), (⟨"HallSheets$Shelf", "leastNumber", "()I"⟩, 7), (⟨"HallSheets$Country", "countFigures", "(Z)I"⟩, 12), (⟨"HallSheets$Country", "putInOrder", "(II)V"⟩, 12), (⟨"HallSheets$Watchers", "sharesIn", "(I)I"⟩, 5), (⟨"HallSheets$Country", "mostFalling", "(I)I"⟩, 12), (⟨"HallSheets$Recount", "consider", "(IIII)V"⟩, 2), (⟨"HallSheets$Country", "unevenness", "(Z)I"⟩, 12), (⟨"HallSheets$Country", "drawn", "(I)I"⟩, 12), (⟨"HallSheets", "textRefusal", "(I)I"⟩, 8), (⟨"HallSheets", "rowRefusal", "(I)I"⟩, 8), (⟨"HallSheets$MarkGrammar", "goesOn", "(I)Z"⟩, 5), (⟨"HallSheets$MarkGrammar", "become", "(I)Z"⟩, 5), (⟨"HallSheets$MarkGrammar", "beginsTest", "(I)Z"⟩, 5), (⟨"HallSheets$MarkGrammar", "beginsAtom", "(I)Z"⟩, 5)]
theorem lw_r1 : ∀ q ∈ lw_privs_1, lw_okq q := List.forall_mem_cons.mpr ⟨lw_p0, List.forall_mem_cons.mpr ⟨lw_p1, List.forall_mem_cons.mpr ⟨lw_p2, List.forall_mem_cons.mpr ⟨lw_p3, List.forall_mem_cons.mpr ⟨lw_p4, List.forall_mem_cons.mpr ⟨lw_p5, List.forall_mem_cons.mpr ⟨lw_p6, List.forall_mem_cons.mpr ⟨lw_p7, List.forall_mem_cons.mpr ⟨lw_p8, List.forall_mem_cons.mpr ⟨lw_p9, List.forall_mem_cons.mpr ⟨lw_p10, List.forall_mem_cons.mpr ⟨lw_p11, List.forall_mem_cons.mpr ⟨lw_p12, List.forall_mem_cons.mpr ⟨lw_p13, List.forall_mem_cons.mpr ⟨lw_p14, List.forall_mem_cons.mpr ⟨lw_p15, fun _ h => absurd h List.not_mem_nil⟩⟩⟩⟩⟩⟩⟩⟩⟩⟩⟩⟩⟩⟩⟩⟩
theorem lw_p16 : lw_okq (⟨"HallSheets$MarkGrammar", "addsDigit", "(I)Z"⟩, 5) := ⟨⟨by decide +kernel, by decide +kernel⟩, List.mem_of_getElem? (i := 269) (by decide +kernel), List.mem_of_getElem? (i := 916) (by decide +kernel), List.mem_of_getElem? (i := 917) (by decide +kernel)⟩
theorem lw_p17 : lw_okq (⟨"HallSheets$MarkGrammar", "followsAtom", "(I)Z"⟩, 5) := ⟨⟨by decide +kernel, by decide +kernel⟩, List.mem_of_getElem? (i := 269) (by decide +kernel), List.mem_of_getElem? (i := 920) (by decide +kernel), List.mem_of_getElem? (i := 921) (by decide +kernel)⟩
theorem lw_p18 : lw_okq (⟨"HallSheets$MarkGrammar", "followsTest", "(I)Z"⟩, 5) := ⟨⟨by decide +kernel, by decide +kernel⟩, List.mem_of_getElem? (i := 269) (by decide +kernel), List.mem_of_getElem? (i := 924) (by decide +kernel), List.mem_of_getElem? (i := 925) (by decide +kernel)⟩
theorem lw_p19 : lw_okq (⟨"HallSheets$MarkGrammar", "isWhole", "()Z"⟩, 5) := ⟨⟨by decide +kernel, by decide +kernel⟩, List.mem_of_getElem? (i := 269) (by decide +kernel), List.mem_of_getElem? (i := 928) (by decide +kernel), List.mem_of_getElem? (i := 929) (by decide +kernel)⟩
theorem lw_p20 : lw_okq (⟨"HallSheets$MarkTruth", "beginGroup", "()V"⟩, 11) := ⟨⟨by decide +kernel, by decide +kernel⟩, List.mem_of_getElem? (i := 46) (by decide +kernel), List.mem_of_getElem? (i := 953) (by decide +kernel), List.mem_of_getElem? (i := 954) (by decide +kernel)⟩
theorem lw_p21 : lw_okq (⟨"HallSheets$MarkTruth", "beginSum", "()V"⟩, 11) := ⟨⟨by decide +kernel, by decide +kernel⟩, List.mem_of_getElem? (i := 46) (by decide +kernel), List.mem_of_getElem? (i := 957) (by decide +kernel), List.mem_of_getElem? (i := 958) (by decide +kernel)⟩
theorem lw_p22 : lw_okq (⟨"HallSheets$MarkTruth", "beginProduct", "()V"⟩, 11) := ⟨⟨by decide +kernel, by decide +kernel⟩, List.mem_of_getElem? (i := 46) (by decide +kernel), List.mem_of_getElem? (i := 961) (by decide +kernel), List.mem_of_getElem? (i := 962) (by decide +kernel)⟩
theorem lw_p23 : lw_okq (⟨"HallSheets$MarkTruth", "takeAtom", "(I)V"⟩, 11) := ⟨⟨by decide +kernel, by decide +kernel⟩, List.mem_of_getElem? (i := 46) (by decide +kernel), List.mem_of_getElem? (i := 970) (by decide +kernel), List.mem_of_getElem? (i := 971) (by decide +kernel)⟩
theorem lw_p24 : lw_okq (⟨"HallSheets$MarkTruth", "takeDigit", "(IZ)V"⟩, 11) := ⟨⟨by decide +kernel, by decide +kernel⟩, List.mem_of_getElem? (i := 46) (by decide +kernel), List.mem_of_getElem? (i := 975) (by decide +kernel), List.mem_of_getElem? (i := 976) (by decide +kernel)⟩
theorem lw_p25 : lw_okq (⟨"HallSheets$MarkTruth", "takeSign", "(I)V"⟩, 11) := ⟨⟨by decide +kernel, by decide +kernel⟩, List.mem_of_getElem? (i := 46) (by decide +kernel), List.mem_of_getElem? (i := 979) (by decide +kernel), List.mem_of_getElem? (i := 980) (by decide +kernel)⟩
theorem lw_p26 : lw_okq (⟨"HallSheets$MarkTruth", "endProduct", "()V"⟩, 11) := ⟨⟨by decide +kernel, by decide +kernel⟩, List.mem_of_getElem? (i := 46) (by decide +kernel), List.mem_of_getElem? (i := 983) (by decide +kernel), List.mem_of_getElem? (i := 984) (by decide +kernel)⟩
theorem lw_p27 : lw_okq (⟨"HallSheets$MarkTruth", "endTest", "()V"⟩, 11) := ⟨⟨by decide +kernel, by decide +kernel⟩, List.mem_of_getElem? (i := 46) (by decide +kernel), List.mem_of_getElem? (i := 987) (by decide +kernel), List.mem_of_getElem? (i := 988) (by decide +kernel)⟩
theorem lw_p28 : lw_okq (⟨"HallSheets$MarkTruth", "compared", "()Z"⟩, 11) := ⟨⟨by decide +kernel, by decide +kernel⟩, List.mem_of_getElem? (i := 46) (by decide +kernel), List.mem_of_getElem? (i := 991) (by decide +kernel), List.mem_of_getElem? (i := 992) (by decide +kernel)⟩
theorem lw_p29 : lw_okq (⟨"HallSheets$MarkTruth", "join", "(Z)V"⟩, 11) := ⟨⟨by decide +kernel, by decide +kernel⟩, List.mem_of_getElem? (i := 46) (by decide +kernel), List.mem_of_getElem? (i := 995) (by decide +kernel), List.mem_of_getElem? (i := 996) (by decide +kernel)⟩
theorem lw_p30 : lw_okq (⟨"HallSheets$MarkTruth", "takeJoint", "(I)V"⟩, 11) := ⟨⟨by decide +kernel, by decide +kernel⟩, List.mem_of_getElem? (i := 46) (by decide +kernel), List.mem_of_getElem? (i := 999) (by decide +kernel), List.mem_of_getElem? (i := 1000) (by decide +kernel)⟩
theorem lw_p31 : lw_okq (⟨"HallSheets", "sheetRefusal", "(I)I"⟩, 8) := ⟨⟨by decide +kernel, by decide +kernel⟩, List.mem_of_getElem? (i := 28) (by decide +kernel), List.mem_of_getElem? (i := 1069) (by decide +kernel), List.mem_of_getElem? (i := 1070) (by decide +kernel)⟩
def lw_privs_2 : List (MethodName × Nat) := [(⟨"HallSheets$MarkGrammar", "addsDigit", "(I)Z"⟩, 5), (⟨"HallSheets$MarkGrammar", "followsAtom", "(I)Z"⟩, 5), (⟨"HallSheets$MarkGrammar", "followsTest", "(I)Z"⟩, 5), (⟨"HallSheets$MarkGrammar", "isWhole", "()Z"⟩, 5), (⟨"HallSheets$MarkTruth", "beginGroup", "()V"⟩, 11), (⟨"HallSheets$MarkTruth", "beginSum", "()V"⟩, 11), (⟨"HallSheets$MarkTruth", "beginProduct", "()V"⟩, 11), (⟨"HallSheets$MarkTruth", "takeAtom", "(I)V"⟩, 11), (⟨"HallSheets$MarkTruth", "takeDigit", "(IZ)V"⟩, 11), (⟨"HallSheets$MarkTruth", "takeSign", "(I)V"⟩, 11), (⟨"HallSheets$MarkTruth", "endProduct", "()V"⟩, 11), (⟨"HallSheets$MarkTruth", "endTest", "()V"⟩, 11), (⟨"HallSheets$MarkTruth", "compared", "()Z"⟩, 11), (⟨"HallSheets$MarkTruth", "join", "(Z)V"⟩, 11), (⟨"HallSheets$MarkTruth", "takeJoint", "(I)V"⟩, 11), (⟨"HallSheets", "sheetRefusal", "(I)I"⟩, 8)]
theorem lw_r2 : ∀ q ∈ lw_privs_2, lw_okq q := List.forall_mem_cons.mpr ⟨lw_p16, List.forall_mem_cons.mpr ⟨lw_p17, List.forall_mem_cons.mpr ⟨lw_p18, List.forall_mem_cons.mpr ⟨lw_p19, List.forall_mem_cons.mpr ⟨lw_p20, List.forall_mem_cons.mpr ⟨lw_p21, List.forall_mem_cons.mpr ⟨lw_p22, List.forall_mem_cons.mpr ⟨lw_p23, List.forall_mem_cons.mpr ⟨lw_p24, List.forall_mem_cons.mpr ⟨lw_p25, List.forall_mem_cons.mpr ⟨lw_p26, List.forall_mem_cons.mpr ⟨lw_p27, List.forall_mem_cons.mpr ⟨lw_p28, List.forall_mem_cons.mpr ⟨lw_p29, List.forall_mem_cons.mpr ⟨lw_p30, List.forall_mem_cons.mpr ⟨lw_p31, fun _ h => absurd h List.not_mem_nil⟩⟩⟩⟩⟩⟩⟩⟩⟩⟩⟩⟩⟩⟩⟩⟩
theorem lw_p32 : lw_okq (⟨"java/lang/Throwable", "fillInStackTrace", "(I)Ljava/lang/Throwable;"⟩, 6) := ⟨⟨by decide +kernel, by decide +kernel⟩, List.mem_of_getElem? (i := 1132) (by decide +kernel), List.mem_of_getElem? (i := 1130) (by decide +kernel), List.mem_of_getElem? (i := 1131) (by decide +kernel)⟩
theorem lw_p33 : lw_okq (⟨"HallSheetsModel", "isHall", "(I)Z"⟩, 28) := ⟨⟨by decide +kernel, by decide +kernel⟩, List.mem_of_getElem? (i := 1224) (by decide +kernel), List.mem_of_getElem? (i := 1332) (by decide +kernel), List.mem_of_getElem? (i := 1333) (by decide +kernel)⟩
theorem lw_p34 : lw_okq (⟨"HallSheetsModel", "get", "(II)I"⟩, 28) := ⟨⟨by decide +kernel, by decide +kernel⟩, List.mem_of_getElem? (i := 1224) (by decide +kernel), List.mem_of_getElem? (i := 1336) (by decide +kernel), List.mem_of_getElem? (i := 1337) (by decide +kernel)⟩
theorem lw_p35 : lw_okq (⟨"HallSheetsModel", "becomes", "(II)I"⟩, 28) := ⟨⟨by decide +kernel, by decide +kernel⟩, List.mem_of_getElem? (i := 1224) (by decide +kernel), List.mem_of_getElem? (i := 1340) (by decide +kernel), List.mem_of_getElem? (i := 1341) (by decide +kernel)⟩
theorem lw_p36 : lw_okq (⟨"HallSheetsModel", "tellsCame", "(I)I"⟩, 28) := ⟨⟨by decide +kernel, by decide +kernel⟩, List.mem_of_getElem? (i := 1224) (by decide +kernel), List.mem_of_getElem? (i := 1359) (by decide +kernel), List.mem_of_getElem? (i := 1360) (by decide +kernel)⟩
theorem lw_p37 : lw_okq (⟨"HallSheetsModel", "tellsOurs", "(I)I"⟩, 28) := ⟨⟨by decide +kernel, by decide +kernel⟩, List.mem_of_getElem? (i := 1224) (by decide +kernel), List.mem_of_getElem? (i := 1366) (by decide +kernel), List.mem_of_getElem? (i := 1367) (by decide +kernel)⟩
theorem lw_p38 : lw_okq (⟨"HallSheetsModel", "has", "(I)Z"⟩, 28) := ⟨⟨by decide +kernel, by decide +kernel⟩, List.mem_of_getElem? (i := 1224) (by decide +kernel), List.mem_of_getElem? (i := 1370) (by decide +kernel), List.mem_of_getElem? (i := 1371) (by decide +kernel)⟩
theorem lw_p39 : lw_okq (⟨"HallSheetsModel", "share", "(I)I"⟩, 28) := ⟨⟨by decide +kernel, by decide +kernel⟩, List.mem_of_getElem? (i := 1224) (by decide +kernel), List.mem_of_getElem? (i := 1374) (by decide +kernel), List.mem_of_getElem? (i := 1375) (by decide +kernel)⟩
theorem lw_p40 : lw_okq (⟨"HallSheetsModel", "writes", "(III)V"⟩, 28) := ⟨⟨by decide +kernel, by decide +kernel⟩, List.mem_of_getElem? (i := 1224) (by decide +kernel), List.mem_of_getElem? (i := 1382) (by decide +kernel), List.mem_of_getElem? (i := 1383) (by decide +kernel)⟩
theorem lw_p41 : lw_okq (⟨"HallSheetsModel", "there", "()I"⟩, 28) := ⟨⟨by decide +kernel, by decide +kernel⟩, List.mem_of_getElem? (i := 1224) (by decide +kernel), List.mem_of_getElem? (i := 1386) (by decide +kernel), List.mem_of_getElem? (i := 1387) (by decide +kernel)⟩
theorem lw_p42 : lw_okq (⟨"HallSheetsModel", "counts", "(II)V"⟩, 28) := ⟨⟨by decide +kernel, by decide +kernel⟩, List.mem_of_getElem? (i := 1224) (by decide +kernel), List.mem_of_getElem? (i := 1405) (by decide +kernel), List.mem_of_getElem? (i := 1406) (by decide +kernel)⟩
theorem lw_p43 : lw_okq (⟨"HallSheetsModel", "hasFigure", "(II)Z"⟩, 28) := ⟨⟨by decide +kernel, by decide +kernel⟩, List.mem_of_getElem? (i := 1224) (by decide +kernel), List.mem_of_getElem? (i := 1409) (by decide +kernel), List.mem_of_getElem? (i := 1410) (by decide +kernel)⟩
theorem lw_p44 : lw_okq (⟨"HallSheetsModel", "middleOf", "(I)I"⟩, 28) := ⟨⟨by decide +kernel, by decide +kernel⟩, List.mem_of_getElem? (i := 1224) (by decide +kernel), List.mem_of_getElem? (i := 1436) (by decide +kernel), List.mem_of_getElem? (i := 1437) (by decide +kernel)⟩
theorem lw_p45 : lw_okq (⟨"HallSheetsModel", "leftOf", "(I)I"⟩, 28) := ⟨⟨by decide +kernel, by decide +kernel⟩, List.mem_of_getElem? (i := 1224) (by decide +kernel), List.mem_of_getElem? (i := 1446) (by decide +kernel), List.mem_of_getElem? (i := 1447) (by decide +kernel)⟩
theorem lw_p46 : lw_okq (⟨"HallSheetsModel", "findWatched", "()I"⟩, 28) := ⟨⟨by decide +kernel, by decide +kernel⟩, List.mem_of_getElem? (i := 1224) (by decide +kernel), List.mem_of_getElem? (i := 1462) (by decide +kernel), List.mem_of_getElem? (i := 1463) (by decide +kernel)⟩
theorem lw_p47 : lw_okq (⟨"HallSheetsModel", "costOf", "(I)I"⟩, 28) := ⟨⟨by decide +kernel, by decide +kernel⟩, List.mem_of_getElem? (i := 1224) (by decide +kernel), List.mem_of_getElem? (i := 1466) (by decide +kernel), List.mem_of_getElem? (i := 1467) (by decide +kernel)⟩
def lw_privs_3 : List (MethodName × Nat) := [(⟨"java/lang/Throwable", "fillInStackTrace", "(I)Ljava/lang/Throwable;"⟩, 6), (⟨"HallSheetsModel", "isHall", "(I)Z"⟩, 28), (⟨"HallSheetsModel", "get", "(II)I"⟩, 28), (⟨"HallSheetsModel", "becomes", "(II)I"⟩, 28), (⟨"HallSheetsModel", "tellsCame", "(I)I"⟩, 28), (⟨"HallSheetsModel", "tellsOurs", "(I)I"⟩, 28), (⟨"HallSheetsModel", "has", "(I)Z"⟩, 28), (⟨"HallSheetsModel", "share", "(I)I"⟩, 28), (⟨"HallSheetsModel", "writes", "(III)V"⟩, 28), (⟨"HallSheetsModel", "there", "()I"⟩, 28), (⟨"HallSheetsModel", "counts", "(II)V"⟩, 28), (⟨"HallSheetsModel", "hasFigure", "(II)Z"⟩, 28), (⟨"HallSheetsModel", "middleOf", "(I)I"⟩, 28), (⟨"HallSheetsModel", "leftOf", "(I)I"⟩, 28), (⟨"HallSheetsModel", "findWatched", "()I"⟩, 28), (⟨"HallSheetsModel", "costOf", "(I)I"⟩, 28)]
theorem lw_r3 : ∀ q ∈ lw_privs_3, lw_okq q := List.forall_mem_cons.mpr ⟨lw_p32, List.forall_mem_cons.mpr ⟨lw_p33, List.forall_mem_cons.mpr ⟨lw_p34, List.forall_mem_cons.mpr ⟨lw_p35, List.forall_mem_cons.mpr ⟨lw_p36, List.forall_mem_cons.mpr ⟨lw_p37, List.forall_mem_cons.mpr ⟨lw_p38, List.forall_mem_cons.mpr ⟨lw_p39, List.forall_mem_cons.mpr ⟨lw_p40, List.forall_mem_cons.mpr ⟨lw_p41, List.forall_mem_cons.mpr ⟨lw_p42, List.forall_mem_cons.mpr ⟨lw_p43, List.forall_mem_cons.mpr ⟨lw_p44, List.forall_mem_cons.mpr ⟨lw_p45, List.forall_mem_cons.mpr ⟨lw_p46, List.forall_mem_cons.mpr ⟨lw_p47, fun _ h => absurd h List.not_mem_nil⟩⟩⟩⟩⟩⟩⟩⟩⟩⟩⟩⟩⟩⟩⟩⟩
theorem lw_p48 : lw_okq (⟨"HallSheetsModel", "written", "(II)I"⟩, 28) := ⟨⟨by decide +kernel, by decide +kernel⟩, List.mem_of_getElem? (i := 1224) (by decide +kernel), List.mem_of_getElem? (i := 1492) (by decide +kernel), List.mem_of_getElem? (i := 1493) (by decide +kernel)⟩
theorem lw_p49 : lw_okq (⟨"HallSheetsModel", "sentUp", "(II)I"⟩, 28) := ⟨⟨by decide +kernel, by decide +kernel⟩, List.mem_of_getElem? (i := 1224) (by decide +kernel), List.mem_of_getElem? (i := 1496) (by decide +kernel), List.mem_of_getElem? (i := 1497) (by decide +kernel)⟩
theorem lw_p50 : lw_okq (⟨"HallSheetsModel", "untrueAll", "(I)I"⟩, 28) := ⟨⟨by decide +kernel, by decide +kernel⟩, List.mem_of_getElem? (i := 1224) (by decide +kernel), List.mem_of_getElem? (i := 1512) (by decide +kernel), List.mem_of_getElem? (i := 1513) (by decide +kernel)⟩
theorem lw_p51 : lw_okq (⟨"HallSheetsModel", "untrueOf", "(II)I"⟩, 28) := ⟨⟨by decide +kernel, by decide +kernel⟩, List.mem_of_getElem? (i := 1224) (by decide +kernel), List.mem_of_getElem? (i := 1516) (by decide +kernel), List.mem_of_getElem? (i := 1517) (by decide +kernel)⟩
theorem lw_p52 : lw_okq (⟨"HallSheetsModel", "falls", "(I)I"⟩, 28) := ⟨⟨by decide +kernel, by decide +kernel⟩, List.mem_of_getElem? (i := 1224) (by decide +kernel), List.mem_of_getElem? (i := 1527) (by decide +kernel), List.mem_of_getElem? (i := 1528) (by decide +kernel)⟩
theorem lw_p53 : lw_okq (⟨"HallSheetsModel", "findAgain", "()V"⟩, 28) := ⟨⟨by decide +kernel, by decide +kernel⟩, List.mem_of_getElem? (i := 1224) (by decide +kernel), List.mem_of_getElem? (i := 1536) (by decide +kernel), List.mem_of_getElem? (i := 1537) (by decide +kernel)⟩
theorem lw_p54 : lw_okq (⟨"HallSheetsModel", "costAgain", "(I)I"⟩, 28) := ⟨⟨by decide +kernel, by decide +kernel⟩, List.mem_of_getElem? (i := 1224) (by decide +kernel), List.mem_of_getElem? (i := 1540) (by decide +kernel), List.mem_of_getElem? (i := 1541) (by decide +kernel)⟩
theorem lw_p55 : lw_okq (⟨"HallSheetsModel", "worthAgain", "(I)I"⟩, 28) := ⟨⟨by decide +kernel, by decide +kernel⟩, List.mem_of_getElem? (i := 1224) (by decide +kernel), List.mem_of_getElem? (i := 1544) (by decide +kernel), List.mem_of_getElem? (i := 1545) (by decide +kernel)⟩
theorem lw_p56 : lw_okq (⟨"HallSheetsModel", "measureNow", "(I)I"⟩, 28) := ⟨⟨by decide +kernel, by decide +kernel⟩, List.mem_of_getElem? (i := 1224) (by decide +kernel), List.mem_of_getElem? (i := 1553) (by decide +kernel), List.mem_of_getElem? (i := 1554) (by decide +kernel)⟩
theorem lw_p57 : lw_okq (⟨"HallSheetsModel", "squares", "(I)I"⟩, 28) := ⟨⟨by decide +kernel, by decide +kernel⟩, List.mem_of_getElem? (i := 1224) (by decide +kernel), List.mem_of_getElem? (i := 1557) (by decide +kernel), List.mem_of_getElem? (i := 1558) (by decide +kernel)⟩
theorem lw_p58 : lw_okq (⟨"HallSheetsModel", "makes", "(I)V"⟩, 28) := ⟨⟨by decide +kernel, by decide +kernel⟩, List.mem_of_getElem? (i := 1224) (by decide +kernel), List.mem_of_getElem? (i := 1567) (by decide +kernel), List.mem_of_getElem? (i := 1568) (by decide +kernel)⟩
theorem lw_p59 : lw_okq (⟨"HallSheetsModel", "hundredths", "(I)I"⟩, 28) := ⟨⟨by decide +kernel, by decide +kernel⟩, List.mem_of_getElem? (i := 1224) (by decide +kernel), List.mem_of_getElem? (i := 1571) (by decide +kernel), List.mem_of_getElem? (i := 1572) (by decide +kernel)⟩
theorem lw_p60 : lw_okq (⟨"HallSheetsModel", "wrongRow", "(II)I"⟩, 28) := ⟨⟨by decide +kernel, by decide +kernel⟩, List.mem_of_getElem? (i := 1224) (by decide +kernel), List.mem_of_getElem? (i := 1586) (by decide +kernel), List.mem_of_getElem? (i := 1587) (by decide +kernel)⟩
theorem lw_p61 : lw_okq (⟨"HallSheetsModel", "faultOf", "(I)I"⟩, 28) := ⟨⟨by decide +kernel, by decide +kernel⟩, List.mem_of_getElem? (i := 1224) (by decide +kernel), List.mem_of_getElem? (i := 1590) (by decide +kernel), List.mem_of_getElem? (i := 1591) (by decide +kernel)⟩
theorem lw_p62 : lw_okq (⟨"HallSheetsModel", "begins", "([IIII)V"⟩, 28) := ⟨⟨by decide +kernel, by decide +kernel⟩, List.mem_of_getElem? (i := 1224) (by decide +kernel), List.mem_of_getElem? (i := 1594) (by decide +kernel), List.mem_of_getElem? (i := 1595) (by decide +kernel)⟩
theorem lw_p63 : lw_okq (⟨"HallSheetsModel", "sign", "()I"⟩, 28) := ⟨⟨by decide +kernel, by decide +kernel⟩, List.mem_of_getElem? (i := 1224) (by decide +kernel), List.mem_of_getElem? (i := 1598) (by decide +kernel), List.mem_of_getElem? (i := 1599) (by decide +kernel)⟩
def lw_privs_4 : List (MethodName × Nat) := [(⟨"HallSheetsModel", "written", "(II)I"⟩, 28), (⟨"HallSheetsModel", "sentUp", "(II)I"⟩, 28), (⟨"HallSheetsModel", "untrueAll", "(I)I"⟩, 28), (⟨"HallSheetsModel", "untrueOf", "(II)I"⟩, 28), (⟨"HallSheetsModel", "falls", "(I)I"⟩, 28), (⟨"HallSheetsModel", "findAgain", "()V"⟩, 28), (⟨"HallSheetsModel", "costAgain", "(I)I"⟩, 28), (⟨"HallSheetsModel", "worthAgain", "(I)I"⟩, 28), (⟨"HallSheetsModel", "measureNow", "(I)I"⟩, 28), (⟨"HallSheetsModel", "squares", "(I)I"⟩, 28), (⟨"HallSheetsModel", "makes", "(I)V"⟩, 28), (⟨"HallSheetsModel", "hundredths", "(I)I"⟩, 28), (⟨"HallSheetsModel", "wrongRow", "(II)I"⟩, 28), (⟨"HallSheetsModel", "faultOf", "(I)I"⟩, 28), (⟨"HallSheetsModel", "begins", "([IIII)V"⟩, 28), (⟨"HallSheetsModel", "sign", "()I"⟩, 28)]
theorem lw_r4 : ∀ q ∈ lw_privs_4, lw_okq q := List.forall_mem_cons.mpr ⟨lw_p48, List.forall_mem_cons.mpr ⟨lw_p49, List.forall_mem_cons.mpr ⟨lw_p50, List.forall_mem_cons.mpr ⟨lw_p51, List.forall_mem_cons.mpr ⟨lw_p52, List.forall_mem_cons.mpr ⟨lw_p53, List.forall_mem_cons.mpr ⟨lw_p54, List.forall_mem_cons.mpr ⟨lw_p55, List.forall_mem_cons.mpr ⟨lw_p56, List.forall_mem_cons.mpr ⟨lw_p57, List.forall_mem_cons.mpr ⟨lw_p58, List.forall_mem_cons.mpr ⟨lw_p59, List.forall_mem_cons.mpr ⟨lw_p60, List.forall_mem_cons.mpr ⟨lw_p61, List.forall_mem_cons.mpr ⟨lw_p62, List.forall_mem_cons.mpr ⟨lw_p63, fun _ h => absurd h List.not_mem_nil⟩⟩⟩⟩⟩⟩⟩⟩⟩⟩⟩⟩⟩⟩⟩⟩
theorem lw_p64 : lw_okq (⟨"HallSheetsModel", "takes", "(I)Z"⟩, 28) := ⟨⟨by decide +kernel, by decide +kernel⟩, List.mem_of_getElem? (i := 1224) (by decide +kernel), List.mem_of_getElem? (i := 1604) (by decide +kernel), List.mem_of_getElem? (i := 1605) (by decide +kernel)⟩
theorem lw_p65 : lw_okq (⟨"HallSheetsModel", "or", "()Z"⟩, 28) := ⟨⟨by decide +kernel, by decide +kernel⟩, List.mem_of_getElem? (i := 1224) (by decide +kernel), List.mem_of_getElem? (i := 1608) (by decide +kernel), List.mem_of_getElem? (i := 1609) (by decide +kernel)⟩
theorem lw_p66 : lw_okq (⟨"HallSheetsModel", "and", "()Z"⟩, 28) := ⟨⟨by decide +kernel, by decide +kernel⟩, List.mem_of_getElem? (i := 1224) (by decide +kernel), List.mem_of_getElem? (i := 1612) (by decide +kernel), List.mem_of_getElem? (i := 1613) (by decide +kernel)⟩
theorem lw_p67 : lw_okq (⟨"HallSheetsModel", "test", "()Z"⟩, 28) := ⟨⟨by decide +kernel, by decide +kernel⟩, List.mem_of_getElem? (i := 1224) (by decide +kernel), List.mem_of_getElem? (i := 1616) (by decide +kernel), List.mem_of_getElem? (i := 1617) (by decide +kernel)⟩
theorem lw_p68 : lw_okq (⟨"HallSheetsModel", "breaks", "()Z"⟩, 28) := ⟨⟨by decide +kernel, by decide +kernel⟩, List.mem_of_getElem? (i := 1224) (by decide +kernel), List.mem_of_getElem? (i := 1620) (by decide +kernel), List.mem_of_getElem? (i := 1621) (by decide +kernel)⟩
theorem lw_p69 : lw_okq (⟨"HallSheetsModel", "sum", "()I"⟩, 28) := ⟨⟨by decide +kernel, by decide +kernel⟩, List.mem_of_getElem? (i := 1224) (by decide +kernel), List.mem_of_getElem? (i := 1624) (by decide +kernel), List.mem_of_getElem? (i := 1625) (by decide +kernel)⟩
theorem lw_p70 : lw_okq (⟨"HallSheetsModel", "product", "()I"⟩, 28) := ⟨⟨by decide +kernel, by decide +kernel⟩, List.mem_of_getElem? (i := 1224) (by decide +kernel), List.mem_of_getElem? (i := 1628) (by decide +kernel), List.mem_of_getElem? (i := 1629) (by decide +kernel)⟩
theorem lw_p71 : lw_okq (⟨"HallSheetsModel", "atom", "()I"⟩, 28) := ⟨⟨by decide +kernel, by decide +kernel⟩, List.mem_of_getElem? (i := 1224) (by decide +kernel), List.mem_of_getElem? (i := 1632) (by decide +kernel), List.mem_of_getElem? (i := 1633) (by decide +kernel)⟩
theorem lw_p72 : lw_okq (⟨"HallSheetsModel", "fieldOf", "(I)I"⟩, 28) := ⟨⟨by decide +kernel, by decide +kernel⟩, List.mem_of_getElem? (i := 1224) (by decide +kernel), List.mem_of_getElem? (i := 1639) (by decide +kernel), List.mem_of_getElem? (i := 1640) (by decide +kernel)⟩
theorem lw_p73 : lw_okq (⟨"HallSheetsModel", "markOf", "(I)I"⟩, 28) := ⟨⟨by decide +kernel, by decide +kernel⟩, List.mem_of_getElem? (i := 1224) (by decide +kernel), List.mem_of_getElem? (i := 1651) (by decide +kernel), List.mem_of_getElem? (i := 1652) (by decide +kernel)⟩
theorem lw_p74 : lw_okq (⟨"HallSheetsModel", "weightOf", "(I)I"⟩, 28) := ⟨⟨by decide +kernel, by decide +kernel⟩, List.mem_of_getElem? (i := 1224) (by decide +kernel), List.mem_of_getElem? (i := 1676) (by decide +kernel), List.mem_of_getElem? (i := 1677) (by decide +kernel)⟩
theorem lw_p75 : lw_okq (⟨"HallSheetsModel", "wrongKept", "(I)I"⟩, 28) := ⟨⟨by decide +kernel, by decide +kernel⟩, List.mem_of_getElem? (i := 1224) (by decide +kernel), List.mem_of_getElem? (i := 1701) (by decide +kernel), List.mem_of_getElem? (i := 1702) (by decide +kernel)⟩
def lw_privs_5 : List (MethodName × Nat) := [(⟨"HallSheetsModel", "takes", "(I)Z"⟩, 28), (⟨"HallSheetsModel", "or", "()Z"⟩, 28), (⟨"HallSheetsModel", "and", "()Z"⟩, 28), (⟨"HallSheetsModel", "test", "()Z"⟩, 28), (⟨"HallSheetsModel", "breaks", "()Z"⟩, 28), (⟨"HallSheetsModel", "sum", "()I"⟩, 28), (⟨"HallSheetsModel", "product", "()I"⟩, 28), (⟨"HallSheetsModel", "atom", "()I"⟩, 28), (⟨"HallSheetsModel", "fieldOf", "(I)I"⟩, 28), (⟨"HallSheetsModel", "markOf", "(I)I"⟩, 28), (⟨"HallSheetsModel", "weightOf", "(I)I"⟩, 28), (⟨"HallSheetsModel", "wrongKept", "(I)I"⟩, 28)]
theorem lw_r5 : ∀ q ∈ lw_privs_5, lw_okq q := List.forall_mem_cons.mpr ⟨lw_p64, List.forall_mem_cons.mpr ⟨lw_p65, List.forall_mem_cons.mpr ⟨lw_p66, List.forall_mem_cons.mpr ⟨lw_p67, List.forall_mem_cons.mpr ⟨lw_p68, List.forall_mem_cons.mpr ⟨lw_p69, List.forall_mem_cons.mpr ⟨lw_p70, List.forall_mem_cons.mpr ⟨lw_p71, List.forall_mem_cons.mpr ⟨lw_p72, List.forall_mem_cons.mpr ⟨lw_p73, List.forall_mem_cons.mpr ⟨lw_p74, List.forall_mem_cons.mpr ⟨lw_p75, fun _ h => absurd h List.not_mem_nil⟩⟩⟩⟩⟩⟩⟩⟩⟩⟩⟩⟩
def lw_privs : List (MethodName × Nat) := lw_privs_1 ++ (lw_privs_2 ++ (lw_privs_3 ++ (lw_privs_4 ++ (lw_privs_5))))
def lw_tbl : List Cond := k2_sels lw_privs ++ tables_1
theorem lw_privs_ok : ∀ q ∈ lw_privs, lw_okq q := by
  show ∀ q ∈ lw_privs_1 ++ (lw_privs_2 ++ (lw_privs_3 ++ (lw_privs_4 ++ (lw_privs_5)))), lw_okq q
  exact List.forall_mem_append.mpr ⟨lw_r1, List.forall_mem_append.mpr ⟨lw_r2, List.forall_mem_append.mpr ⟨lw_r3, List.forall_mem_append.mpr ⟨lw_r4, lw_r5⟩⟩⟩⟩
end
section
def RX0 : String := "HallSheets$Country"
def TX0 : u_T := fun k => match k with
  | 0 => ("HallSheets$Country", "halls", "[LHallSheets$Hall;", true)
  | 1 => ("HallSheets$Country", "hallCount", "I", false)
  | 2 => ("HallSheets$Country", "laws", "[I", true)
  | 3 => ("HallSheets$Country", "told", "[Z", true)
  | 4 => ("HallSheets$Country", "toldCame", "[I", true)
  | 5 => ("HallSheets$Country", "toldOurs", "[I", true)
  | 6 => ("HallSheets$Country", "markTexts", "[[I", true)
  | 7 => ("HallSheets$Country", "markSizes", "[I", true)
  | 8 => ("HallSheets$Country", "markCount", "I", false)
  | 9 => ("HallSheets$Country", "markTruth", "LHallSheets$MarkTruth;", true)
  | 10 => ("HallSheets$Country", "figureCounts", "[I", true)
  | _ => ("HallSheets$Country", "inOrder", "[I", true)
def tyX0 : Nat → FieldType := fun k => match k with
  | 0 => .array (.object "HallSheets$Hall")
  | 1 => .int
  | 2 => .array .int
  | 3 => .array .boolean
  | 4 => .array .int
  | 5 => .array .int
  | 6 => .array (.array .int)
  | 7 => .array .int
  | 8 => .int
  | 9 => .object "HallSheets$MarkTruth"
  | 10 => .array .int
  | _ => .array .int
abbrev wsX00 : List Cond := u_ws RX0 TX0 12
theorem nmX0 : ∀ a, a < 12 → ∀ b, b < 12 → a ≠ b → (TX0 a).2.1 ≠ (TX0 b).2.1 := by decide +kernel
theorem tyX0_ok : ∀ k, k < 12 → parseFieldDescriptor (TX0 k).2.2.1 = some (tyX0 k) := by decide +kernel
abbrev cX0_init : ByteArray := prog_2_method_1_code
def yX0_init : MethodName := ⟨RX0, "<init>", "()V"⟩
abbrev cX0_copyFrom : ByteArray := prog_2_method_2_code
def yX0_copyFrom : MethodName := ⟨RX0, "copyFrom", "(LHallSheets$Country;)V"⟩
abbrev cX0_mostOfLaw : ByteArray := prog_2_method_3_code
def yX0_mostOfLaw : MethodName := ⟨RX0, "mostOfLaw", "(I)I"⟩
abbrev cX0_isHall : ByteArray := prog_2_method_4_code
def yX0_isHall : MethodName := ⟨RX0, "isHall", "(I)Z"⟩
abbrev cX0_addHall : ByteArray := prog_2_method_5_code
def yX0_addHall : MethodName := ⟨RX0, "addHall", "(III)I"⟩
abbrev cX0_addMark : ByteArray := prog_2_method_6_code
def yX0_addMark : MethodName := ⟨RX0, "addMark", "([II)I"⟩
abbrev cX0_nameOf : ByteArray := prog_2_method_7_code
def yX0_nameOf : MethodName := ⟨RX0, "nameOf", "(I)I"⟩
abbrev cX0_writtenCount : ByteArray := prog_2_method_8_code
def yX0_writtenCount : MethodName := ⟨RX0, "writtenCount", "()I"⟩
abbrev cX0_watchedCount : ByteArray := prog_2_method_9_code
def yX0_watchedCount : MethodName := ⟨RX0, "watchedCount", "()I"⟩
abbrev cX0_allLists : ByteArray := prog_2_method_10_code
def yX0_allLists : MethodName := ⟨RX0, "allLists", "()I"⟩
abbrev cX0_figureCount : ByteArray := prog_2_method_11_code
def yX0_figureCount : MethodName := ⟨RX0, "figureCount", "(IZ)I"⟩
abbrev cX0_countFigures : ByteArray := prog_2_method_12_code
def yX0_countFigures : MethodName := ⟨RX0, "countFigures", "(Z)I"⟩
abbrev cX0_rowsWithFigure : ByteArray := prog_2_method_13_code
def yX0_rowsWithFigure : MethodName := ⟨RX0, "rowsWithFigure", "(I)J"⟩
abbrev cX0_rowsWith : ByteArray := prog_2_method_14_code
def yX0_rowsWith : MethodName := ⟨RX0, "rowsWith", "(II)J"⟩
abbrev cX0_roundCount : ByteArray := prog_2_method_15_code
def yX0_roundCount : MethodName := ⟨RX0, "roundCount", "(I)I"⟩
abbrev cX0_highCount : ByteArray := prog_2_method_16_code
def yX0_highCount : MethodName := ⟨RX0, "highCount", "()I"⟩
abbrev cX0_hasHighKin : ByteArray := prog_2_method_17_code
def yX0_hasHighKin : MethodName := ⟨RX0, "hasHighKin", "(I)Z"⟩
abbrev cX0_middleShare : ByteArray := prog_2_method_18_code
def yX0_middleShare : MethodName := ⟨RX0, "middleShare", "(I)I"⟩
abbrev cX0_putInOrder : ByteArray := prog_2_method_19_code
def yX0_putInOrder : MethodName := ⟨RX0, "putInOrder", "(II)V"⟩
abbrev cX0_shareFromMiddle : ByteArray := prog_2_method_20_code
def yX0_shareFromMiddle : MethodName := ⟨RX0, "shareFromMiddle", "(LHallSheets$Hall;)I"⟩
abbrev cX0_writtenCame : ByteArray := prog_2_method_21_code
def yX0_writtenCame : MethodName := ⟨RX0, "writtenCame", "(I)I"⟩
abbrev cX0_writtenOurs : ByteArray := prog_2_method_22_code
def yX0_writtenOurs : MethodName := ⟨RX0, "writtenOurs", "(I)I"⟩
abbrev cX0_allWrittenCame : ByteArray := prog_2_method_23_code
def yX0_allWrittenCame : MethodName := ⟨RX0, "allWrittenCame", "()I"⟩
abbrev cX0_allWrittenOurs : ByteArray := prog_2_method_24_code
def yX0_allWrittenOurs : MethodName := ⟨RX0, "allWrittenOurs", "()I"⟩
abbrev cX0_sentCame : ByteArray := prog_2_method_25_code
def yX0_sentCame : MethodName := ⟨RX0, "sentCame", "(I)I"⟩
abbrev cX0_sentOurs : ByteArray := prog_2_method_26_code
def yX0_sentOurs : MethodName := ⟨RX0, "sentOurs", "(I)I"⟩
abbrev cX0_sentMargin : ByteArray := prog_2_method_27_code
def yX0_sentMargin : MethodName := ⟨RX0, "sentMargin", "()I"⟩
abbrev cX0_writtenMargin : ByteArray := prog_2_method_28_code
def yX0_writtenMargin : MethodName := ⟨RX0, "writtenMargin", "()I"⟩
abbrev cX0_allUntrue : ByteArray := prog_2_method_29_code
def yX0_allUntrue : MethodName := ⟨RX0, "allUntrue", "()I"⟩
abbrev cX0_allMustBe : ByteArray := prog_2_method_30_code
def yX0_allMustBe : MethodName := ⟨RX0, "allMustBe", "()I"⟩
abbrev cX0_fewestTurns : ByteArray := prog_2_method_31_code
def yX0_fewestTurns : MethodName := ⟨RX0, "fewestTurns", "()I"⟩
abbrev cX0_mostFalling : ByteArray := prog_2_method_32_code
def yX0_mostFalling : MethodName := ⟨RX0, "mostFalling", "(I)I"⟩
abbrev cX0_measured : ByteArray := prog_2_method_33_code
def yX0_measured : MethodName := ⟨RX0, "measured", "(I)I"⟩
abbrev cX0_unevenness : ByteArray := prog_2_method_34_code
def yX0_unevenness : MethodName := ⟨RX0, "unevenness", "(Z)I"⟩
abbrev cX0_becomeHonest : ByteArray := prog_2_method_35_code
def yX0_becomeHonest : MethodName := ⟨RX0, "becomeHonest", "(I)I"⟩
abbrev cX0_nextSeed : ByteArray := prog_2_method_36_code
def yX0_nextSeed : MethodName := ⟨RX0, "nextSeed", "(I)I"⟩
abbrev cX0_drawn : ByteArray := prog_2_method_37_code
def yX0_drawn : MethodName := ⟨RX0, "drawn", "(I)I"⟩
abbrev cX0_writeTruth : ByteArray := prog_2_method_38_code
def yX0_writeTruth : MethodName := ⟨RX0, "writeTruth", "()V"⟩
def RX1 : String := "HallSheets$Hall"
def TX1 : u_T := fun k => match k with
  | 0 => ("HallSheets$Hall", "sheet", "LHallSheets$Sheet;", true)
  | 1 => ("HallSheets$Hall", "list", "I", false)
  | 2 => ("HallSheets$Hall", "town", "I", false)
  | 3 => ("HallSheets$Hall", "kin", "I", false)
  | 4 => ("HallSheets$Hall", "district", "I", false)
  | 5 => ("HallSheets$Hall", "earlier", "I", false)
  | 6 => ("HallSheets$Hall", "trueCame", "I", false)
  | 7 => ("HallSheets$Hall", "trueOurs", "I", false)
  | 8 => ("HallSheets$Hall", "watched", "Z", false)
  | 9 => ("HallSheets$Hall", "missing", "Z", false)
  | 10 => ("HallSheets$Hall", "came", "I", false)
  | _ => ("HallSheets$Hall", "ours", "I", false)
def tyX1 : Nat → FieldType := fun k => match k with
  | 0 => .object "HallSheets$Sheet"
  | 1 => .int
  | 2 => .int
  | 3 => .int
  | 4 => .int
  | 5 => .int
  | 6 => .int
  | 7 => .int
  | 8 => .boolean
  | 9 => .boolean
  | 10 => .int
  | _ => .int
abbrev wsX10 : List Cond := u_ws RX1 TX1 12
theorem nmX1 : ∀ a, a < 12 → ∀ b, b < 12 → a ≠ b → (TX1 a).2.1 ≠ (TX1 b).2.1 := by decide +kernel
theorem tyX1_ok : ∀ k, k < 12 → parseFieldDescriptor (TX1 k).2.2.1 = some (tyX1 k) := by decide +kernel
abbrev cX1_init : ByteArray := prog_3_method_1_code
def yX1_init : MethodName := ⟨RX1, "<init>", "()V"⟩
abbrev cX1_begin : ByteArray := prog_3_method_2_code
def yX1_begin : MethodName := ⟨RX1, "begin", "(III)V"⟩
abbrev cX1_copyFrom : ByteArray := prog_3_method_3_code
def yX1_copyFrom : MethodName := ⟨RX1, "copyFrom", "(LHallSheets$Hall;)V"⟩
abbrev cX1_write : ByteArray := prog_3_method_4_code
def yX1_write : MethodName := ⟨RX1, "write", "(II)V"⟩
abbrev cX1_toldCame : ByteArray := prog_3_method_5_code
def yX1_toldCame : MethodName := ⟨RX1, "toldCame", "()I"⟩
abbrev cX1_toldOurs : ByteArray := prog_3_method_6_code
def yX1_toldOurs : MethodName := ⟨RX1, "toldOurs", "(I)I"⟩
abbrev cX1_share : ByteArray := prog_3_method_7_code
def yX1_share : MethodName := ⟨RX1, "share", "()I"⟩
abbrev cX1_lastFigure : ByteArray := prog_3_method_8_code
def yX1_lastFigure : MethodName := ⟨RX1, "lastFigure", "()I"⟩
abbrev cX1_firstFigure : ByteArray := prog_3_method_9_code
def yX1_firstFigure : MethodName := ⟨RX1, "firstFigure", "()I"⟩
abbrev cX1_untruth : ByteArray := prog_3_method_10_code
def yX1_untruth : MethodName := ⟨RX1, "untruth", "()I"⟩
abbrev cX1_mustBe : ByteArray := prog_3_method_11_code
def yX1_mustBe : MethodName := ⟨RX1, "mustBe", "()I"⟩
abbrev cX1_margin : ByteArray := prog_3_method_12_code
def yX1_margin : MethodName := ⟨RX1, "margin", "()I"⟩
abbrev cX1_marginFall : ByteArray := prog_3_method_13_code
def yX1_marginFall : MethodName := ⟨RX1, "marginFall", "()I"⟩
def RX2 : String := "HallSheets$MarkGrammar"
def TX2 : u_T := fun k => match k with
  | 0 => ("HallSheets$MarkGrammar", "state", "I", false)
  | 1 => ("HallSheets$MarkGrammar", "depth", "I", false)
  | 2 => ("HallSheets$MarkGrammar", "compared", "Z", false)
  | 3 => ("HallSheets$MarkGrammar", "digits", "I", false)
  | _ => ("HallSheets$MarkGrammar", "zeroAhead", "Z", false)
def tyX2 : Nat → FieldType := fun k => match k with
  | 0 => .int
  | 1 => .int
  | 2 => .boolean
  | 3 => .int
  | _ => .boolean
abbrev wsX20 : List Cond := u_ws RX2 TX2 5
theorem nmX2 : ∀ a, a < 5 → ∀ b, b < 5 → a ≠ b → (TX2 a).2.1 ≠ (TX2 b).2.1 := by decide +kernel
theorem tyX2_ok : ∀ k, k < 5 → parseFieldDescriptor (TX2 k).2.2.1 = some (tyX2 k) := by decide +kernel
abbrev cX2_init : ByteArray := prog_4_method_1_code
def yX2_init : MethodName := ⟨RX2, "<init>", "()V"⟩
abbrev cX2_faultOf : ByteArray := prog_4_method_2_code
def yX2_faultOf : MethodName := ⟨RX2, "faultOf", "([II)I"⟩
abbrev cX2_isWhole : ByteArray := prog_4_method_3_code
def yX2_isWhole : MethodName := ⟨RX2, "isWhole", "()Z"⟩
abbrev cX2_goesOn : ByteArray := prog_4_method_4_code
def yX2_goesOn : MethodName := ⟨RX2, "goesOn", "(I)Z"⟩
abbrev cX2_become : ByteArray := prog_4_method_5_code
def yX2_become : MethodName := ⟨RX2, "become", "(I)Z"⟩
abbrev cX2_beginsTest : ByteArray := prog_4_method_6_code
def yX2_beginsTest : MethodName := ⟨RX2, "beginsTest", "(I)Z"⟩
abbrev cX2_beginsAtom : ByteArray := prog_4_method_7_code
def yX2_beginsAtom : MethodName := ⟨RX2, "beginsAtom", "(I)Z"⟩
abbrev cX2_addsDigit : ByteArray := prog_4_method_8_code
def yX2_addsDigit : MethodName := ⟨RX2, "addsDigit", "(I)Z"⟩
abbrev cX2_followsAtom : ByteArray := prog_4_method_9_code
def yX2_followsAtom : MethodName := ⟨RX2, "followsAtom", "(I)Z"⟩
abbrev cX2_followsTest : ByteArray := prog_4_method_10_code
def yX2_followsTest : MethodName := ⟨RX2, "followsTest", "(I)Z"⟩
abbrev cX2_isDigit : ByteArray := prog_4_method_11_code
def yX2_isDigit : MethodName := ⟨RX2, "isDigit", "(I)Z"⟩
abbrev cX2_isField : ByteArray := prog_4_method_12_code
def yX2_isField : MethodName := ⟨RX2, "isField", "(I)Z"⟩
def RX3 : String := "HallSheets$MarkTruth"
def TX3 : u_T := fun k => match k with
  | 0 => ("HallSheets$MarkTruth", "any", "[Z", true)
  | 1 => ("HallSheets$MarkTruth", "all", "[Z", true)
  | 2 => ("HallSheets$MarkTruth", "turned", "[Z", true)
  | 3 => ("HallSheets$MarkTruth", "depth", "I", false)
  | 4 => ("HallSheets$MarkTruth", "left", "I", false)
  | 5 => ("HallSheets$MarkTruth", "comparison", "I", false)
  | 6 => ("HallSheets$MarkTruth", "sum", "I", false)
  | 7 => ("HallSheets$MarkTruth", "adding", "I", false)
  | 8 => ("HallSheets$MarkTruth", "product", "I", false)
  | 9 => ("HallSheets$MarkTruth", "scaling", "I", false)
  | _ => ("HallSheets$MarkTruth", "number", "I", false)
def tyX3 : Nat → FieldType := fun k => match k with
  | 0 => .array .boolean
  | 1 => .array .boolean
  | 2 => .array .boolean
  | 3 => .int
  | 4 => .int
  | 5 => .int
  | 6 => .int
  | 7 => .int
  | 8 => .int
  | 9 => .int
  | _ => .int
abbrev wsX30 : List Cond := u_ws RX3 TX3 11
theorem nmX3 : ∀ a, a < 11 → ∀ b, b < 11 → a ≠ b → (TX3 a).2.1 ≠ (TX3 b).2.1 := by decide +kernel
theorem tyX3_ok : ∀ k, k < 11 → parseFieldDescriptor (TX3 k).2.2.1 = some (tyX3 k) := by decide +kernel
abbrev cX3_init : ByteArray := prog_5_method_1_code
def yX3_init : MethodName := ⟨RX3, "<init>", "()V"⟩
abbrev cX3_holds : ByteArray := prog_5_method_2_code
def yX3_holds : MethodName := ⟨RX3, "holds", "([IILHallSheets$Hall;I)Z"⟩
abbrev cX3_fieldOf : ByteArray := prog_5_method_3_code
def yX3_fieldOf : MethodName := ⟨RX3, "fieldOf", "(ILHallSheets$Hall;I)I"⟩
abbrev cX3_beginGroup : ByteArray := prog_5_method_4_code
def yX3_beginGroup : MethodName := ⟨RX3, "beginGroup", "()V"⟩
abbrev cX3_beginSum : ByteArray := prog_5_method_5_code
def yX3_beginSum : MethodName := ⟨RX3, "beginSum", "()V"⟩
abbrev cX3_beginProduct : ByteArray := prog_5_method_6_code
def yX3_beginProduct : MethodName := ⟨RX3, "beginProduct", "()V"⟩
abbrev cX3_takeDigit : ByteArray := prog_5_method_7_code
def yX3_takeDigit : MethodName := ⟨RX3, "takeDigit", "(IZ)V"⟩
abbrev cX3_takeAtom : ByteArray := prog_5_method_8_code
def yX3_takeAtom : MethodName := ⟨RX3, "takeAtom", "(I)V"⟩
abbrev cX3_takeSign : ByteArray := prog_5_method_9_code
def yX3_takeSign : MethodName := ⟨RX3, "takeSign", "(I)V"⟩
abbrev cX3_takeJoint : ByteArray := prog_5_method_10_code
def yX3_takeJoint : MethodName := ⟨RX3, "takeJoint", "(I)V"⟩
abbrev cX3_endProduct : ByteArray := prog_5_method_11_code
def yX3_endProduct : MethodName := ⟨RX3, "endProduct", "()V"⟩
abbrev cX3_endTest : ByteArray := prog_5_method_12_code
def yX3_endTest : MethodName := ⟨RX3, "endTest", "()V"⟩
abbrev cX3_compared : ByteArray := prog_5_method_13_code
def yX3_compared : MethodName := ⟨RX3, "compared", "()Z"⟩
abbrev cX3_join : ByteArray := prog_5_method_14_code
def yX3_join : MethodName := ⟨RX3, "join", "(Z)V"⟩
def RX4 : String := "HallSheets$Recount"
def TX4 : u_T := fun k => match k with
  | 0 => ("HallSheets$Recount", "best", "[I", true)
  | _ => ("HallSheets$Recount", "chosen", "[I", true)
def tyX4 : Nat → FieldType := fun k => match k with
  | 0 => .array .int
  | _ => .array .int
abbrev wsX40 : List Cond := u_ws RX4 TX4 2
theorem nmX4 : ∀ a, a < 2 → ∀ b, b < 2 → a ≠ b → (TX4 a).2.1 ≠ (TX4 b).2.1 := by decide +kernel
theorem tyX4_ok : ∀ k, k < 2 → parseFieldDescriptor (TX4 k).2.2.1 = some (tyX4 k) := by decide +kernel
abbrev cX4_init : ByteArray := prog_6_method_1_code
def yX4_init : MethodName := ⟨RX4, "<init>", "()V"⟩
abbrev cX4_plan : ByteArray := prog_6_method_2_code
def yX4_plan : MethodName := ⟨RX4, "plan", "(LHallSheets$Country;I)V"⟩
abbrev cX4_worthOf : ByteArray := prog_6_method_3_code
def yX4_worthOf : MethodName := ⟨RX4, "worthOf", "(II)I"⟩
abbrev cX4_consider : ByteArray := prog_6_method_4_code
def yX4_consider : MethodName := ⟨RX4, "consider", "(IIII)V"⟩
def RX5 : String := "HallSheets$Sheet"
def TX5 : u_T := fun k => match k with
  | 0 => ("HallSheets$Sheet", "kind", "I", false)
  | _ => ("HallSheets$Sheet", "number", "I", false)
def tyX5 : Nat → FieldType := fun k => match k with
  | 0 => .int
  | _ => .int
abbrev wsX50 : List Cond := u_ws RX5 TX5 2
theorem nmX5 : ∀ a, a < 2 → ∀ b, b < 2 → a ≠ b → (TX5 a).2.1 ≠ (TX5 b).2.1 := by decide +kernel
theorem tyX5_ok : ∀ k, k < 2 → parseFieldDescriptor (TX5 k).2.2.1 = some (tyX5 k) := by decide +kernel
abbrev cX5_init : ByteArray := prog_7_method_1_code
def yX5_init : MethodName := ⟨RX5, "<init>", "()V"⟩
abbrev cX5_copyFrom : ByteArray := prog_7_method_2_code
def yX5_copyFrom : MethodName := ⟨RX5, "copyFrom", "(LHallSheets$Sheet;)V"⟩
abbrev cX5_tellsCame : ByteArray := prog_7_method_3_code
def yX5_tellsCame : MethodName := ⟨RX5, "tellsCame", "(II)I"⟩
abbrev cX5_tellsOurs : ByteArray := prog_7_method_4_code
def yX5_tellsOurs : MethodName := ⟨RX5, "tellsOurs", "(IIII)I"⟩
abbrev cX5_toTen : ByteArray := prog_7_method_5_code
def yX5_toTen : MethodName := ⟨RX5, "toTen", "(I)I"⟩
abbrev cX5_madeOurs : ByteArray := prog_7_method_6_code
def yX5_madeOurs : MethodName := ⟨RX5, "madeOurs", "(II)I"⟩
abbrev cX5_copiedOurs : ByteArray := prog_7_method_7_code
def yX5_copiedOurs : MethodName := ⟨RX5, "copiedOurs", "(II)I"⟩
abbrev cX5_heaviness : ByteArray := prog_7_method_8_code
def yX5_heaviness : MethodName := ⟨RX5, "heaviness", "()I"⟩
abbrev cX5_fail : ByteArray := prog_7_method_9_code
def yX5_fail : MethodName := ⟨RX5, "fail", "()V"⟩
def RX6 : String := "HallSheets$Shelf"
def TX6 : u_T := fun k => match k with
  | 0 => ("HallSheets$Shelf", "held", "I", false)
  | 1 => ("HallSheets$Shelf", "sheet", "LHallSheets$Sheet;", true)
  | 2 => ("HallSheets$Shelf", "hall", "I", false)
  | 3 => ("HallSheets$Shelf", "trueCame", "I", false)
  | 4 => ("HallSheets$Shelf", "sort", "I", false)
  | 5 => ("HallSheets$Shelf", "size", "I", false)
  | _ => ("HallSheets$Shelf", "elements", "[I", true)
def tyX6 : Nat → FieldType := fun k => match k with
  | 0 => .int
  | 1 => .object "HallSheets$Sheet"
  | 2 => .int
  | 3 => .int
  | 4 => .int
  | 5 => .int
  | _ => .array .int
abbrev wsX60 : List Cond := u_ws RX6 TX6 7
theorem nmX6 : ∀ a, a < 7 → ∀ b, b < 7 → a ≠ b → (TX6 a).2.1 ≠ (TX6 b).2.1 := by decide +kernel
theorem tyX6_ok : ∀ k, k < 7 → parseFieldDescriptor (TX6 k).2.2.1 = some (tyX6 k) := by decide +kernel
abbrev cX6_init : ByteArray := prog_8_method_1_code
def yX6_init : MethodName := ⟨RX6, "<init>", "()V"⟩
abbrev cX6_holdSheet : ByteArray := prog_8_method_2_code
def yX6_holdSheet : MethodName := ⟨RX6, "holdSheet", "(ILHallSheets$Hall;)V"⟩
abbrev cX6_holdRow : ByteArray := prog_8_method_3_code
def yX6_holdRow : MethodName := ⟨RX6, "holdRow", "(II)V"⟩
abbrev cX6_hasPlace : ByteArray := prog_8_method_4_code
def yX6_hasPlace : MethodName := ⟨RX6, "hasPlace", "(I)Z"⟩
abbrev cX6_hasPlaces : ByteArray := prog_8_method_5_code
def yX6_hasPlaces : MethodName := ⟨RX6, "hasPlaces", "(II)Z"⟩
abbrev cX6_lowestBits : ByteArray := prog_8_method_6_code
def yX6_lowestBits : MethodName := ⟨RX6, "lowestBits", "(I)I"⟩
abbrev cX6_tellsNumber : ByteArray := prog_8_method_7_code
def yX6_tellsNumber : MethodName := ⟨RX6, "tellsNumber", "(I)Z"⟩
abbrev cX6_leastNumber : ByteArray := prog_8_method_8_code
def yX6_leastNumber : MethodName := ⟨RX6, "leastNumber", "()I"⟩
abbrev cX6_caughtFailure : ByteArray := prog_8_method_9_code
def yX6_caughtFailure : MethodName := ⟨RX6, "caughtFailure", "()I"⟩
def RX7 : String := "HallSheets$Watchers"
def TX7 : u_T := fun k => match k with
  | 0 => ("HallSheets$Watchers", "shares", "[I", true)
  | 1 => ("HallSheets$Watchers", "all", "I", false)
  | 2 => ("HallSheets$Watchers", "allShares", "I", false)
  | 3 => ("HallSheets$Watchers", "watched", "I", false)
  | _ => ("HallSheets$Watchers", "watchedShares", "I", false)
def tyX7 : Nat → FieldType := fun k => match k with
  | 0 => .array .int
  | 1 => .int
  | 2 => .int
  | 3 => .int
  | _ => .int
abbrev wsX70 : List Cond := u_ws RX7 TX7 5
theorem nmX7 : ∀ a, a < 5 → ∀ b, b < 5 → a ≠ b → (TX7 a).2.1 ≠ (TX7 b).2.1 := by decide +kernel
theorem tyX7_ok : ∀ k, k < 5 → parseFieldDescriptor (TX7 k).2.2.1 = some (tyX7 k) := by decide +kernel
abbrev cX7_init : ByteArray := prog_9_method_1_code
def yX7_init : MethodName := ⟨RX7, "<init>", "()V"⟩
abbrev cX7_look : ByteArray := prog_9_method_2_code
def yX7_look : MethodName := ⟨RX7, "look", "(LHallSheets$Country;)V"⟩
abbrev cX7_areFew : ByteArray := prog_9_method_3_code
def yX7_areFew : MethodName := ⟨RX7, "areFew", "()Z"⟩
abbrev cX7_areSome : ByteArray := prog_9_method_4_code
def yX7_areSome : MethodName := ⟨RX7, "areSome", "()Z"⟩
abbrev cX7_worth : ByteArray := prog_9_method_5_code
def yX7_worth : MethodName := ⟨RX7, "worth", "()I"⟩
abbrev cX7_choices : ByteArray := prog_9_method_6_code
def yX7_choices : MethodName := ⟨RX7, "choices", "(Z)I"⟩
abbrev cX7_sharesIn : ByteArray := prog_9_method_7_code
def yX7_sharesIn : MethodName := ⟨RX7, "sharesIn", "(I)I"⟩
def RX8 : String := "HallSheets"
def TX8 : u_T := fun k => match k with
  | 0 => ("HallSheets", "now", "LHallSheets$Country;", true)
  | 1 => ("HallSheets", "then", "LHallSheets$Country;", true)
  | 2 => ("HallSheets", "mind", "LHallSheets$Country;", true)
  | 3 => ("HallSheets", "imageTaken", "Z", false)
  | 4 => ("HallSheets", "shelves", "[LHallSheets$Shelf;", true)
  | 5 => ("HallSheets", "watchers", "LHallSheets$Watchers;", true)
  | 6 => ("HallSheets", "recount", "LHallSheets$Recount;", true)
  | _ => ("HallSheets", "grammar", "LHallSheets$MarkGrammar;", true)
def tyX8 : Nat → FieldType := fun k => match k with
  | 0 => .object "HallSheets$Country"
  | 1 => .object "HallSheets$Country"
  | 2 => .object "HallSheets$Country"
  | 3 => .boolean
  | 4 => .array (.object "HallSheets$Shelf")
  | 5 => .object "HallSheets$Watchers"
  | 6 => .object "HallSheets$Recount"
  | _ => .object "HallSheets$MarkGrammar"
abbrev wsX80 : List Cond := u_ws RX8 TX8 8
theorem nmX8 : ∀ a, a < 8 → ∀ b, b < 8 → a ≠ b → (TX8 a).2.1 ≠ (TX8 b).2.1 := by decide +kernel
theorem tyX8_ok : ∀ k, k < 8 → parseFieldDescriptor (TX8 k).2.2.1 = some (tyX8 k) := by decide +kernel
abbrev cX8_init : ByteArray := prog_1_method_1_code
def yX8_init : MethodName := ⟨RX8, "<init>", "()V"⟩
abbrev cX8_hall : ByteArray := prog_1_method_2_code
def yX8_hall : MethodName := ⟨RX8, "hall", "(III)I"⟩
abbrev cX8_truly : ByteArray := prog_1_method_3_code
def yX8_truly : MethodName := ⟨RX8, "truly", "(III)I"⟩
abbrev cX8_sheet : ByteArray := prog_1_method_4_code
def yX8_sheet : MethodName := ⟨RX8, "sheet", "(III)I"⟩
abbrev cX8_set : ByteArray := prog_1_method_5_code
def yX8_set : MethodName := ⟨RX8, "set", "(II)I"⟩
abbrev cX8_of : ByteArray := prog_1_method_6_code
def yX8_of : MethodName := ⟨RX8, "of", "(II)I"⟩
abbrev cX8_send : ByteArray := prog_1_method_7_code
def yX8_send : MethodName := ⟨RX8, "send", "(I)I"⟩
abbrev cX8_hear : ByteArray := prog_1_method_8_code
def yX8_hear : MethodName := ⟨RX8, "hear", "(II)I"⟩
abbrev cX8_hearOne : ByteArray := prog_1_method_9_code
def yX8_hearOne : MethodName := ⟨RX8, "hearOne", "(LHallSheets$Hall;LHallSheets$Shelf;LHallSheets$Shelf;I)V"⟩
abbrev cX8_figures : ByteArray := prog_1_method_10_code
def yX8_figures : MethodName := ⟨RX8, "figures", "(II)I"⟩
abbrev cX8_odds : ByteArray := prog_1_method_11_code
def yX8_odds : MethodName := ⟨RX8, "odds", "(I)J"⟩
abbrev cX8_round : ByteArray := prog_1_method_12_code
def yX8_round : MethodName := ⟨RX8, "round", "(I)I"⟩
abbrev cX8_may : ByteArray := prog_1_method_13_code
def yX8_may : MethodName := ⟨RX8, "may", "(II)I"⟩
abbrev cX8_roundChoices : ByteArray := prog_1_method_14_code
def yX8_roundChoices : MethodName := ⟨RX8, "roundChoices", "(I)I"⟩
abbrev cX8_leastCame : ByteArray := prog_1_method_15_code
def yX8_leastCame : MethodName := ⟨RX8, "leastCame", "(I)I"⟩
abbrev cX8_middle : ByteArray := prog_1_method_16_code
def yX8_middle : MethodName := ⟨RX8, "middle", "(I)I"⟩
abbrev cX8_left : ByteArray := prog_1_method_17_code
def yX8_left : MethodName := ⟨RX8, "left", "(I)I"⟩
abbrev cX8_trulyAll : ByteArray := prog_1_method_18_code
def yX8_trulyAll : MethodName := ⟨RX8, "trulyAll", "(I)I"⟩
abbrev cX8_watch : ByteArray := prog_1_method_19_code
def yX8_watch : MethodName := ⟨RX8, "watch", "(IZ)I"⟩
abbrev cX8_cost : ByteArray := prog_1_method_20_code
def yX8_cost : MethodName := ⟨RX8, "cost", "()I"⟩
abbrev cX8_ways : ByteArray := prog_1_method_21_code
def yX8_ways : MethodName := ⟨RX8, "ways", "(I)I"⟩
abbrev cX8_up : ByteArray := prog_1_method_22_code
def yX8_up : MethodName := ⟨RX8, "up", "(III)I"⟩
abbrev cX8_down : ByteArray := prog_1_method_23_code
def yX8_down : MethodName := ⟨RX8, "down", "(I)I"⟩
abbrev cX8_sum : ByteArray := prog_1_method_24_code
def yX8_sum : MethodName := ⟨RX8, "sum", "(II)I"⟩
abbrev cX8_won : ByteArray := prog_1_method_25_code
def yX8_won : MethodName := ⟨RX8, "won", "()I"⟩
abbrev cX8_helped : ByteArray := prog_1_method_26_code
def yX8_helped : MethodName := ⟨RX8, "helped", "()I"⟩
abbrev cX8_untrue : ByteArray := prog_1_method_27_code
def yX8_untrue : MethodName := ⟨RX8, "untrue", "(II)I"⟩
abbrev cX8_turn : ByteArray := prog_1_method_28_code
def yX8_turn : MethodName := ⟨RX8, "turn", "()I"⟩
abbrev cX8_again : ByteArray := prog_1_method_29_code
def yX8_again : MethodName := ⟨RX8, "again", "(II)I"⟩
abbrev cX8_measure : ByteArray := prog_1_method_30_code
def yX8_measure : MethodName := ⟨RX8, "measure", "(I)I"⟩
abbrev cX8_odd : ByteArray := prog_1_method_31_code
def yX8_odd : MethodName := ⟨RX8, "odd", "(III)I"⟩
abbrev cX8_land : ByteArray := prog_1_method_32_code
def yX8_land : MethodName := ⟨RX8, "land", "(I)I"⟩
abbrev cX8_fault : ByteArray := prog_1_method_33_code
def yX8_fault : MethodName := ⟨RX8, "fault", "(I)I"⟩
abbrev cX8_mark : ByteArray := prog_1_method_34_code
def yX8_mark : MethodName := ⟨RX8, "mark", "(I)I"⟩
abbrev cX8_marked : ByteArray := prog_1_method_35_code
def yX8_marked : MethodName := ⟨RX8, "marked", "(I)I"⟩
abbrev cX8_said : ByteArray := prog_1_method_36_code
def yX8_said : MethodName := ⟨RX8, "said", "(II)I"⟩
abbrev cX8_image : ByteArray := prog_1_method_37_code
def yX8_image : MethodName := ⟨RX8, "image", "()I"⟩
abbrev cX8_restore : ByteArray := prog_1_method_38_code
def yX8_restore : MethodName := ⟨RX8, "restore", "()I"⟩
abbrev cX8_count : ByteArray := prog_1_method_39_code
def yX8_count : MethodName := ⟨RX8, "count", "(I)I"⟩
abbrev cX8_keep : ByteArray := prog_1_method_40_code
def yX8_keep : MethodName := ⟨RX8, "keep", "(III)I"⟩
abbrev cX8_row : ByteArray := prog_1_method_41_code
def yX8_row : MethodName := ⟨RX8, "row", "(III)I"⟩
abbrev cX8_put : ByteArray := prog_1_method_42_code
def yX8_put : MethodName := ⟨RX8, "put", "(III)I"⟩
abbrev cX8_element : ByteArray := prog_1_method_43_code
def yX8_element : MethodName := ⟨RX8, "element", "(II)J"⟩
abbrev cX8_copy : ByteArray := prog_1_method_44_code
def yX8_copy : MethodName := ⟨RX8, "copy", "(IIIII)I"⟩
abbrev cX8_weight : ByteArray := prog_1_method_45_code
def yX8_weight : MethodName := ⟨RX8, "weight", "(I)I"⟩
abbrev cX8_toss : ByteArray := prog_1_method_46_code
def yX8_toss : MethodName := ⟨RX8, "toss", "(I)I"⟩
abbrev cX8_within : ByteArray := prog_1_method_47_code
def yX8_within : MethodName := ⟨RX8, "within", "(III)Z"⟩
abbrev cX8_heldTo : ByteArray := prog_1_method_48_code
def yX8_heldTo : MethodName := ⟨RX8, "heldTo", "(III)I"⟩
abbrev cX8_shareOf : ByteArray := prog_1_method_49_code
def yX8_shareOf : MethodName := ⟨RX8, "shareOf", "(II)I"⟩
abbrev cX8_isRound : ByteArray := prog_1_method_50_code
def yX8_isRound : MethodName := ⟨RX8, "isRound", "(II)Z"⟩
abbrev cX8_isDistrict : ByteArray := prog_1_method_51_code
def yX8_isDistrict : MethodName := ⟨RX8, "isDistrict", "(I)Z"⟩
abbrev cX8_isShelf : ByteArray := prog_1_method_52_code
def yX8_isShelf : MethodName := ⟨RX8, "isShelf", "(I)Z"⟩
abbrev cX8_sheetRefusal : ByteArray := prog_1_method_53_code
def yX8_sheetRefusal : MethodName := ⟨RX8, "sheetRefusal", "(I)I"⟩
abbrev cX8_rowRefusal : ByteArray := prog_1_method_54_code
def yX8_rowRefusal : MethodName := ⟨RX8, "rowRefusal", "(I)I"⟩
abbrev cX8_rowsRefusal : ByteArray := prog_1_method_55_code
def yX8_rowsRefusal : MethodName := ⟨RX8, "rowsRefusal", "(II)I"⟩
abbrev cX8_textRefusal : ByteArray := prog_1_method_56_code
def yX8_textRefusal : MethodName := ⟨RX8, "textRefusal", "(I)I"⟩
def RX9 : String := "HallSheetsModel"
def TX9 : u_T := fun k => match k with
  | 0 => ("HallSheetsModel", "s", "[I", true)
  | 1 => ("HallSheetsModel", "image", "[I", true)
  | 2 => ("HallSheetsModel", "kept", "[I", true)
  | 3 => ("HallSheetsModel", "sort", "[I", true)
  | 4 => ("HallSheetsModel", "size", "[I", true)
  | 5 => ("HallSheetsModel", "element", "[I", true)
  | 6 => ("HallSheetsModel", "keptWeight", "[I", true)
  | 7 => ("HallSheetsModel", "keptToss", "[I", true)
  | 8 => ("HallSheetsModel", "hasImage", "Z", false)
  | 9 => ("HallSheetsModel", "thrown", "I", false)
  | 10 => ("HallSheetsModel", "count", "[I", true)
  | 11 => ("HallSheetsModel", "counted", "I", false)
  | 12 => ("HallSheetsModel", "shares", "[I", true)
  | 13 => ("HallSheetsModel", "some", "I", false)
  | 14 => ("HallSheetsModel", "someWatched", "I", false)
  | 15 => ("HallSheetsModel", "worths", "[I", true)
  | 16 => ("HallSheetsModel", "seed", "I", false)
  | 17 => ("HallSheetsModel", "landCame", "[I", true)
  | 18 => ("HallSheetsModel", "landOurs", "[I", true)
  | 19 => ("HallSheetsModel", "oldCame", "[I", true)
  | 20 => ("HallSheetsModel", "oldOurs", "[I", true)
  | 21 => ("HallSheetsModel", "pos", "I", false)
  | 22 => ("HallSheetsModel", "base", "I", false)
  | 23 => ("HallSheetsModel", "end", "I", false)
  | 24 => ("HallSheetsModel", "deep", "I", false)
  | 25 => ("HallSheetsModel", "asked", "I", false)
  | 26 => ("HallSheetsModel", "text", "[I", false)
  | _ => ("HallSheetsModel", "isWell", "Z", false)
def tyX9 : Nat → FieldType := fun k => match k with
  | 0 => .array .int
  | 1 => .array .int
  | 2 => .array .int
  | 3 => .array .int
  | 4 => .array .int
  | 5 => .array .int
  | 6 => .array .int
  | 7 => .array .int
  | 8 => .boolean
  | 9 => .int
  | 10 => .array .int
  | 11 => .int
  | 12 => .array .int
  | 13 => .int
  | 14 => .int
  | 15 => .array .int
  | 16 => .int
  | 17 => .array .int
  | 18 => .array .int
  | 19 => .array .int
  | 20 => .array .int
  | 21 => .int
  | 22 => .int
  | 23 => .int
  | 24 => .int
  | 25 => .int
  | 26 => .array .int
  | _ => .boolean
abbrev wsX90 : List Cond := u_ws RX9 TX9 28
theorem nmX9 : ∀ a, a < 28 → ∀ b, b < 28 → a ≠ b → (TX9 a).2.1 ≠ (TX9 b).2.1 := by decide +kernel
theorem tyX9_ok : ∀ k, k < 28 → parseFieldDescriptor (TX9 k).2.2.1 = some (tyX9 k) := by decide +kernel
abbrev cX9_init : ByteArray := prog_11_method_1_code
def yX9_init : MethodName := ⟨RX9, "<init>", "()V"⟩
abbrev cX9_thrown : ByteArray := prog_11_method_2_code
def yX9_thrown : MethodName := ⟨RX9, "thrown", "()I"⟩
abbrev cX9_isIn : ByteArray := prog_11_method_3_code
def yX9_isIn : MethodName := ⟨RX9, "isIn", "(JJJ)Z"⟩
abbrev cX9_isHall : ByteArray := prog_11_method_4_code
def yX9_isHall : MethodName := ⟨RX9, "isHall", "(I)Z"⟩
abbrev cX9_isShelf : ByteArray := prog_11_method_5_code
def yX9_isShelf : MethodName := ⟨RX9, "isShelf", "(I)Z"⟩
abbrev cX9_get : ByteArray := prog_11_method_6_code
def yX9_get : MethodName := ⟨RX9, "get", "(II)I"⟩
abbrev cX9_becomes : ByteArray := prog_11_method_7_code
def yX9_becomes : MethodName := ⟨RX9, "becomes", "(II)I"⟩
abbrev cX9_hall : ByteArray := prog_11_method_8_code
def yX9_hall : MethodName := ⟨RX9, "hall", "(III)I"⟩
abbrev cX9_truly : ByteArray := prog_11_method_9_code
def yX9_truly : MethodName := ⟨RX9, "truly", "(III)I"⟩
abbrev cX9_sheet : ByteArray := prog_11_method_10_code
def yX9_sheet : MethodName := ⟨RX9, "sheet", "(III)I"⟩
abbrev cX9_set : ByteArray := prog_11_method_11_code
def yX9_set : MethodName := ⟨RX9, "set", "(II)I"⟩
abbrev cX9_less : ByteArray := prog_11_method_12_code
def yX9_less : MethodName := ⟨RX9, "less", "(II)I"⟩
abbrev cX9_tellsCame : ByteArray := prog_11_method_13_code
def yX9_tellsCame : MethodName := ⟨RX9, "tellsCame", "(I)I"⟩
abbrev cX9_tellsOurs : ByteArray := prog_11_method_14_code
def yX9_tellsOurs : MethodName := ⟨RX9, "tellsOurs", "(I)I"⟩
abbrev cX9_has : ByteArray := prog_11_method_15_code
def yX9_has : MethodName := ⟨RX9, "has", "(I)Z"⟩
abbrev cX9_share : ByteArray := prog_11_method_16_code
def yX9_share : MethodName := ⟨RX9, "share", "(I)I"⟩
abbrev cX9_of : ByteArray := prog_11_method_17_code
def yX9_of : MethodName := ⟨RX9, "of", "(II)I"⟩
abbrev cX9_there : ByteArray := prog_11_method_18_code
def yX9_there : MethodName := ⟨RX9, "there", "()I"⟩
abbrev cX9_writes : ByteArray := prog_11_method_19_code
def yX9_writes : MethodName := ⟨RX9, "writes", "(III)V"⟩
abbrev cX9_send : ByteArray := prog_11_method_20_code
def yX9_send : MethodName := ⟨RX9, "send", "(I)I"⟩
abbrev cX9_wrongRow : ByteArray := prog_11_method_21_code
def yX9_wrongRow : MethodName := ⟨RX9, "wrongRow", "(II)I"⟩
abbrev cX9_held : ByteArray := prog_11_method_22_code
def yX9_held : MethodName := ⟨RX9, "held", "(II)I"⟩
abbrev cX9_hear : ByteArray := prog_11_method_23_code
def yX9_hear : MethodName := ⟨RX9, "hear", "(II)I"⟩
abbrev cX9_figureOf : ByteArray := prog_11_method_24_code
def yX9_figureOf : MethodName := ⟨RX9, "figureOf", "(II)I"⟩
abbrev cX9_hasFigure : ByteArray := prog_11_method_25_code
def yX9_hasFigure : MethodName := ⟨RX9, "hasFigure", "(II)Z"⟩
abbrev cX9_counts : ByteArray := prog_11_method_26_code
def yX9_counts : MethodName := ⟨RX9, "counts", "(II)V"⟩
abbrev cX9_figures : ByteArray := prog_11_method_27_code
def yX9_figures : MethodName := ⟨RX9, "figures", "(II)I"⟩
abbrev cX9_odds : ByteArray := prog_11_method_28_code
def yX9_odds : MethodName := ⟨RX9, "odds", "(I)J"⟩
abbrev cX9_isRound : ByteArray := prog_11_method_29_code
def yX9_isRound : MethodName := ⟨RX9, "isRound", "(II)Z"⟩
abbrev cX9_round : ByteArray := prog_11_method_30_code
def yX9_round : MethodName := ⟨RX9, "round", "(I)I"⟩
abbrev cX9_may : ByteArray := prog_11_method_31_code
def yX9_may : MethodName := ⟨RX9, "may", "(II)I"⟩
abbrev cX9_middleOf : ByteArray := prog_11_method_32_code
def yX9_middleOf : MethodName := ⟨RX9, "middleOf", "(I)I"⟩
abbrev cX9_middle : ByteArray := prog_11_method_33_code
def yX9_middle : MethodName := ⟨RX9, "middle", "(I)I"⟩
abbrev cX9_leftOf : ByteArray := prog_11_method_34_code
def yX9_leftOf : MethodName := ⟨RX9, "leftOf", "(I)I"⟩
abbrev cX9_left : ByteArray := prog_11_method_35_code
def yX9_left : MethodName := ⟨RX9, "left", "(I)I"⟩
abbrev cX9_trulyAll : ByteArray := prog_11_method_36_code
def yX9_trulyAll : MethodName := ⟨RX9, "trulyAll", "(I)I"⟩
abbrev cX9_watch : ByteArray := prog_11_method_37_code
def yX9_watch : MethodName := ⟨RX9, "watch", "(IZ)I"⟩
abbrev cX9_findWatched : ByteArray := prog_11_method_38_code
def yX9_findWatched : MethodName := ⟨RX9, "findWatched", "()I"⟩
abbrev cX9_costOf : ByteArray := prog_11_method_39_code
def yX9_costOf : MethodName := ⟨RX9, "costOf", "(I)I"⟩
abbrev cX9_cost : ByteArray := prog_11_method_40_code
def yX9_cost : MethodName := ⟨RX9, "cost", "()I"⟩
abbrev cX9_bits : ByteArray := prog_11_method_41_code
def yX9_bits : MethodName := ⟨RX9, "bits", "(I)I"⟩
abbrev cX9_ways : ByteArray := prog_11_method_42_code
def yX9_ways : MethodName := ⟨RX9, "ways", "(I)I"⟩
abbrev cX9_up : ByteArray := prog_11_method_43_code
def yX9_up : MethodName := ⟨RX9, "up", "(III)I"⟩
abbrev cX9_down : ByteArray := prog_11_method_44_code
def yX9_down : MethodName := ⟨RX9, "down", "(I)I"⟩
abbrev cX9_written : ByteArray := prog_11_method_45_code
def yX9_written : MethodName := ⟨RX9, "written", "(II)I"⟩
abbrev cX9_sentUp : ByteArray := prog_11_method_46_code
def yX9_sentUp : MethodName := ⟨RX9, "sentUp", "(II)I"⟩
abbrev cX9_sum : ByteArray := prog_11_method_47_code
def yX9_sum : MethodName := ⟨RX9, "sum", "(II)I"⟩
abbrev cX9_won : ByteArray := prog_11_method_48_code
def yX9_won : MethodName := ⟨RX9, "won", "()I"⟩
abbrev cX9_helped : ByteArray := prog_11_method_49_code
def yX9_helped : MethodName := ⟨RX9, "helped", "()I"⟩
abbrev cX9_amount : ByteArray := prog_11_method_50_code
def yX9_amount : MethodName := ⟨RX9, "amount", "(I)I"⟩
abbrev cX9_untrueOf : ByteArray := prog_11_method_51_code
def yX9_untrueOf : MethodName := ⟨RX9, "untrueOf", "(II)I"⟩
abbrev cX9_untrueAll : ByteArray := prog_11_method_52_code
def yX9_untrueAll : MethodName := ⟨RX9, "untrueAll", "(I)I"⟩
abbrev cX9_untrue : ByteArray := prog_11_method_53_code
def yX9_untrue : MethodName := ⟨RX9, "untrue", "(II)I"⟩
abbrev cX9_falls : ByteArray := prog_11_method_54_code
def yX9_falls : MethodName := ⟨RX9, "falls", "(I)I"⟩
abbrev cX9_turn : ByteArray := prog_11_method_55_code
def yX9_turn : MethodName := ⟨RX9, "turn", "()I"⟩
abbrev cX9_costAgain : ByteArray := prog_11_method_56_code
def yX9_costAgain : MethodName := ⟨RX9, "costAgain", "(I)I"⟩
abbrev cX9_worthAgain : ByteArray := prog_11_method_57_code
def yX9_worthAgain : MethodName := ⟨RX9, "worthAgain", "(I)I"⟩
abbrev cX9_findAgain : ByteArray := prog_11_method_58_code
def yX9_findAgain : MethodName := ⟨RX9, "findAgain", "()V"⟩
abbrev cX9_again : ByteArray := prog_11_method_59_code
def yX9_again : MethodName := ⟨RX9, "again", "(II)I"⟩
abbrev cX9_squares : ByteArray := prog_11_method_60_code
def yX9_squares : MethodName := ⟨RX9, "squares", "(I)I"⟩
abbrev cX9_measureNow : ByteArray := prog_11_method_61_code
def yX9_measureNow : MethodName := ⟨RX9, "measureNow", "(I)I"⟩
abbrev cX9_measure : ByteArray := prog_11_method_62_code
def yX9_measure : MethodName := ⟨RX9, "measure", "(I)I"⟩
abbrev cX9_hundredths : ByteArray := prog_11_method_63_code
def yX9_hundredths : MethodName := ⟨RX9, "hundredths", "(I)I"⟩
abbrev cX9_makes : ByteArray := prog_11_method_64_code
def yX9_makes : MethodName := ⟨RX9, "makes", "(I)V"⟩
abbrev cX9_odd : ByteArray := prog_11_method_65_code
def yX9_odd : MethodName := ⟨RX9, "odd", "(III)I"⟩
abbrev cX9_land : ByteArray := prog_11_method_66_code
def yX9_land : MethodName := ⟨RX9, "land", "(I)I"⟩
abbrev cX9_sign : ByteArray := prog_11_method_67_code
def yX9_sign : MethodName := ⟨RX9, "sign", "()I"⟩
abbrev cX9_takes : ByteArray := prog_11_method_68_code
def yX9_takes : MethodName := ⟨RX9, "takes", "(I)Z"⟩
abbrev cX9_breaks : ByteArray := prog_11_method_69_code
def yX9_breaks : MethodName := ⟨RX9, "breaks", "()Z"⟩
abbrev cX9_or : ByteArray := prog_11_method_70_code
def yX9_or : MethodName := ⟨RX9, "or", "()Z"⟩
abbrev cX9_and : ByteArray := prog_11_method_71_code
def yX9_and : MethodName := ⟨RX9, "and", "()Z"⟩
abbrev cX9_test : ByteArray := prog_11_method_72_code
def yX9_test : MethodName := ⟨RX9, "test", "()Z"⟩
abbrev cX9_sum_ : ByteArray := prog_11_method_73_code
def yX9_sum_ : MethodName := ⟨RX9, "sum", "()I"⟩
abbrev cX9_product : ByteArray := prog_11_method_74_code
def yX9_product : MethodName := ⟨RX9, "product", "()I"⟩
abbrev cX9_isDigit : ByteArray := prog_11_method_75_code
def yX9_isDigit : MethodName := ⟨RX9, "isDigit", "(I)Z"⟩
abbrev cX9_atom : ByteArray := prog_11_method_76_code
def yX9_atom : MethodName := ⟨RX9, "atom", "()I"⟩
abbrev cX9_fieldOf : ByteArray := prog_11_method_77_code
def yX9_fieldOf : MethodName := ⟨RX9, "fieldOf", "(I)I"⟩
abbrev cX9_begins : ByteArray := prog_11_method_78_code
def yX9_begins : MethodName := ⟨RX9, "begins", "([IIII)V"⟩
abbrev cX9_faultOf : ByteArray := prog_11_method_79_code
def yX9_faultOf : MethodName := ⟨RX9, "faultOf", "(I)I"⟩
abbrev cX9_fault : ByteArray := prog_11_method_80_code
def yX9_fault : MethodName := ⟨RX9, "fault", "(I)I"⟩
abbrev cX9_mark : ByteArray := prog_11_method_81_code
def yX9_mark : MethodName := ⟨RX9, "mark", "(I)I"⟩
abbrev cX9_markOf : ByteArray := prog_11_method_82_code
def yX9_markOf : MethodName := ⟨RX9, "markOf", "(I)I"⟩
abbrev cX9_marked : ByteArray := prog_11_method_83_code
def yX9_marked : MethodName := ⟨RX9, "marked", "(I)I"⟩
abbrev cX9_said : ByteArray := prog_11_method_84_code
def yX9_said : MethodName := ⟨RX9, "said", "(II)I"⟩
abbrev cX9_image : ByteArray := prog_11_method_85_code
def yX9_image : MethodName := ⟨RX9, "image", "()I"⟩
abbrev cX9_restore : ByteArray := prog_11_method_86_code
def yX9_restore : MethodName := ⟨RX9, "restore", "()I"⟩
abbrev cX9_count : ByteArray := prog_11_method_87_code
def yX9_count : MethodName := ⟨RX9, "count", "(I)I"⟩
abbrev cX9_weightOf : ByteArray := prog_11_method_88_code
def yX9_weightOf : MethodName := ⟨RX9, "weightOf", "(I)I"⟩
abbrev cX9_keep : ByteArray := prog_11_method_89_code
def yX9_keep : MethodName := ⟨RX9, "keep", "(III)I"⟩
abbrev cX9_row : ByteArray := prog_11_method_90_code
def yX9_row : MethodName := ⟨RX9, "row", "(III)I"⟩
abbrev cX9_put : ByteArray := prog_11_method_91_code
def yX9_put : MethodName := ⟨RX9, "put", "(III)I"⟩
abbrev cX9_element : ByteArray := prog_11_method_92_code
def yX9_element : MethodName := ⟨RX9, "element", "(II)J"⟩
abbrev cX9_copy : ByteArray := prog_11_method_93_code
def yX9_copy : MethodName := ⟨RX9, "copy", "(IIIII)I"⟩
abbrev cX9_wrongKept : ByteArray := prog_11_method_94_code
def yX9_wrongKept : MethodName := ⟨RX9, "wrongKept", "(I)I"⟩
abbrev cX9_weight : ByteArray := prog_11_method_95_code
def yX9_weight : MethodName := ⟨RX9, "weight", "(I)I"⟩
abbrev cX9_toss : ByteArray := prog_11_method_96_code
def yX9_toss : MethodName := ⟨RX9, "toss", "(I)I"⟩
def RJx145de : String := "java/io/Serializable"
def RJx9f9b0 : String := "java/lang/CharSequence"
def RJ11 : String := "java/lang/Character"
abbrev cJ11_isValidCodePoint_9a6ad : ByteArray := prog_14_method_11_code
def yJ11_isValidCodePoint_9a6ad : MethodName := ⟨RJ11, "isValidCodePoint", "(I)Z"⟩
abbrev cJ11_highSurrogate_5068e : ByteArray := prog_14_method_28_code
def yJ11_highSurrogate_5068e : MethodName := ⟨RJ11, "highSurrogate", "(I)C"⟩
abbrev cJ11_lowSurrogate_5068e : ByteArray := prog_14_method_29_code
def yJ11_lowSurrogate_5068e : MethodName := ⟨RJ11, "lowSurrogate", "(I)C"⟩
def RJxb160c : String := "java/lang/Comparable"
def RJ6 : String := "java/lang/Integer"
abbrev cJ6_bitCount_0f7a4 : ByteArray := prog_19_method_49_code
def yJ6_bitCount_0f7a4 : MethodName := ⟨RJ6, "bitCount", "(I)I"⟩
def RJ9 : String := "java/lang/Math"
abbrev cJ9_abs_0f7a4 : ByteArray := prog_20_method_59_code
def yJ9_abs_0f7a4 : MethodName := ⟨RJ9, "abs", "(I)I"⟩
abbrev cJ9_max_7cf53 : ByteArray := prog_20_method_65_code
def yJ9_max_7cf53 : MethodName := ⟨RJ9, "max", "(II)I"⟩
abbrev cJ9_min_7cf53 : ByteArray := prog_20_method_69_code
def yJ9_min_7cf53 : MethodName := ⟨RJ9, "min", "(II)I"⟩
def RJ0 : String := "java/lang/String"
abbrev cJ0_length_8abf5 : ByteArray := prog_22_method_54_code
def yJ0_length_8abf5 : MethodName := ⟨RJ0, "length", "()I"⟩
abbrev cJ0_indexOf_0f7a4 : ByteArray := prog_22_method_79_code
def yJ0_indexOf_0f7a4 : MethodName := ⟨RJ0, "indexOf", "(I)I"⟩
abbrev cJ0_indexOf_7cf53 : ByteArray := prog_22_method_80_code
def yJ0_indexOf_7cf53 : MethodName := ⟨RJ0, "indexOf", "(II)I"⟩
abbrev cJ0_coder_7d493 : ByteArray := prog_22_method_152_code
def yJ0_coder_7d493 : MethodName := ⟨RJ0, "coder", "()B"⟩
abbrev cJ0_isLatin1_aae02 : ByteArray := prog_22_method_154_code
def yJ0_isLatin1_aae02 : MethodName := ⟨RJ0, "isLatin1", "()Z"⟩
abbrev cJ0_checkBoundsBeginEnd_23922 : ByteArray := prog_22_method_158_code
def yJ0_checkBoundsBeginEnd_23922 : MethodName := ⟨RJ0, "checkBoundsBeginEnd", "(III)V"⟩
def RJ1 : String := "java/lang/StringLatin1"
abbrev cJ1_canEncode_9a6ad : ByteArray := prog_23_method_4_code
def yJ1_canEncode_9a6ad : MethodName := ⟨RJ1, "canEncode", "(I)Z"⟩
abbrev cJ1_indexOf_4cfef : ByteArray := prog_23_method_22_code
def yJ1_indexOf_4cfef : MethodName := ⟨RJ1, "indexOf", "([BIII)I"⟩
abbrev cJ1_indexOfChar_4cfef : ByteArray := prog_23_method_23_code
def yJ1_indexOfChar_4cfef : MethodName := ⟨RJ1, "indexOfChar", "([BIII)I"⟩
def RJ2 : String := "java/lang/StringUTF16"
abbrev cJ2_getChar_3b067 : ByteArray := prog_24_method_5_code
def yJ2_getChar_3b067 : MethodName := ⟨RJ2, "getChar", "([BI)C"⟩
abbrev cJ2_length_9d52b : ByteArray := prog_24_method_6_code
def yJ2_length_9d52b : MethodName := ⟨RJ2, "length", "([B)I"⟩
abbrev cJ2_indexOf_4cfef : ByteArray := prog_24_method_40_code
def yJ2_indexOf_4cfef : MethodName := ⟨RJ2, "indexOf", "([BIII)I"⟩
abbrev cJ2_indexOfChar_4cfef : ByteArray := prog_24_method_47_code
def yJ2_indexOfChar_4cfef : MethodName := ⟨RJ2, "indexOfChar", "([BIII)I"⟩
abbrev cJ2_indexOfCharUnsafe_4cfef : ByteArray := prog_24_method_48_code
def yJ2_indexOfCharUnsafe_4cfef : MethodName := ⟨RJ2, "indexOfCharUnsafe", "([BIII)I"⟩
abbrev cJ2_indexOfSupplementary_4cfef : ByteArray := prog_24_method_49_code
def yJ2_indexOfSupplementary_4cfef : MethodName := ⟨RJ2, "indexOfSupplementary", "([BIII)I"⟩
abbrev cJ2_checkBoundsBeginEnd_d044e : ByteArray := prog_24_method_93_code
def yJ2_checkBoundsBeginEnd_d044e : MethodName := ⟨RJ2, "checkBoundsBeginEnd", "(II[B)V"⟩
def RJ10 : String := "java/lang/System"
def RJxfd54e : String := "java/lang/constant/Constable"
def RJx3cf43 : String := "java/lang/constant/ConstantDesc"
def RJ7 : String := "java/util/Arrays"
abbrev cJ7_fill_53178 : ByteArray := prog_30_method_103_code
def yJ7_fill_53178 : MethodName := ⟨RJ7, "fill", "([II)V"⟩
def RJ3 : String := "jdk/internal/util/Preconditions"
abbrev cJ3_checkFromToIndex_8c36e : ByteArray := prog_32_method_12_code
def yJ3_checkFromToIndex_8c36e : MethodName := ⟨RJ3, "checkFromToIndex", "(IIILjava/util/function/BiFunction;)I"⟩
def RL : String := "HallSheetsLaw"
abbrev cL_element : ByteArray := method_3_code
def yL_element : MethodName := ⟨RL, "element", "(LHallSheets;II[J)I"⟩
abbrev cL_law : ByteArray := code
def yL_law : MethodName := ⟨RL, "law", "([I)Z"⟩
abbrev vwCl : List vw_C := [(RX0, TX0, 12), (RX1, TX1, 12), (RX2, TX2, 5), (RX3, TX3, 11), (RX4, TX4, 2), (RX5, TX5, 2), (RX6, TX6, 7), (RX7, TX7, 5), (RX8, TX8, 8), (RX9, TX9, 28)]
end
section
/-! THE MEMORY: what the system's cells hold. A cell's number is its place in the order of making; its address is the base and that. -/
abbrev Mem : Type := List (Nat × Nat) × (Nat → Nat → Int32) × (Nat → Nat → Option Nat) × (Nat → Nat → Int64)
def mK (M : Mem) : List (Nat × Nat) := M.1
def mI (M : Mem) : Nat → Nat → Int32 := M.2.1
def mP (M : Mem) : Nat → Nat → Option Nat := M.2.2.1
def mJ (M : Mem) : Nat → Nat → Int64 := M.2.2.2
def sI (M : Mem) (a k : Nat) (v : Int32) : Mem := (M.1, (fun x y => if x = a ∧ y = k then v else M.2.1 x y), M.2.2.1, M.2.2.2)
def sP (M : Mem) (a k : Nat) (r : Nat) : Mem := (M.1, M.2.1, (fun x y => if x = a ∧ y = k then some r else M.2.2.1 x y), M.2.2.2)
def sJ (M : Mem) (a k : Nat) (v : Int64) : Mem := (M.1, M.2.1, M.2.2.1, (fun x y => if x = a ∧ y = k then v else M.2.2.2 x y))
/-- n ints of a's row from s on come to b's row from d on -/
def cI (M : Mem) (a s b d n : Nat) : Mem := (M.1, (fun x y => if x = b ∧ d ≤ y ∧ y < d + n then M.2.1 a (s + (y - d)) else M.2.1 x y), M.2.2.1, M.2.2.2)
/-- a new cell -/
def nw (M : Mem) (kd : Nat × Nat) : Mem := (M.1 ++ [kd], (fun x y => if x = M.1.length then 0 else M.2.1 x y), (fun x y => if x = M.1.length then none else M.2.2.1 x y), (fun x y => if x = M.1.length then 0 else M.2.2.2 x y))
/-- a new row of n rows of k ints: the outer one, then the inner ones -/
def nwm (M : Mem) (n k : Nat) : Mem := (M.1 ++ (15, n) :: List.replicate n (10, k), (fun x y => if M.1.length ≤ x then 0 else M.2.1 x y), (fun x y => if x = M.1.length then (if y < n then some (M.1.length + 1 + y) else none) else if M.1.length ≤ x then none else M.2.2.1 x y), (fun x y => if M.1.length ≤ x then 0 else M.2.2.2 x y))
/-- the places of references in the objects, class by class -/
def RFs : List (List Nat) := [[0, 2, 3, 4, 5, 6, 7, 9, 10, 11], [0], [], [0, 1, 2], [0, 1], [], [1, 6], [0], [0, 1, 2, 4, 5, 6, 7], [0, 1, 2, 3, 4, 5, 6, 7, 10, 12, 15, 17, 18, 19, 20, 26]]
def FR (ci k : Nat) : Bool := (RFs.getD ci []).contains k
abbrev Sys : Type := Launch × Nat × va_G × (Nat → ClassId)
abbrev zs (Z : Sys) : Nat := Z.2.1
abbrev zD (Z : Sys) : va_G := Z.2.2.1
abbrev zA (Z : Sys) : Nat → ClassId := Z.2.2.2
def vf (Z : Sys) (M : Mem) (a ci k : Nat) : Value := if FR ci k = true then va_rf ((mP M a k).map (zs Z + ·)) else .int (mI M a k)
def ent (Z : Sys) (M : Mem) (a : Nat) (kd : Nat × Nat) : va_E :=
  if kd.1 < 10 then .inr (kd.1, (List.range kd.2).map (vf Z M a kd.1))
  else if kd.1 < 12 then .inl (zA Z kd.1, kd.2, .inl (mI M a))
  else if kd.1 = 12 then .inl (zA Z 12, kd.2, .inr (.inl (mJ M a)))
  else .inl (zA Z kd.1, kd.2, .inr (.inr (.inr (.inr (fun j => (mP M a j).map (zs Z + ·))))))
def tysZ (Z : Sys) : List (ClassId × FieldType) := [(zA Z 10, .int), (zA Z 11, .boolean), (zA Z 12, .long), (zA Z 13, .object RX1), (zA Z 14, .object RX6), (zA Z 15, .array .int)]
def Ar (Z : Sys) : Nat → Prop := fun q => zs Z ≤ q
/-- the heap holds the memory; ex: and nothing behind it -/
def Rp (Z : Sys) (ex : Prop) (M : Mem) (H : Heap) : Prop := (∀ (a : Nat) (kd : Nat × Nat), (mK M)[a]? = some kd → va_at (zD Z) vwCl (zs Z + a, ent Z M a kd) H) ∧ zs Z + (mK M).length ≤ H.size ∧ (ex → H.size = zs Z + (mK M).length)
def isNest : Cond → Bool
  | .methodLinkNest .. => true
  | .arrayOver .. => true
  | _ => false
def TBL : List Cond := lw_tbl.filter goodWord
def NST : List Cond := lw_tbl.filter isNest
theorem ao_moved {ty : FieldType} {u U : State} (hvm : u.vm.Alike U.vm) (h : va_Nw (.arrayOver ty) u) : va_Nw (.arrayOver ty) U := by
  have hfc : ∀ n, U.vm.findClass n = u.vm.findClass n := fun n => by rw [hvm.findClass]
  have hidx : ∀ comp : ClassId, (U.vm.classes.findIdx? fun (x : Class) => match x.kind with | .array component _ => component == comp | _ => false) = (u.vm.classes.findIdx? fun (x : Class) => match x.kind with | .array component _ => component == comp | _ => false) := fun comp => by
    have e1 := va_idx_bare U.vm comp
    have e2 := va_idx_bare u.vm comp
    have e3 : U.vm.bare = u.vm.bare := by first | exact hvm.bare_eq | exact hvm.bare_eq.symm
    rw [e3] at e1
    exact e1.symm.trans e2
  have key : ∀ (o : Option ClassId), ((o.bind fun comp => (u.vm.classes.findIdx? fun (x : Class) => match x.kind with | .array component _ => component == comp | _ => false).bind fun c => (u.vm.classes[c]?).map fun (k : Class) => match k.kind with
      | .array _ t => decide (t = ty) && decide (u.vm.findClass ("[" ++ ty.toString) = some c)
      | _ => false) == some true) = true → ((o.bind fun comp => (U.vm.classes.findIdx? fun (x : Class) => match x.kind with | .array component _ => component == comp | _ => false).bind fun c => (U.vm.classes[c]?).map fun (k : Class) => match k.kind with
      | .array _ t => decide (t = ty) && decide (U.vm.findClass ("[" ++ ty.toString) = some c)
      | _ => false) == some true) = true := by
    intro o ho
    cases o with
    | none => simp at ho
    | some comp =>
      rw [Option.bind_some] at ho ⊢
      rw [hidx]
      cases hc : (u.vm.classes.findIdx? fun (x : Class) => match x.kind with | .array component _ => component == comp | _ => false) with
      | none => rw [hc] at ho; simp at ho
      | some c =>
        rw [hc] at ho
        rw [Option.bind_some] at ho ⊢
        cases hk : u.vm.classes[c]? with
        | none => rw [hk] at ho; simp at ho
        | some k =>
          obtain ⟨k', hk', he⟩ := hvm.2.2 _ _ hk
          have hkind : k'.kind = k.kind := by rw [he]
          rw [hk] at ho
          rw [hk', hfc]
          rw [Option.map_some] at ho ⊢
          rw [hkind]
          exact ho
  cases ty with
  | object n => 
    have := key (u.vm.findClass n) h
    rw [← hfc] at this
    exact this
  | array t =>
    have := key (u.vm.findClass (FieldType.array t).toString) h
    rw [← hfc] at this
    exact this
  | _ => exact absurd h (by simp [va_Nw, Cond.before, Cond.holds, Cond.value])
def Kn (Z : Sys) (U : State) : Prop := va_K (zD Z) vwCl (tysZ Z) U ∧ ∀ w ∈ NST, va_Nw w U
theorem nst_is {w : Cond} (h : w ∈ NST) : isNest w = true := (List.mem_filter.mp h).2
theorem Kn.moved {Z : Sys} {s U : State} (hW : s.WarmedH U.vm) (h : Kn Z s) : Kn Z U := by
  refine ⟨va_K.moved hW.alike h.1, fun w hw => ?_⟩
  have h1 := nst_is hw
  have h2 := h.2 w hw
  cases w <;> first | (exact va_Nw.warmM hW h2) | (exact ao_moved hW.alike h2) | (simp [isNest] at h1)
theorem Kn.calling {Z : Sys} {U : State} {g : JFrame} {mk : MethodId} {a : Array Value} (h : Kn Z U) : Kn Z (U.calling g mk a) := by
  refine ⟨va_K.moved (u := U) (U := U.calling g mk a) (Vm.Alike.refl U.vm) h.1, fun w hw => ?_⟩
  have h1 := nst_is hw
  have h2 := h.2 w hw
  cases w <;> first | (exact va_Nw.same rfl (rfl : U.vm = (U.calling g mk a).vm) h2) | (exact ao_moved (Vm.Alike.refl U.vm) h2) | (simp [isNest] at h1)
/-- the context of a walk -/
abbrev Cx : Type := Program × Env × Room × State × MethodId × Array Value × List Frame × Method × Code × (State → Prop)
abbrev xp (X : Cx) : Program := X.1
abbrev xe (X : Cx) : Env := X.2.1
abbrev xR (X : Cx) : Room := X.2.2.1
abbrev xs (X : Cx) : State := X.2.2.2.1
abbrev xm (X : Cx) : MethodId := X.2.2.2.2.1
abbrev xa (X : Cx) : Array Value := X.2.2.2.2.2.1
abbrev xb (X : Cx) : List Frame := X.2.2.2.2.2.2.1
abbrev xM (X : Cx) : Method := X.2.2.2.2.2.2.2.1
abbrev xc (X : Cx) : Code := X.2.2.2.2.2.2.2.2.1
abbrev xQ (X : Cx) : State → Prop := X.2.2.2.2.2.2.2.2.2
abbrev My : Type := ByteArray × String × Nat
def OkC (Z : Sys) (X : Cx) (Y : My) : Prop := (xp X).tables.exec = Jvm.exec ∧ (xc X).code = Y.1 ∧ (xc X).maxLocals = Y.2.2 ∧ (xs X).vm.findClass Y.2.1 = some (xm X).cls ∧ (∀ w ∈ TBL, w.before (xa X) (xs X) = true) ∧ Kn Z (xs X) ∧ zs Z ≤ (xs X).heap.size
abbrev WX (Z : Sys) (X : Cx) (H : Heap) (locs : List Loc) (cells slots : Nat) (g : JFrame) : Prop := W (xp X) Z.1 (xe X) (xR X) (xs X) (xm X) (xa X) (xb X) (xM X) (xc X) H locs cells slots (xQ X) g
def G (Z : Sys) (X : Cx) (Y : My) (ex : Prop) (cells slots pc : Nat) (loc : List (Nat × Value)) (stk : List Value) (M : Mem) : Prop :=
  OkC Z X Y → ∀ (ls : Array Slot) (H : Heap) (locs : List Loc), lv_has ls Y.2.2 loc → Rp Z ex M H → va_S (Ar Z) (xs X).heap H locs → WX Z X H locs cells slots (F0 (xm X) pc ls stk)
section ROWS
variable {Z : Sys} {X : Cx} {Y : My} {ex : Prop} {cells slots : Nat} {loc loc' : List (Nat × Value)} {rest : List Value} {M : Mem}
abbrev clr (i : Nat) (l : List (Nat × Value)) : List (Nat × Value) := l.filter (fun q => !(q.1 == i) && !(q.1 + 1 == i && q.2.category == 2))
abbrev clr2 (i : Nat) (l : List (Nat × Value)) : List (Nat × Value) := l.filter (fun q => !(q.1 == i) && (!(q.1 == i + 1) && !(q.1 + 1 == i && q.2.category == 2)))
theorem G.iadd (pc : Nat) {x y : Int32} (hd : decode Y.1 pc = .ok (.iadd, 1)) (k : G Z X Y ex cells slots (pc + 1) loc (.int (x + y) :: rest) M) : G Z X Y ex cells slots pc loc (.int y :: .int x :: rest) M := fun O ls H locs hl hP hS => lv_iadd O.1 O.2.1 hd  (k O ls H locs hl hP hS)
theorem G.isub (pc : Nat) {x y : Int32} (hd : decode Y.1 pc = .ok (.isub, 1)) (k : G Z X Y ex cells slots (pc + 1) loc (.int (x - y) :: rest) M) : G Z X Y ex cells slots pc loc (.int y :: .int x :: rest) M := fun O ls H locs hl hP hS => lv_isub O.1 O.2.1 hd  (k O ls H locs hl hP hS)
theorem G.imul (pc : Nat) {x y : Int32} (hd : decode Y.1 pc = .ok (.imul, 1)) (k : G Z X Y ex cells slots (pc + 1) loc (.int (x * y) :: rest) M) : G Z X Y ex cells slots pc loc (.int y :: .int x :: rest) M := fun O ls H locs hl hP hS => lv_imul O.1 O.2.1 hd  (k O ls H locs hl hP hS)
theorem G.iand (pc : Nat) {x y : Int32} (hd : decode Y.1 pc = .ok (.iand, 1)) (k : G Z X Y ex cells slots (pc + 1) loc (.int (x &&& y) :: rest) M) : G Z X Y ex cells slots pc loc (.int y :: .int x :: rest) M := fun O ls H locs hl hP hS => lv_iand O.1 O.2.1 hd  (k O ls H locs hl hP hS)
theorem G.ior (pc : Nat) {x y : Int32} (hd : decode Y.1 pc = .ok (.ior, 1)) (k : G Z X Y ex cells slots (pc + 1) loc (.int (x ||| y) :: rest) M) : G Z X Y ex cells slots pc loc (.int y :: .int x :: rest) M := fun O ls H locs hl hP hS => lv_ior O.1 O.2.1 hd  (k O ls H locs hl hP hS)
theorem G.ishl (pc : Nat) {x y : Int32} (hd : decode Y.1 pc = .ok (.ishl, 1)) (k : G Z X Y ex cells slots (pc + 1) loc (.int (x <<< (y &&& 31)) :: rest) M) : G Z X Y ex cells slots pc loc (.int y :: .int x :: rest) M := fun O ls H locs hl hP hS => lv_ishl O.1 O.2.1 hd  (k O ls H locs hl hP hS)
theorem G.ishr (pc : Nat) {x y : Int32} (hd : decode Y.1 pc = .ok (.ishr, 1)) (k : G Z X Y ex cells slots (pc + 1) loc (.int (x >>> (y &&& 31)) :: rest) M) : G Z X Y ex cells slots pc loc (.int y :: .int x :: rest) M := fun O ls H locs hl hP hS => lv_ishr O.1 O.2.1 hd  (k O ls H locs hl hP hS)
theorem G.ineg (pc : Nat) {x : Int32} (hd : decode Y.1 pc = .ok (.ineg, 1)) (k : G Z X Y ex cells slots (pc + 1) loc (.int (-x) :: rest) M) : G Z X Y ex cells slots pc loc (.int x :: rest) M := fun O ls H locs hl hP hS => lv_ineg O.1 O.2.1 hd  (k O ls H locs hl hP hS)
theorem G.ladd (pc : Nat) {x y : Int64} (hd : decode Y.1 pc = .ok (.ladd, 1)) (k : G Z X Y ex cells slots (pc + 1) loc (.long (x + y) :: rest) M) : G Z X Y ex cells slots pc loc (.long y :: .long x :: rest) M := fun O ls H locs hl hP hS => lv_ladd O.1 O.2.1 hd  (k O ls H locs hl hP hS)
theorem G.lsub (pc : Nat) {x y : Int64} (hd : decode Y.1 pc = .ok (.lsub, 1)) (k : G Z X Y ex cells slots (pc + 1) loc (.long (x - y) :: rest) M) : G Z X Y ex cells slots pc loc (.long y :: .long x :: rest) M := fun O ls H locs hl hP hS => lv_lsub O.1 O.2.1 hd  (k O ls H locs hl hP hS)
theorem G.lmul (pc : Nat) {x y : Int64} (hd : decode Y.1 pc = .ok (.lmul, 1)) (k : G Z X Y ex cells slots (pc + 1) loc (.long (x * y) :: rest) M) : G Z X Y ex cells slots pc loc (.long y :: .long x :: rest) M := fun O ls H locs hl hP hS => lv_lmul O.1 O.2.1 hd  (k O ls H locs hl hP hS)
theorem G.idiv (pc : Nat) {x y : Int32} (hd : decode Y.1 pc = .ok (.idiv, 1)) (hne : ¬ y = 0) (k : G Z X Y ex cells slots (pc + 1) loc (.int (x / y) :: rest) M) : G Z X Y ex cells slots pc loc (.int y :: .int x :: rest) M := fun O ls H locs hl hP hS => lv_idiv O.1 O.2.1 hd hne (k O ls H locs hl hP hS)
theorem G.irem (pc : Nat) {x y : Int32} (hd : decode Y.1 pc = .ok (.irem, 1)) (hne : ¬ y = 0) (k : G Z X Y ex cells slots (pc + 1) loc (.int (x - x / y * y) :: rest) M) : G Z X Y ex cells slots pc loc (.int y :: .int x :: rest) M := fun O ls H locs hl hP hS => lv_irem O.1 O.2.1 hd hne (k O ls H locs hl hP hS)
theorem G.ldiv (pc : Nat) {x y : Int64} (hd : decode Y.1 pc = .ok (.ldiv, 1)) (hne : ¬ y = 0) (k : G Z X Y ex cells slots (pc + 1) loc (.long (x / y) :: rest) M) : G Z X Y ex cells slots pc loc (.long y :: .long x :: rest) M := fun O ls H locs hl hP hS => lv_ldiv O.1 O.2.1 hd hne (k O ls H locs hl hP hS)
theorem G.lcmp (pc : Nat) {x y : Int64} (hd : decode Y.1 pc = .ok (.lcmp, 1)) (k : G Z X Y ex cells slots (pc + 1) loc (.int (lg_cmp x y) :: rest) M) : G Z X Y ex cells slots pc loc (.long y :: .long x :: rest) M := fun O ls H locs hl hP hS => W.lcmp O.1 O.2.1 hd  (k O ls H locs hl hP hS)
theorem G.i2l (pc : Nat) {x : Int32} (hd : decode Y.1 pc = .ok (.i2l, 1)) (k : G Z X Y ex cells slots (pc + 1) loc (.long x.toInt64 :: rest) M) : G Z X Y ex cells slots pc loc (.int x :: rest) M := fun O ls H locs hl hP hS => lv_i2l O.1 O.2.1 hd rfl (k O ls H locs hl hP hS)
theorem G.i2b (pc : Nat) {x : Int32} (hd : decode Y.1 pc = .ok (.i2b, 1)) (k : G Z X Y ex cells slots (pc + 1) loc (.int x.toInt8.toInt32 :: rest) M) : G Z X Y ex cells slots pc loc (.int x :: rest) M := fun O ls H locs hl hP hS => lv_i2b O.1 O.2.1 hd rfl (k O ls H locs hl hP hS)
theorem G.i2s (pc : Nat) {x : Int32} (hd : decode Y.1 pc = .ok (.i2s, 1)) (k : G Z X Y ex cells slots (pc + 1) loc (.int x.toInt16.toInt32 :: rest) M) : G Z X Y ex cells slots pc loc (.int x :: rest) M := fun O ls H locs hl hP hS => lv_i2s O.1 O.2.1 hd rfl (k O ls H locs hl hP hS)
theorem G.i2c (pc : Nat) {x : Int32} (hd : decode Y.1 pc = .ok (.i2c, 1)) (k : G Z X Y ex cells slots (pc + 1) loc (.int (x.toUInt32 % 65536).toInt32 :: rest) M) : G Z X Y ex cells slots pc loc (.int x :: rest) M := fun O ls H locs hl hP hS => lv_i2c O.1 O.2.1 hd rfl (k O ls H locs hl hP hS)
theorem G.iconst (pc : Nat) {n : Int} (v : Int32) (hd : decode Y.1 pc = .ok (.iconst n, 1)) (hv : Int32.ofInt n = v) (k : G Z X Y ex cells slots (pc + 1) loc (.int v :: rest) M) : G Z X Y ex cells slots pc loc rest M := fun O ls H locs hl hP hS => lv_iconst O.1 O.2.1 hd hv (k O ls H locs hl hP hS)
theorem G.bipush (pc : Nat) {n : Int} (v : Int32) (hd : decode Y.1 pc = .ok (.bipush n, 2)) (hv : (Int8.ofInt n).toInt32 = v) (k : G Z X Y ex cells slots (pc + 2) loc (.int v :: rest) M) : G Z X Y ex cells slots pc loc rest M := fun O ls H locs hl hP hS => lv_bipush O.1 O.2.1 hd hv (k O ls H locs hl hP hS)
theorem G.sipush (pc : Nat) {n : Int} (v : Int32) (hd : decode Y.1 pc = .ok (.sipush n, 3)) (hv : (Int16.ofInt n).toInt32 = v) (k : G Z X Y ex cells slots (pc + 3) loc (.int v :: rest) M) : G Z X Y ex cells slots pc loc rest M := fun O ls H locs hl hP hS => lv_sipush O.1 O.2.1 hd hv (k O ls H locs hl hP hS)
theorem G.lconst (pc : Nat) {n : Fin 2} (v : Int64) (hd : decode Y.1 pc = .ok (.lconst n, 1)) (hv : Int64.ofNat (n : Nat) = v) (k : G Z X Y ex cells slots (pc + 1) loc (.long v :: rest) M) : G Z X Y ex cells slots pc loc rest M := fun O ls H locs hl hP hS => lv_lconst O.1 O.2.1 hd hv (k O ls H locs hl hP hS)
theorem G.pop (pc : Nat) {va : Value} (hd : decode Y.1 pc = .ok (.pop, 1)) (hv : va.category = 1) (k : G Z X Y ex cells slots (pc + 1) loc rest M) : G Z X Y ex cells slots pc loc (va :: rest) M := fun O ls H locs hl hP hS => lv_pop O.1 O.2.1 hd hv (k O ls H locs hl hP hS)
theorem G.dup (pc : Nat) {va : Value} (hd : decode Y.1 pc = .ok (.dup, 1)) (hv : va.category = 1) (k : G Z X Y ex cells slots (pc + 1) loc (va :: va :: rest) M) : G Z X Y ex cells slots pc loc (va :: rest) M := fun O ls H locs hl hP hS => lv_dup O.1 O.2.1 hd hv (k O ls H locs hl hP hS)
theorem G.dup_x1 (pc : Nat) {va vb : Value} (hd : decode Y.1 pc = .ok (.dup_x1, 1)) (hv : va.category = 1) (hw : vb.category = 1) (k : G Z X Y ex cells slots (pc + 1) loc (va :: vb :: va :: rest) M) : G Z X Y ex cells slots pc loc (va :: vb :: rest) M := fun O ls H locs hl hP hS => lv_dup_x1 O.1 O.2.1 hd hv hw (k O ls H locs hl hP hS)
theorem G.dup_x2 (pc : Nat) {va vb vc : Value} (hd : decode Y.1 pc = .ok (.dup_x2, 1)) (hv : va.category = 1) (hw : vb.category = 1) (hu : vc.category = 1) (k : G Z X Y ex cells slots (pc + 1) loc (va :: vb :: vc :: va :: rest) M) : G Z X Y ex cells slots pc loc (va :: vb :: vc :: rest) M := fun O ls H locs hl hP hS => lv_dup_x2 O.1 O.2.1 hd hv hw hu (k O ls H locs hl hP hS)
theorem G.dup2 (pc : Nat) {va vb : Value} (hd : decode Y.1 pc = .ok (.dup2, 1)) (hv : va.category = 1) (hw : vb.category = 1) (k : G Z X Y ex cells slots (pc + 1) loc (va :: vb :: va :: vb :: rest) M) : G Z X Y ex cells slots pc loc (va :: vb :: rest) M := fun O ls H locs hl hP hS => lv_dup2_11 O.1 O.2.1 hd hv hw (k O ls H locs hl hP hS)
theorem G.iload_n (pc : Nat) {q : Fin 4} (j : Nat) {i : Nat} {x : Int32} (hd : decode Y.1 pc = .ok (.iload_n q, 1)) (hi : (q : Nat) = i) (hj : loc[j]? = some (i, .int x)) (k : G Z X Y ex cells slots (pc + 1) loc (.int x :: rest) M) : G Z X Y ex cells slots pc loc rest M := fun O ls H locs hl hP hS => lv_iload_n O.1 O.2.1 hd hi (lv_at hl j hj) (k O ls H locs hl hP hS)
theorem G.iload (pc : Nat) (j : Nat) {i : Nat} {x : Int32} (hd : decode Y.1 pc = .ok (.iload i, 2)) (hj : loc[j]? = some (i, .int x)) (k : G Z X Y ex cells slots (pc + 2) loc (.int x :: rest) M) : G Z X Y ex cells slots pc loc rest M := fun O ls H locs hl hP hS => lv_iload O.1 O.2.1 hd (lv_at hl j hj) (k O ls H locs hl hP hS)
theorem G.lload_n (pc : Nat) {q : Fin 4} (j : Nat) {i : Nat} {x : Int64} (hd : decode Y.1 pc = .ok (.lload_n q, 1)) (hi : (q : Nat) = i) (hj : loc[j]? = some (i, .long x)) (k : G Z X Y ex cells slots (pc + 1) loc (.long x :: rest) M) : G Z X Y ex cells slots pc loc rest M := fun O ls H locs hl hP hS => lv_lload_n O.1 O.2.1 hd hi (lv_at hl j hj) (k O ls H locs hl hP hS)
theorem G.lload (pc : Nat) (j : Nat) {i : Nat} {x : Int64} (hd : decode Y.1 pc = .ok (.lload i, 2)) (hj : loc[j]? = some (i, .long x)) (k : G Z X Y ex cells slots (pc + 2) loc (.long x :: rest) M) : G Z X Y ex cells slots pc loc rest M := fun O ls H locs hl hP hS => lv_lload O.1 O.2.1 hd (lv_at hl j hj) (k O ls H locs hl hP hS)
theorem G.aload_n (pc : Nat) {q : Fin 4} (j : Nat) {i : Nat} {x : Nat} (hd : decode Y.1 pc = .ok (.aload_n q, 1)) (hi : (q : Nat) = i) (hj : loc[j]? = some (i, .ref x)) (k : G Z X Y ex cells slots (pc + 1) loc (.ref x :: rest) M) : G Z X Y ex cells slots pc loc rest M := fun O ls H locs hl hP hS => lv_aload_n O.1 O.2.1 hd hi (lv_at hl j hj) (k O ls H locs hl hP hS)
theorem G.aload (pc : Nat) (j : Nat) {i : Nat} {x : Nat} (hd : decode Y.1 pc = .ok (.aload i, 2)) (hj : loc[j]? = some (i, .ref x)) (k : G Z X Y ex cells slots (pc + 2) loc (.ref x :: rest) M) : G Z X Y ex cells slots pc loc rest M := fun O ls H locs hl hP hS => lv_aload O.1 O.2.1 hd (lv_at hl j hj) (k O ls H locs hl hP hS)
theorem G.istore_n (pc : Nat) (loc' : List (Nat × Value)) {q : Fin 4} {i : Nat} {x : Int32} (hd : decode Y.1 pc = .ok (.istore_n q, 1)) (hi : (q : Nat) = i) (hn : i < Y.2.2) (hj : (i, Value.int x) :: clr i loc = loc') (k : G Z X Y ex cells slots (pc + 1) loc' rest M) : G Z X Y ex cells slots pc loc (.int x :: rest) M := fun O ls H locs hl hP hS => lv_istore_n O.1 O.2.1 hd hi hl hn hj (fun ls' hl' => k O ls' H locs hl' hP hS)
theorem G.istore (pc : Nat) (loc' : List (Nat × Value)) {i : Nat} {x : Int32} (hd : decode Y.1 pc = .ok (.istore i, 2)) (hn : i < Y.2.2) (hj : (i, Value.int x) :: clr i loc = loc') (k : G Z X Y ex cells slots (pc + 2) loc' rest M) : G Z X Y ex cells slots pc loc (.int x :: rest) M := fun O ls H locs hl hP hS => lv_istore O.1 O.2.1 hd hl hn hj (fun ls' hl' => k O ls' H locs hl' hP hS)
theorem G.astore_n (pc : Nat) (loc' : List (Nat × Value)) {q : Fin 4} {i : Nat} {x : Nat} (hd : decode Y.1 pc = .ok (.astore_n q, 1)) (hi : (q : Nat) = i) (hn : i < Y.2.2) (hj : (i, Value.ref x) :: clr i loc = loc') (k : G Z X Y ex cells slots (pc + 1) loc' rest M) : G Z X Y ex cells slots pc loc (.ref x :: rest) M := fun O ls H locs hl hP hS => lv_astore_n O.1 O.2.1 hd hi hl hn hj (fun ls' hl' => k O ls' H locs hl' hP hS)
theorem G.astore (pc : Nat) (loc' : List (Nat × Value)) {i : Nat} {x : Nat} (hd : decode Y.1 pc = .ok (.astore i, 2)) (hn : i < Y.2.2) (hj : (i, Value.ref x) :: clr i loc = loc') (k : G Z X Y ex cells slots (pc + 2) loc' rest M) : G Z X Y ex cells slots pc loc (.ref x :: rest) M := fun O ls H locs hl hP hS => lv_astore O.1 O.2.1 hd hl hn hj (fun ls' hl' => k O ls' H locs hl' hP hS)
theorem G.lstore_n (pc : Nat) (loc' : List (Nat × Value)) {q : Fin 4} {i : Nat} {x : Int64} (hd : decode Y.1 pc = .ok (.lstore_n q, 1)) (hi : (q : Nat) = i) (hn : i + 1 < Y.2.2) (hj : (i, Value.long x) :: clr2 i loc = loc') (k : G Z X Y ex cells slots (pc + 1) loc' rest M) : G Z X Y ex cells slots pc loc (.long x :: rest) M := fun O ls H locs hl hP hS => lv_lstore_n O.1 O.2.1 hd hi hl hn hj (fun ls' hl' => k O ls' H locs hl' hP hS)
theorem G.lstore (pc : Nat) (loc' : List (Nat × Value)) {i : Nat} {x : Int64} (hd : decode Y.1 pc = .ok (.lstore i, 2)) (hn : i + 1 < Y.2.2) (hj : (i, Value.long x) :: clr2 i loc = loc') (k : G Z X Y ex cells slots (pc + 2) loc' rest M) : G Z X Y ex cells slots pc loc (.long x :: rest) M := fun O ls H locs hl hP hS => lv_lstore O.1 O.2.1 hd hl hn hj (fun ls' hl' => k O ls' H locs hl' hP hS)
theorem G.iinc (pc : Nat) (j : Nat) (v : Int32) (loc' : List (Nat × Value)) {i : Nat} {n : Int} {x : Int32} (hd : decode Y.1 pc = .ok (.iinc i n, 3)) (hk : loc[j]? = some (i, .int x)) (hv : x + Int32.ofInt n = v) (hn : i < Y.2.2) (hj : (i, Value.int v) :: clr i loc = loc') (k : G Z X Y ex cells slots (pc + 3) loc' rest M) : G Z X Y ex cells slots pc loc rest M := fun O ls H locs hl hP hS => lv_iinc O.1 O.2.1 hd hl hk hv hn hj (fun ls' hl' => k O ls' H locs hl' hP hS)
theorem G.locs (ks : List Nat) (hl : lv_pick loc ks = loc') {pc : Nat} (k : G Z X Y ex cells slots pc loc' rest M) : G Z X Y ex cells slots pc loc rest M := fun O ls H locs hls hP hS => k O ls H locs (lv_sub hls ks hl) hP hS
theorem G.icmp_eq (pc tgt : Nat) {x y : Int32} {off : Int} (hd : decode Y.1 pc = .ok (.if_icmp .eq off, 3)) (ht : (pc : Int) + off = (tgt : Int)) (kt : x = y → G Z X Y ex cells slots tgt loc rest M) (kf : ¬ x = y → G Z X Y ex cells slots (pc + 3) loc rest M) : G Z X Y ex cells slots pc loc (.int y :: .int x :: rest) M := fun O ls H locs hl hP hS => lv_icmp_eq O.1 O.2.1 hd ht (fun h => kt h O ls H locs hl hP hS) (fun h => kf h O ls H locs hl hP hS)
theorem G.if_eq (pc tgt : Nat) {x : Int32} {off : Int} (hd : decode Y.1 pc = .ok (.ifCond .eq off, 3)) (ht : (pc : Int) + off = (tgt : Int)) (kt : x = 0 → G Z X Y ex cells slots tgt loc rest M) (kf : ¬ x = 0 → G Z X Y ex cells slots (pc + 3) loc rest M) : G Z X Y ex cells slots pc loc (.int x :: rest) M := fun O ls H locs hl hP hS => lv_if_eq O.1 O.2.1 hd ht (fun h => kt h O ls H locs hl hP hS) (fun h => kf h O ls H locs hl hP hS)
theorem G.icmp_ne (pc tgt : Nat) {x y : Int32} {off : Int} (hd : decode Y.1 pc = .ok (.if_icmp .ne off, 3)) (ht : (pc : Int) + off = (tgt : Int)) (kt : ¬ x = y → G Z X Y ex cells slots tgt loc rest M) (kf : x = y → G Z X Y ex cells slots (pc + 3) loc rest M) : G Z X Y ex cells slots pc loc (.int y :: .int x :: rest) M := fun O ls H locs hl hP hS => lv_icmp_ne O.1 O.2.1 hd ht (fun h => kt h O ls H locs hl hP hS) (fun h => kf h O ls H locs hl hP hS)
theorem G.if_ne (pc tgt : Nat) {x : Int32} {off : Int} (hd : decode Y.1 pc = .ok (.ifCond .ne off, 3)) (ht : (pc : Int) + off = (tgt : Int)) (kt : ¬ x = 0 → G Z X Y ex cells slots tgt loc rest M) (kf : x = 0 → G Z X Y ex cells slots (pc + 3) loc rest M) : G Z X Y ex cells slots pc loc (.int x :: rest) M := fun O ls H locs hl hP hS => lv_if_ne O.1 O.2.1 hd ht (fun h => kt h O ls H locs hl hP hS) (fun h => kf h O ls H locs hl hP hS)
theorem G.icmp_lt (pc tgt : Nat) {x y : Int32} {off : Int} (hd : decode Y.1 pc = .ok (.if_icmp .lt off, 3)) (ht : (pc : Int) + off = (tgt : Int)) (kt : x < y → G Z X Y ex cells slots tgt loc rest M) (kf : ¬ x < y → G Z X Y ex cells slots (pc + 3) loc rest M) : G Z X Y ex cells slots pc loc (.int y :: .int x :: rest) M := fun O ls H locs hl hP hS => lv_icmp_lt O.1 O.2.1 hd ht (fun h => kt h O ls H locs hl hP hS) (fun h => kf h O ls H locs hl hP hS)
theorem G.if_lt (pc tgt : Nat) {x : Int32} {off : Int} (hd : decode Y.1 pc = .ok (.ifCond .lt off, 3)) (ht : (pc : Int) + off = (tgt : Int)) (kt : x < 0 → G Z X Y ex cells slots tgt loc rest M) (kf : ¬ x < 0 → G Z X Y ex cells slots (pc + 3) loc rest M) : G Z X Y ex cells slots pc loc (.int x :: rest) M := fun O ls H locs hl hP hS => lv_if_lt O.1 O.2.1 hd ht (fun h => kt h O ls H locs hl hP hS) (fun h => kf h O ls H locs hl hP hS)
theorem G.icmp_ge (pc tgt : Nat) {x y : Int32} {off : Int} (hd : decode Y.1 pc = .ok (.if_icmp .ge off, 3)) (ht : (pc : Int) + off = (tgt : Int)) (kt : y ≤ x → G Z X Y ex cells slots tgt loc rest M) (kf : ¬ y ≤ x → G Z X Y ex cells slots (pc + 3) loc rest M) : G Z X Y ex cells slots pc loc (.int y :: .int x :: rest) M := fun O ls H locs hl hP hS => lv_icmp_ge O.1 O.2.1 hd ht (fun h => kt h O ls H locs hl hP hS) (fun h => kf h O ls H locs hl hP hS)
theorem G.if_ge (pc tgt : Nat) {x : Int32} {off : Int} (hd : decode Y.1 pc = .ok (.ifCond .ge off, 3)) (ht : (pc : Int) + off = (tgt : Int)) (kt : 0 ≤ x → G Z X Y ex cells slots tgt loc rest M) (kf : ¬ 0 ≤ x → G Z X Y ex cells slots (pc + 3) loc rest M) : G Z X Y ex cells slots pc loc (.int x :: rest) M := fun O ls H locs hl hP hS => lv_if_ge O.1 O.2.1 hd ht (fun h => kt h O ls H locs hl hP hS) (fun h => kf h O ls H locs hl hP hS)
theorem G.icmp_gt (pc tgt : Nat) {x y : Int32} {off : Int} (hd : decode Y.1 pc = .ok (.if_icmp .gt off, 3)) (ht : (pc : Int) + off = (tgt : Int)) (kt : y < x → G Z X Y ex cells slots tgt loc rest M) (kf : ¬ y < x → G Z X Y ex cells slots (pc + 3) loc rest M) : G Z X Y ex cells slots pc loc (.int y :: .int x :: rest) M := fun O ls H locs hl hP hS => lv_icmp_gt O.1 O.2.1 hd ht (fun h => kt h O ls H locs hl hP hS) (fun h => kf h O ls H locs hl hP hS)
theorem G.if_gt (pc tgt : Nat) {x : Int32} {off : Int} (hd : decode Y.1 pc = .ok (.ifCond .gt off, 3)) (ht : (pc : Int) + off = (tgt : Int)) (kt : 0 < x → G Z X Y ex cells slots tgt loc rest M) (kf : ¬ 0 < x → G Z X Y ex cells slots (pc + 3) loc rest M) : G Z X Y ex cells slots pc loc (.int x :: rest) M := fun O ls H locs hl hP hS => lv_if_gt O.1 O.2.1 hd ht (fun h => kt h O ls H locs hl hP hS) (fun h => kf h O ls H locs hl hP hS)
theorem G.icmp_le (pc tgt : Nat) {x y : Int32} {off : Int} (hd : decode Y.1 pc = .ok (.if_icmp .le off, 3)) (ht : (pc : Int) + off = (tgt : Int)) (kt : x ≤ y → G Z X Y ex cells slots tgt loc rest M) (kf : ¬ x ≤ y → G Z X Y ex cells slots (pc + 3) loc rest M) : G Z X Y ex cells slots pc loc (.int y :: .int x :: rest) M := fun O ls H locs hl hP hS => lv_icmp_le O.1 O.2.1 hd ht (fun h => kt h O ls H locs hl hP hS) (fun h => kf h O ls H locs hl hP hS)
theorem G.if_le (pc tgt : Nat) {x : Int32} {off : Int} (hd : decode Y.1 pc = .ok (.ifCond .le off, 3)) (ht : (pc : Int) + off = (tgt : Int)) (kt : x ≤ 0 → G Z X Y ex cells slots tgt loc rest M) (kf : ¬ x ≤ 0 → G Z X Y ex cells slots (pc + 3) loc rest M) : G Z X Y ex cells slots pc loc (.int x :: rest) M := fun O ls H locs hl hP hS => lv_if_le O.1 O.2.1 hd ht (fun h => kt h O ls H locs hl hP hS) (fun h => kf h O ls H locs hl hP hS)
theorem G.goto (pc tgt : Nat) {off : Int} (hd : decode Y.1 pc = .ok (.goto off, 3)) (ht : (pc : Int) + off = (tgt : Int)) (k : G Z X Y ex cells slots tgt loc rest M) : G Z X Y ex cells slots pc loc rest M := fun O ls H locs hl hP hS => lv_goto O.1 O.2.1 hd ht (k O ls H locs hl hP hS)
theorem G.tableIn (pc tgt : Nat) {dflt lo hi : Int} {offs : Array Int} {len : Nat} {x : Int32} {off : Int} (hd : decode Y.1 pc = .ok (.tableswitch dflt lo hi offs, len)) (h1 : ¬ x.toInt < lo) (h2 : ¬ hi < x.toInt) (ho : offs[(x.toInt - lo).toNat]? = some off) (ht : (pc : Int) + off = (tgt : Int)) (k : G Z X Y ex cells slots tgt loc rest M) : G Z X Y ex cells slots pc loc (.int x :: rest) M := fun O ls H locs hl hP hS => lv_tableIn O.1 O.2.1 hd h1 h2 ho ht (k O ls H locs hl hP hS)
theorem G.tableOut (pc tgt : Nat) {dflt lo hi : Int} {offs : Array Int} {len : Nat} {x : Int32} (hd : decode Y.1 pc = .ok (.tableswitch dflt lo hi offs, len)) (h : x.toInt < lo ∨ hi < x.toInt) (ht : (pc : Int) + dflt = (tgt : Int)) (k : G Z X Y ex cells slots tgt loc rest M) : G Z X Y ex cells slots pc loc (.int x :: rest) M := fun O ls H locs hl hP hS => lv_tableOut O.1 O.2.1 hd h ht (k O ls H locs hl hP hS)
theorem G.lookup (pc tgt : Nat) {dflt : Int} {ps : Array (Int × Int)} {len : Nat} {x : Int32} {off : Int} (hd : decode Y.1 pc = .ok (.lookupswitch dflt ps, len)) (hp : (ps.toList.zip (ps.toList.drop 1)).all (fun (a, next) => a.1 < next.1) = true) (ho : Op.lookupswitch.offset ps.toList dflt x.toInt = off) (ht : (pc : Int) + off = (tgt : Int)) (k : G Z X Y ex cells slots tgt loc rest M) : G Z X Y ex cells slots pc loc (.int x :: rest) M := fun O ls H locs hl hP hS => lv_lookup O.1 O.2.1 hd hp ho ht (k O ls H locs hl hP hS)
theorem G.ldc (pc : Nat) {idx : Nat} (v : Int32) (hw : Cond.constant Y.2.1 idx v ∈ TBL) (hd : decode Y.1 pc = .ok (.ldc idx, 2)) (k : G Z X Y ex cells slots (pc + 2) loc (.int v :: rest) M) : G Z X Y ex cells slots pc loc rest M := fun O ls H locs hl hP hS => lv_ldc O.1 O.2.1 O.2.2.2.1 (O.2.2.2.2.1 _ hw) hd (k O ls H locs hl hP hS)
theorem G.ldcw (pc : Nat) {idx : Nat} (v : Int32) (hw : Cond.constant Y.2.1 idx v ∈ TBL) (hd : decode Y.1 pc = .ok (.ldc_w idx, 3)) (k : G Z X Y ex cells slots (pc + 3) loc (.int v :: rest) M) : G Z X Y ex cells slots pc loc rest M := fun O ls H locs hl hP hS => lv_ldcw O.1 O.2.1 O.2.2.2.1 (O.2.2.2.2.1 _ hw) hd (k O ls H locs hl hP hS)
theorem G.ldc2 (pc : Nat) {idx : Nat} (v : Int64) (hw : Cond.constantLong Y.2.1 idx v ∈ TBL) (hd : decode Y.1 pc = .ok (.ldc2_w idx, 3)) (k : G Z X Y ex cells slots (pc + 3) loc (.long v :: rest) M) : G Z X Y ex cells slots pc loc rest M := fun O ls H locs hl hP hS => lv_ldc2 O.1 O.2.1 O.2.2.2.1 (O.2.2.2.2.1 _ hw) hd (k O ls H locs hl hP hS)
end ROWS
end
section
/-! what is true of a class of the system, by the tables -/
def ClsOk (ci : Nat) (C : String) (T : u_T) (ty : Nat → FieldType) (N : Nat) : Prop := ci < 10 ∧ vwCl[ci]? = some (C, T, N) ∧ (∀ w ∈ u_ws C T N, w ∈ TBL) ∧ (∀ k, k < N → parseFieldDescriptor (T k).2.2.1 = some (ty k)) ∧ (∀ a, a < N → ∀ b, b < N → a ≠ b → (T a).2.1 ≠ (T b).2.1) ∧ (∀ k, k < N → defaultValue (ty k) = if FR ci k = true then .null else .int 0)
theorem gin {ws : List Cond} (h : ∀ w ∈ ws, w ∈ TBL) : GoodIn TBL ws := fun w hw => ⟨h w hw, good_of_word (List.mem_filter.mp (h w hw)).2⟩
theorem ent_obj {Z : Sys} {M : Mem} {a ci n : Nat} (h : ci < 10) : ent Z M a (ci, n) = .inr (ci, (List.range n).map (vf Z M a ci)) := if_pos h
theorem ent_congr {Z : Sys} {M M' : Mem} {x : Nat} {kd : Nat × Nat} (h : ∀ k, mI M' x k = mI M x k ∧ mP M' x k = mP M x k ∧ mJ M' x k = mJ M x k) : ent Z M' x kd = ent Z M x kd := by
  have h1 : mI M' x = mI M x := funext fun k => (h k).1
  have h2 : mP M' x = mP M x := funext fun k => (h k).2.1
  have h3 : mJ M' x = mJ M x := funext fun k => (h k).2.2
  have h4 : vf Z M' x kd.1 = vf Z M x kd.1 := funext fun k => by unfold vf; rw [h1, h2]
  unfold ent
  rw [h4, h1, h2, h3]
theorem vp_range {N j : Nat} {f : Nat → Value} (h : j < N) : vp_V ((List.range N).map f) j = f j := by simp [vp_V, h]
theorem Rp.one {Z : Sys} {ex : Prop} {M : Mem} {H : Heap} {a : Nat} {kd : Nat × Nat} (h : Rp Z ex M H) (hk : (mK M)[a]? = some kd) : va_P (zD Z) vwCl [(zs Z + a, ent Z M a kd)] H := fun k q hq => by
  cases k with
  | zero => cases hq; exact h.1 a kd hk
  | succ k => simp at hq
theorem kl {M : Mem} {a : Nat} {kd : Nat × Nat} (h : (mK M)[a]? = some kd) : a < (mK M).length := (List.getElem?_eq_some_iff.mp h).1
/-- one cell has changed -/
theorem Rp.upd {Z : Sys} {ex : Prop} {M M' : Mem} {H H' : Heap} {a : Nat} {kd : Nat × Nat} (hP : Rp Z ex M H) (hK : mK M' = mK M) (ho : ∀ x k, x ≠ a → mI M' x k = mI M x k ∧ mP M' x k = mP M x k ∧ mJ M' x k = mJ M x k) (hz : H'.size = H.size) (oq : ∀ q, q ≠ zs Z + a → H'[q]? = H[q]?) (hk : (mK M)[a]? = some kd) (hat : va_at (zD Z) vwCl (zs Z + a, ent Z M' a kd) H') : Rp Z ex M' H' := by
  refine ⟨fun x kd' hx => ?_, by rw [hK, hz]; exact hP.2.1, fun he => by rw [hK, hz]; exact hP.2.2 he⟩
  rw [hK] at hx
  by_cases e : x = a
  · subst e
    rw [hk] at hx
    cases hx
    exact hat
  · rw [ent_congr (fun k => ho x k e)]
    exact (hP.1 x kd' hx).kept (oq _ (by intro h; exact e (by omega)))
/-- a cell more -/
theorem Rp.push {Z : Sys} {ex : Prop} {M : Mem} {H H' : Heap} {kd : Nat × Nat} (hP : Rp Z ex M H) (he : ex) (hz : H'.size = H.size + 1) (oq : ∀ q, q < H.size → H'[q]? = H[q]?) (hat : va_at (zD Z) vwCl (H.size, ent Z (nw M kd) (mK M).length kd) H') : Rp Z ex (nw M kd) H' := by
  have hs := hP.2.2 he
  have hl : (mK (nw M kd)).length = (mK M).length + 1 := by simp [mK, nw]
  refine ⟨fun x kd' hx => ?_, by rw [hl, hz, hs]; omega, fun _ => by rw [hl, hz, hs]; omega⟩
  have hx' : ((mK M) ++ [kd])[x]? = some kd' := hx
  by_cases e : x < (mK M).length
  · rw [List.getElem?_append_left e] at hx'
    have hne : x ≠ M.1.length := Nat.ne_of_lt e
    rw [ent_congr (M' := nw M kd) (M := M) (fun k => ⟨by simp [mI, nw, hne], by simp [mP, nw, hne], by simp [mJ, nw, hne]⟩)]
    exact (hP.1 x kd' hx').kept (oq _ (by show zs Z + x < H.size; omega))
  · rw [List.getElem?_append_right (by omega)] at hx'
    have h0 : x - (mK M).length < 1 := (List.getElem?_eq_some_iff.mp hx').1
    have h1 : x = (mK M).length := by omega
    subst h1
    rw [Nat.sub_self] at hx'
    cases hx'
    rw [← hs]
    exact hat
theorem push_S {Z : Sys} {H0 H H' : Heap} {locs : List Loc} (hS : va_S (Ar Z) H0 H locs) (hz : H.size ≤ H'.size) (oq : ∀ q, q < H.size → H'[q]? = H[q]?) : va_S (Ar Z) H0 H' locs := ⟨Nat.le_trans hS.1 hz, fun x h1 h2 => (oq x (Nat.lt_of_lt_of_le h1 hS.1)).trans (hS.2.1 x h1 h2), hS.2.2⟩
section HROWS
variable {Z : Sys} {X : Cx} {Y : My} {ex : Prop} {cells slots : Nat} {loc loc' : List (Nat × Value)} {rest : List Value} {M : Mem}
theorem G.geti (pc : Nat) {ci idx N a : Nat} {C : String} {T : u_T} {ty : Nat → FieldType} (hc : ClsOk ci C T ty N) (k : Nat) (hk : (mK M)[a]? = some (ci, N)) (hkN : k < N) (hfr : FR ci k = false) (hw : Cond.fieldLink Y.2.1 idx (T k).1 (T k).2.1 (T k).2.2.1 ∈ TBL) (hd : decode Y.1 pc = .ok (.getfield idx, 3)) (kk : G Z X Y ex cells slots (pc + 3) loc (.int (mI M a k) :: rest) M) : G Z X Y ex cells slots pc loc (.ref (zs Z + a) :: rest) M := fun O ls H locs hl hP hS =>
  va_get (ws := [(zs Z + a, ent Z M a (ci, N))]) (Ts := TBL) O.1 O.2.1 O.2.2.2.2.1 hc.2.2.1 O.2.2.2.1 O.2.2.2.2.2.1.1 (hP.one hk) 0 (fs := (List.range N).map (vf Z M a ci)) (by rw [ent_obj hc.1]; rfl) hc.2.1 k hkN (O.2.2.2.2.1 _ hw) (fun _ h => h) (v := .int (mI M a k)) (by simp [hkN, vf]; intro h; rw [hfr] at h; cases h) hd (kk O ls H locs hl hP hS)
theorem G.getp (pc : Nat) {ci idx N a : Nat} {C : String} {T : u_T} {ty : Nat → FieldType} (hc : ClsOk ci C T ty N) (k r : Nat) (hk : (mK M)[a]? = some (ci, N)) (hp : mP M a k = some r) (hkN : k < N) (hfr : FR ci k = true) (hw : Cond.fieldLink Y.2.1 idx (T k).1 (T k).2.1 (T k).2.2.1 ∈ TBL) (hd : decode Y.1 pc = .ok (.getfield idx, 3)) (kk : G Z X Y ex cells slots (pc + 3) loc (.ref (zs Z + r) :: rest) M) : G Z X Y ex cells slots pc loc (.ref (zs Z + a) :: rest) M := fun O ls H locs hl hP hS =>
  va_get (ws := [(zs Z + a, ent Z M a (ci, N))]) (Ts := TBL) O.1 O.2.1 O.2.2.2.2.1 hc.2.2.1 O.2.2.2.1 O.2.2.2.2.2.1.1 (hP.one hk) 0 (fs := (List.range N).map (vf Z M a ci)) (by rw [ent_obj hc.1]; rfl) hc.2.1 k hkN (O.2.2.2.2.1 _ hw) (fun _ h => h) (v := .ref (zs Z + r)) (by simp [hkN, vf, hfr, hp, va_rf]) hd (kk O ls H locs hl hP hS)
theorem G.putv (pc : Nat) {ci idx N a : Nat} {C : String} {T : u_T} {ty : Nat → FieldType} (hc : ClsOk ci C T ty N) (k : Nat) (hk : (mK M)[a]? = some (ci, N)) (hkN : k < N) (hfin : (T k).2.2.2 = false ∨ ((T k).2.2.2 = true ∧ (xM X).name = "<init>" ∧ (T k).1 = Y.2.1)) (hw : Cond.fieldLink Y.2.1 idx (T k).1 (T k).2.1 (T k).2.2.1 ∈ TBL) {v : Value} {M' : Mem} (hK : mK M' = mK M) (ho : ∀ x k, x ≠ a → mI M' x k = mI M x k ∧ mP M' x k = mP M x k ∧ mJ M' x k = mJ M x k) (hv : ∀ j, j < N → (if j = k then v else vf Z M a ci j) = vf Z M' a ci j) (hn : narrow (ty k) v = v) (hfit : fits (ty k) v = true)
    (hd : decode Y.1 pc = .ok (.putfield idx, 3)) (kk : G Z X Y ex cells slots (pc + 3) loc rest M') : G Z X Y ex cells slots pc loc (v :: .ref (zs Z + a) :: rest) M := by
  intro O ls H locs hl hP hS
  have hts := O.2.2.2.2.1
  have hKn := O.2.2.2.2.2.1.1
  have hown := O.2.2.2.1
  have hap := va_apart (own := Y.2.1) hts hc.2.2.1 ty hc.2.2.2.1 hc.2.2.2.2.1 hKn hc.2.1
  have hat := hP.1 a _ hk
  rw [ent_obj hc.1] at hat
  obtain ⟨r, h1, cell, q1, q2, q3, q4⟩ := hat
  have hr : r = (C, T, N) := Option.some.inj (h1.symm.trans hc.2.1)
  subst hr
  obtain ⟨hSl, hfc, kC, hkC, hkind⟩ := hKn.1 ci _ hc.2.1
  obtain ⟨cf, kf, fi, f, hi, hsl⟩ := hSl k hkN
  have hlay := hts _ (hc.2.2.1 _ (u_in_lay hkN))
  have hst := (u_facts hfc hkC (u_lays hts hc.2.2.1 hkN) hi).1
  have post : ∀ H' : Heap, H'[zs Z + a]? = some (cell.setSlot f.slot v) → H'.size = H.size → (∀ q, q ≠ zs Z + a → H'[q]? = H[q]?) → WX Z X H' (locs ++ [⟨zs Z + a, f.slot⟩]) cells slots (F0 (xm X) (pc + 3) ls rest) := by
    intro H' e1 e2 e3
    refine kk O ls H' _ hl (hP.upd hK ho e2 e3 hk ?_) (hS.put e2 e3 (Nat.le_add_right _ _))
    rw [ent_obj hc.1]
    rw [hsl] at e1
    refine ⟨_, hc.2.1, t_OB.to (V := updV (vp_V ((List.range N).map (vf Z M a ci))) k v) ⟨_, e1, q2, q3, t_set q4 hap hkN v⟩ (fun j hj => ?_)⟩
    rw [vp_range hj, ← hv j hj]
    unfold updV
    by_cases e : j = k
    · rw [if_pos e, if_pos e]
    · rw [if_neg e, if_neg e, vp_range hj]
  rcases hfin with hfin | ⟨hfin, hin2, hdecl⟩
  · unfold u_lay at hlay
    rw [if_neg (by rw [hfin]; decide)] at hlay
    have h6 := u_store hfc hkC hkind hlay hi (hc.2.2.2.1 k hkN) hn hfit
    exact W.putK O.1 O.2.1 (f := f) ⟨hown, hts _ hw, ⟨_, _, _, hi⟩, hst⟩ (by rw [q2]; exact h6) q1 q3 (by rw [hsl]; exact k2_hasslot (q4 k hkN)) rfl rfl hd post
  · unfold u_lay at hlay
    rw [if_pos hfin] at hlay
    have hcf : (xm X).cls = cf := by
      obtain ⟨_, _, c', _, _, _, -, -, hf', -, -, -, hown2, -⟩ := Cond.laysFinal_spec hlay
      have e1 : c' = cf := by have := hi.symm.trans hf'; simp at this; exact this.1.symm
      rw [hdecl] at hown2
      rw [← e1]; exact Option.some.inj (hown.symm.trans hown2)
    have h6 := u_fits hfc hkC hkind (Or.inr hlay) hi (hc.2.2.2.1 k hkN) hn hfit
    exact W.putFinK O.1 O.2.1 hown (hts _ hw) hi hst hcf hin2 (by rw [q2]; exact h6) q1 q3 (by rw [hsl]; exact k2_hasslot (q4 k hkN)) rfl rfl hd post
theorem G.puti (pc : Nat) {ci idx N a : Nat} {C : String} {T : u_T} {ty : Nat → FieldType} (hc : ClsOk ci C T ty N) (k : Nat) (hk : (mK M)[a]? = some (ci, N)) (hkN : k < N) (hfr : FR ci k = false) (hfin : (T k).2.2.2 = false) (hw : Cond.fieldLink Y.2.1 idx (T k).1 (T k).2.1 (T k).2.2.1 ∈ TBL) {v : Int32} (hn : narrow (ty k) (.int v) = .int v) (hfit : fits (ty k) (.int v) = true)
    (hd : decode Y.1 pc = .ok (.putfield idx, 3)) (kk : G Z X Y ex cells slots (pc + 3) loc rest (sI M a k v)) : G Z X Y ex cells slots pc loc (.int v :: .ref (zs Z + a) :: rest) M := by
  refine G.putv pc hc k hk hkN (Or.inl hfin) hw (M' := sI M a k v) rfl (fun x j hx => ⟨by simp [mI, sI, hx], rfl, rfl⟩) (fun j hj => ?_) hn hfit hd kk
  by_cases e : j = k
  · subst e
    rw [if_pos rfl]
    unfold vf
    rw [hfr]
    simp [mI, sI]
  · rw [if_neg e]
    unfold vf
    simp [mI, mP, sI, e]
theorem G.putp (pc : Nat) {ci idx N a : Nat} {C : String} {T : u_T} {ty : Nat → FieldType} (hc : ClsOk ci C T ty N) (k : Nat) {r : Nat} (hk : (mK M)[a]? = some (ci, N)) (hkN : k < N) (hfr : FR ci k = true) (hfin : (T k).2.2.2 = false ∨ ((T k).2.2.2 = true ∧ (xM X).name = "<init>" ∧ (T k).1 = Y.2.1)) (hw : Cond.fieldLink Y.2.1 idx (T k).1 (T k).2.1 (T k).2.2.1 ∈ TBL) (hn : ∀ x, narrow (ty k) (.ref x) = .ref x) (hfit : ∀ x, fits (ty k) (.ref x) = true)
    (hd : decode Y.1 pc = .ok (.putfield idx, 3)) (kk : G Z X Y ex cells slots (pc + 3) loc rest (sP M a k r)) : G Z X Y ex cells slots pc loc (.ref (zs Z + r) :: .ref (zs Z + a) :: rest) M := by
  refine G.putv pc hc k hk hkN hfin hw (M' := sP M a k r) rfl (fun x j hx => ⟨rfl, by simp [mP, sP, hx], rfl⟩) (fun j hj => ?_) (hn _) (hfit _) hd kk
  by_cases e : j = k
  · subst e
    rw [if_pos rfl]
    unfold vf
    rw [hfr]
    simp [mP, sP, va_rf]
  · rw [if_neg e]
    unfold vf
    simp [mI, mP, sP, e]
theorem G.iald (pc : Nat) {a n : Nat} {i : Int32} (hk : (mK M)[a]? = some (10, n)) (hin : vp_in i n) (hd : decode Y.1 pc = .ok (.iaload, 1)) (kk : G Z X Y ex cells slots (pc + 1) loc (.int (mI M a i.toNatClampNeg) :: rest) M) : G Z X Y ex cells slots pc loc (.int i :: .ref (zs Z + a) :: rest) M := fun O ls H locs hl hP hS =>
  va_iald (tys := tysZ Z) O.1 O.2.1 O.2.2.2.2.2.1.1 (hP.one hk) 0 0 (n := n) (f := mI M a) rfl rfl hin hd (kk O ls H locs hl hP hS)
theorem G.zald (pc : Nat) {a n : Nat} {i : Int32} (hk : (mK M)[a]? = some (11, n)) (hin : vp_in i n) (hd : decode Y.1 pc = .ok (.baload, 1)) (kk : G Z X Y ex cells slots (pc + 1) loc (.int (mI M a i.toNatClampNeg) :: rest) M) : G Z X Y ex cells slots pc loc (.int i :: .ref (zs Z + a) :: rest) M := fun O ls H locs hl hP hS =>
  va_zald (tys := tysZ Z) O.1 O.2.1 O.2.2.2.2.2.1.1 (hP.one hk) 0 1 (n := n) (f := mI M a) rfl rfl hin hd (kk O ls H locs hl hP hS)
theorem G.lald (pc : Nat) {a n : Nat} {i : Int32} (hk : (mK M)[a]? = some (12, n)) (hin : vp_in i n) (hd : decode Y.1 pc = .ok (.laload, 1)) (kk : G Z X Y ex cells slots (pc + 1) loc (.long (mJ M a i.toNatClampNeg) :: rest) M) : G Z X Y ex cells slots pc loc (.int i :: .ref (zs Z + a) :: rest) M := fun O ls H locs hl hP hS =>
  va_lald (tys := tysZ Z) O.1 O.2.1 O.2.2.2.2.2.1.1 (hP.one hk) 0 2 (n := n) (f := mJ M a) rfl rfl hin hd (kk O ls H locs hl hP hS)
theorem G.aald (pc : Nat) {a n t : Nat} {ft : FieldType} {i : Int32} (r : Nat) (hk : (mK M)[a]? = some (t, n)) (ht : 13 ≤ t) (htt : (tysZ Z)[t - 10]? = some (zA Z t, ft)) (hft : ft.isReference = true) (hin : vp_in i n) (hp : mP M a i.toNatClampNeg = some r) (hd : decode Y.1 pc = .ok (.aaload, 1)) (kk : G Z X Y ex cells slots (pc + 1) loc (.ref (zs Z + r) :: rest) M) : G Z X Y ex cells slots pc loc (.int i :: .ref (zs Z + a) :: rest) M := fun O ls H locs hl hP hS => by
  have hlt : i.toNatClampNeg < n := Nat.not_le.mp fun q => hin (Or.inr q)
  have hat := hP.1 a _ hk
  unfold ent at hat
  rw [if_neg (by show ¬ t < 10; omega), if_neg (by show ¬ t < 12; omega), if_neg (by show ¬ t = 12; omega)] at hat
  have hcell : H[zs Z + a]? = some (arrV (zA Z t) n (fun j => va_rf ((mP M a j).map (zs Z + ·)))) := hat
  refine W.aald (v := .ref (zs Z + r)) O.1 O.2.1 hcell ((O.2.2.2.2.2.1.1.2 _ _ htt).1 n _) hft (fun q => by cases q) ?_ ?_ rfl rfl hd (kk O ls H locs hl hP hS)
  · rw [arrV_size]; exact hin
  · rw [arrV_read _ _ hlt, hp]; rfl
theorem G.iast (pc : Nat) {a n : Nat} {i x : Int32} (hk : (mK M)[a]? = some (10, n)) (hin : vp_in i n) (hd : decode Y.1 pc = .ok (.iastore, 1)) (kk : G Z X Y ex cells slots (pc + 1) loc rest (sI M a i.toNatClampNeg x)) : G Z X Y ex cells slots pc loc (.int x :: .int i :: .ref (zs Z + a) :: rest) M := fun O ls H locs hl hP hS => by
  have hcell : H[zs Z + a]? = some (arrV (zA Z 10) n (fun j => .int (mI M a j))) := hP.1 a _ hk
  refine W.iast O.1 O.2.1 hcell ((O.2.2.2.2.2.1.1.2 0 _ rfl).1 n _) (fun q => by cases q) (by rw [arrV_size]; exact hin) rfl rfl hd (fun H' e1 z oq => ?_)
  refine kk O ls H' _ hl (hP.upd (M' := sI M a i.toNatClampNeg x) rfl (fun q j hq => ⟨by simp [mI, sI, hq], rfl, rfl⟩) z oq hk ?_) (hS.put z oq (Nat.le_add_right _ _))
  show H'[zs Z + a]? = some (arrV (zA Z 10) n (fun j => .int (mI (sI M a i.toNatClampNeg x) a j)))
  rw [e1, arrV_store]
  congr 2
  funext j
  by_cases hj : j = i.toNatClampNeg
  · subst hj; simp [updV, mI, sI]
  · simp [updV, mI, sI, hj]
theorem G.zast (pc : Nat) {a n : Nat} {i x : Int32} (hk : (mK M)[a]? = some (11, n)) (hin : vp_in i n) (hd : decode Y.1 pc = .ok (.bastore, 1)) (kk : G Z X Y ex cells slots (pc + 1) loc rest (sI M a i.toNatClampNeg (vp_nar .boolean x))) : G Z X Y ex cells slots pc loc (.int x :: .int i :: .ref (zs Z + a) :: rest) M := fun O ls H locs hl hP hS => by
  have hcell : H[zs Z + a]? = some (arrV (zA Z 11) n (fun j => .int (mI M a j))) := hP.1 a _ hk
  refine W.zast O.1 O.2.1 hcell ((O.2.2.2.2.2.1.1.2 1 _ rfl).1 n _) (fun q => by cases q) (by rw [arrV_size]; exact hin) rfl rfl hd (fun H' e1 z oq => ?_)
  refine kk O ls H' _ hl (hP.upd (M' := sI M a i.toNatClampNeg (vp_nar .boolean x)) rfl (fun q j hq => ⟨by simp [mI, sI, hq], rfl, rfl⟩) z oq hk ?_) (hS.put z oq (Nat.le_add_right _ _))
  show H'[zs Z + a]? = some (arrV (zA Z 11) n (fun j => .int (mI (sI M a i.toNatClampNeg (vp_nar .boolean x)) a j)))
  rw [e1, arrV_store]
  congr 2
  funext j
  by_cases hj : j = i.toNatClampNeg
  · subst hj
    simp only [updV, mI, sI, and_self, if_true]
    rfl
  · simp [updV, mI, sI, hj]
theorem G.last (pc : Nat) {a n : Nat} {i : Int32} {x : Int64} (hk : (mK M)[a]? = some (12, n)) (hin : vp_in i n) (hd : decode Y.1 pc = .ok (.lastore, 1)) (kk : G Z X Y ex cells slots (pc + 1) loc rest (sJ M a i.toNatClampNeg x)) : G Z X Y ex cells slots pc loc (.long x :: .int i :: .ref (zs Z + a) :: rest) M := fun O ls H locs hl hP hS => by
  have hcell : H[zs Z + a]? = some (arrV (zA Z 12) n (fun j => .long (mJ M a j))) := hP.1 a _ hk
  refine W.last O.1 O.2.1 hcell ((O.2.2.2.2.2.1.1.2 2 _ rfl).1 n _) (fun q => by cases q) (by rw [arrV_size]; exact hin) rfl rfl hd (fun H' e1 z oq => ?_)
  refine kk O ls H' _ hl (hP.upd (M' := sJ M a i.toNatClampNeg x) rfl (fun q j hq => ⟨rfl, rfl, by simp [mJ, sJ, hq]⟩) z oq hk ?_) (hS.put z oq (Nat.le_add_right _ _))
  show H'[zs Z + a]? = some (arrV (zA Z 12) n (fun j => .long (mJ (sJ M a i.toNatClampNeg x) a j)))
  rw [e1, arrV_store]
  congr 2
  funext j
  by_cases hj : j = i.toNatClampNeg
  · subst hj; simp [updV, mJ, sJ]
  · simp [updV, mJ, sJ, hj]
theorem G.alen (pc : Nat) {a n t : Nat} (v : Int32) (hk : (mK M)[a]? = some (t, n)) (ht : t = 10 ∨ t = 11 ∨ t = 12) (hv : Int32.ofNat n = v) (hd : decode Y.1 pc = .ok (.arraylength, 1)) (kk : G Z X Y ex cells slots (pc + 1) loc (.int v :: rest) M) : G Z X Y ex cells slots pc loc (.ref (zs Z + a) :: rest) M := fun O ls H locs hl hP hS => by
  rcases ht with rfl | rfl | rfl
  · exact va_alen (tys := tysZ Z) O.1 O.2.1 O.2.2.2.2.2.1.1 (hP.one hk) 0 0 (x := (n, .inl (mI M a))) rfl rfl hv hd (kk O ls H locs hl hP hS)
  · exact va_alen (tys := tysZ Z) O.1 O.2.1 O.2.2.2.2.2.1.1 (hP.one hk) 0 1 (x := (n, .inl (mI M a))) rfl rfl hv hd (kk O ls H locs hl hP hS)
  · exact va_alen (tys := tysZ Z) O.1 O.2.1 O.2.2.2.2.2.1.1 (hP.one hk) 0 2 (x := (n, .inr (.inl (mJ M a)))) rfl rfl hv hd (kk O ls H locs hl hP hS)
theorem G.mmax (pc : Nat) {idx : Nat} {x y : Int32} (w1 : Cond.methodLink Y.2.1 idx Lib.Math.max.name ∈ TBL) (w2 : Cond.static Lib.Math.max.name ∈ TBL) (w3 : Cond.initialized "java/lang/Math" ∈ TBL) (w4 : Cond.code Lib.Math.max.name Lib.Math.max.code 2 (some .int) ∈ TBL) {R : Room} (hR : xR X = R) (hr : 1 ≤ R.frames ∧ (rest.map fun v => v.category).sum + 13 ≤ R.locals ∧ cells ≤ R.cells ∧ slots ≤ R.slots) (hd : decode Y.1 pc = .ok (.invokestatic idx, 3)) (kk : G Z X Y ex cells slots (pc + 3) loc (.int (if x < y then y else x) :: rest) M) : G Z X Y ex cells slots pc loc (.int y :: .int x :: rest) M := fun O ls H locs hl hP hS => by
  subst hR
  exact va_mmax O.1 O.2.1 (O.2.2.1.trans hl.1.symm) O.2.2.2.1 (O.2.2.2.2.1 _ w1) (O.2.2.2.2.1 _ w2) (O.2.2.2.2.1 _ w3) (O.2.2.2.2.1 _ w4) hr.1 hr.2.1 hr.2.2.1 hr.2.2.2 hd (kk O ls H locs hl hP hS)
theorem G.mmin (pc : Nat) {idx : Nat} {x y : Int32} (w1 : Cond.methodLink Y.2.1 idx Lib.Math.min.name ∈ TBL) (w2 : Cond.static Lib.Math.min.name ∈ TBL) (w3 : Cond.initialized "java/lang/Math" ∈ TBL) (w4 : Cond.code Lib.Math.min.name Lib.Math.min.code 2 (some .int) ∈ TBL) {R : Room} (hR : xR X = R) (hr : 1 ≤ R.frames ∧ (rest.map fun v => v.category).sum + 13 ≤ R.locals ∧ cells ≤ R.cells ∧ slots ≤ R.slots) (hd : decode Y.1 pc = .ok (.invokestatic idx, 3)) (kk : G Z X Y ex cells slots (pc + 3) loc (.int (if y < x then y else x) :: rest) M) : G Z X Y ex cells slots pc loc (.int y :: .int x :: rest) M := fun O ls H locs hl hP hS => by
  subst hR
  exact va_mmin O.1 O.2.1 (O.2.2.1.trans hl.1.symm) O.2.2.2.1 (O.2.2.2.2.1 _ w1) (O.2.2.2.2.1 _ w2) (O.2.2.2.2.1 _ w3) (O.2.2.2.2.1 _ w4) hr.1 hr.2.1 hr.2.2.1 hr.2.2.2 hd (kk O ls H locs hl hP hS)
theorem G.mabs (pc : Nat) {idx : Nat} {x : Int32} (w1 : Cond.methodLink Y.2.1 idx Lib.Math.abs.name ∈ TBL) (w2 : Cond.static Lib.Math.abs.name ∈ TBL) (w3 : Cond.initialized "java/lang/Math" ∈ TBL) (w4 : Cond.code Lib.Math.abs.name Lib.Math.abs.code 1 (some .int) ∈ TBL) {R : Room} (hR : xR X = R) (hr : 1 ≤ R.frames ∧ (rest.map fun v => v.category).sum + 13 ≤ R.locals ∧ cells ≤ R.cells ∧ slots ≤ R.slots) (hd : decode Y.1 pc = .ok (.invokestatic idx, 3)) (kk : G Z X Y ex cells slots (pc + 3) loc (.int (if 0 ≤ x then x else 0 - x) :: rest) M) : G Z X Y ex cells slots pc loc (.int x :: rest) M := fun O ls H locs hl hP hS => by
  subst hR
  exact va_mabs O.1 O.2.1 (O.2.2.1.trans hl.1.symm) O.2.2.2.1 (O.2.2.2.2.1 _ w1) (O.2.2.2.2.1 _ w2) (O.2.2.2.2.1 _ w3) (O.2.2.2.2.1 _ w4) hr.1 hr.2.1 hr.2.2.1 hr.2.2.2 hd (kk O ls H locs hl hP hS)
end HROWS
end
section
/-! contracts, calls, ends -/
def Qp (Z : Sys) (ex : Prop) (post : Option Value → Mem → Prop) : Array Value → State → Outcome → State → Prop := fun _ st oc t => (∃ (v : Option Value) (M' : Mem), oc = .returned v ∧ post v M' ∧ Rp Z ex M' t.heap) ∧ va_F (Ar Z) st t
def wsC (y : MethodName) (cc : ByteArray) (maxL : Nat) (ret : Option FieldType) : List Cond := .code y cc maxL ret :: TBL
def PcZ (Z : Sys) (ex : Prop) (M : Mem) : State → Prop := fun U => Rp Z ex M U.heap ∧ Kn Z U ∧ zs Z ≤ U.heap.size
def Ct (Z : Sys) (y : MethodName) (cc : ByteArray) (maxL : Nat) (ret : Option FieldType) (rm : Room) (av : List Value) (M : Mem) (ex : Prop) (post : Option Value → Mem → Prop) : Prop := Met Z.1 y (wsC y cc maxL ret) rm (va_Pc av (PcZ Z ex M)) (Qp Z ex post) rm.cells rm.slots (Ar Z)
def RetOk (Z : Sys) (X : Cx) (ret : Option FieldType) (ex : Prop) (post : Option Value → Mem → Prop) (cells slots : Nat) : Prop := (xM X).sig.returnType = ret ∧ (xM X).locks = false ∧ xQ X = MQ (xb X) (Qp Z ex post) (xa X) (xs X) cells slots (Ar Z)
theorem Ct.of {Z : Sys} {y : MethodName} {cc : ByteArray} {maxL : Nat} {ret : Option FieldType} {rm : Room} {av : List Value} {M : Mem} {ex : Prop} {post : Option Value → Mem → Prop} (hy : plainName y.cls = true) (hlen : (lg_sl av).length ≤ maxL)
    (h : ∀ X : Cx, xR X = rm → RetOk Z X ret ex post rm.cells rm.slots → (xM X).name = y.name → G Z X (cc, y.cls, maxL) ex 0 0 0 (lv_args 0 av) [] M) : Ct Z y cc maxL ret rm av M ex post := by
  refine Met.ofW (cc := cc) (maxL := maxL) (ret := ret) hy rfl ?_
  intro p e s m args below meth c s₁ B hml hv
  obtain ⟨rfl, hP, hKn, hz⟩ := hv
  have hts := atoms_spec (ws := wsC y cc maxL ret) B.pre
  have hG := h (p, e, rm, s, m, av.toArray, below, meth, c, MQ below (Qp Z ex post) av.toArray s rm.cells rm.slots (Ar Z)) rfl ⟨B.returns, B.notSynchronized, rfl⟩ (name_of_methodNamed B.named B.method).1
  have hl := lv_entry av (n := maxL) hlen
  rw [lg_entry_eq]
  exact hG ⟨B.exec, B.bytes, hml, findClass_of_methodNamed B.named, fun w hw => hts w (List.mem_cons_of_mem _ hw), hKn, hz⟩ _ _ _ hl hP va_S.rf
theorem Ct.weaken {Z : Sys} {y : MethodName} {cc : ByteArray} {maxL : Nat} {ret : Option FieldType} {rm : Room} {av : List Value} {M : Mem} {ex : Prop} {post post' : Option Value → Mem → Prop} (h : Ct Z y cc maxL ret rm av M ex post) (hp : ∀ v M', post v M' → post' v M') : Ct Z y cc maxL ret rm av M ex post' := by
  have e : ∀ {a st o t}, Qp Z ex post a st o t → Qp Z ex post' a st o t := fun {a st o t} q => ⟨by obtain ⟨v, M', h1, h2, h3⟩ := q.1; exact ⟨v, M', h1, hp v M' h2, h3⟩, q.2⟩
  intro p e' ha hc hk s m args below hf hfit hP hKc
  obtain ⟨t, o, h1, h2, h3, h4⟩ := h p e' ha hc hk s m args below hf hfit hP hKc
  exact ⟨t, o, h1, h2, h3, e h4.1, h4.2⟩
/-- what the tables say of a method -/
def MOk (y : MethodName) (cc : ByteArray) (maxL : Nat) (ret : Option FieldType) (n : Nat) : Prop := (y.cls ≠ "java/lang/invoke/MethodHandle" ∧ y.cls ≠ "java/lang/invoke/VarHandle" ∧ (parseMethodDescriptor y.desc).map (fun d => d.parameters.length) = some n) ∧ Cond.code y cc maxL ret ∈ TBL ∧ Cond.initialized y.cls ∈ TBL
def VOk (y : MethodName) : Prop := Cond.instanceMethod y ∈ TBL ∧ Cond.selects y.cls y y ∈ TBL
section CROWS
variable {Z : Sys} {X : Cx} {Y : My} {ex : Prop} {cells slots : Nat} {loc loc' : List (Nat × Value)} {rest : List Value} {M : Mem}
theorem wsC_in {y : MethodName} {cc : ByteArray} {maxL : Nat} {ret : Option FieldType} (h : Cond.code y cc maxL ret ∈ TBL) : ∀ w ∈ wsC y cc maxL ret, w ∈ TBL := fun w hw => by
  rcases List.mem_cons.mp hw with rfl | hw
  · exact h
  · exact hw
theorem PcZ.blind {av : List Value} : FrameBlind (va_Pc av (PcZ Z ex M)) := fun a U g mk q => ⟨q.1, q.2.1, q.2.2.1.calling, q.2.2.2⟩
theorem G.after {p : Program} {l : Launch} {e : Env} {R : Room} {s : State} {m : MethodId} {args : Array Value} {below : List Frame} {meth : Method} {c : Code} {H : Heap} {locs : List Loc} {cells slots mc ms : Nat} {Q : State → Prop} {post : Option Value → Mem → Prop} {pc : Nat} {ls : Array Slot} {st0 rest : List Value} {a : Array Value}
    (hr : va_Run p l e R s m args below meth c H locs cells slots mc ms (F0 m pc ls st0) rest (Qp Z ex post a) (Ar Z)) (hS : va_S (Ar Z) s.heap H locs)
    (kk : ∀ (v : Option Value) (M' : Mem) (H1 : Heap) (locs1 : List Loc), post v M' → Rp Z ex M' H1 → va_S (Ar Z) s.heap H1 locs1 → W p l e R s m args below meth c H1 locs1 (cells + mc) (slots + ms) Q (F0 m (pc + 3) ls (v.toList ++ rest))) : W p l e R s m args below meth c H locs cells slots Q (F0 m pc ls st0) := by
  intro T hT X
  obtain ⟨v, st₀, t, T', L, h0, X', hL, e1, e2, ⟨⟨v', M', hv, hp, hb⟩, hz, hk⟩, st⟩ := hr T hT X
  cases hv
  rw [h0] at hz hk
  obtain ⟨t2, a1, b1⟩ := kk v M' T'.heap (locs ++ L) hp (by rw [e1]; exact hb)
    ⟨Nat.le_trans hS.1 (by rw [e1]; exact hz), fun q h1 h2 => by rw [e1, hk q (Nat.lt_of_lt_of_le h1 hS.1) h2]; exact hS.2.1 q h1 h2, fun q hq => by
      rcases List.mem_append.mp hq with h | h
      · exact hS.2.2 q h
      · exact hL q h⟩ T' rfl X'
  exact ⟨t2, st t2 a1, b1⟩
abbrev RmOk (R : Room) (cells slots maxL : Nat) (rm : Room) : Prop := rm.frames + 1 ≤ R.frames ∧ 8 + (maxL + 11) + rm.locals ≤ R.locals ∧ cells + rm.cells ≤ R.cells ∧ slots + rm.slots ≤ R.slots
theorem pcz {Z : Sys} {ex : Prop} {M : Mem} {s : State} {H : Heap} (hP : Rp Z ex M H) (hK : Kn Z s) : ∀ U : State, U.heap = H → s.WarmedH U.vm → PcZ Z ex M U := fun U hU hW => ⟨by rw [hU]; exact hP, Kn.moved hW hK, by rw [hU]; exact Nat.le_trans (Nat.le_add_right _ _) hP.2.1⟩
theorem recv {ci N b : Nat} {C : String} {T : u_T} {ty : Nat → FieldType} {s : State} {H : Heap} (hc : ClsOk ci C T ty N) (hb : (mK M)[b]? = some (ci, N)) (hP : Rp Z ex M H) (hK : Kn Z s) : ∃ cellB : Cell, H[zs Z + b]? = some cellB ∧ cellB.vm.isStatics = false ∧ s.vm.findClass C = some cellB.cls :=
  va_recv (cl := vwCl) (ws := [(zs Z + b, ent Z M b (ci, N))]) (q := (C, T, N)) (fs := (List.range N).map (vf Z M b ci)) hK.1 (hP.one hb) hc.2.1 (q0 := 0) (by rw [ent_obj hc.1]; rfl)
theorem G.callV (pc : Nat) {ci N b idx maxL : Nat} {C : String} {T : u_T} {ty : Nat → FieldType} {y : MethodName} {cc : ByteArray} {ret : Option FieldType} {rm R : Room} {As stk : List Value} {post : Option Value → Mem → Prop} (hc : ClsOk ci C T ty N) (hb : (mK M)[b]? = some (ci, N)) (hct : Ct Z y cc maxL ret rm (.ref (zs Z + b) :: As) M ex post) (hm : MOk y cc maxL ret As.length) (hv : VOk y) (hyC : y.cls = C) (w1 : Cond.methodLink Y.2.1 idx y ∈ TBL) (hR : xR X = R) (hr : RmOk R cells slots maxL rm) (hst : As.reverse ++ .ref (zs Z + b) :: rest = stk) (hrest : (rest.map fun v => v.category).sum ≤ 8)
    (hd : decode Y.1 pc = .ok (.invokevirtual idx, 3)) (kk : ∀ v M', post v M' → G Z X Y ex (cells + rm.cells) (slots + rm.slots) (pc + 3) loc (v.toList ++ rest) M') : G Z X Y ex cells slots pc loc stk M := fun O ls H locs hl hP hS => by
  subst hR; subst hst; subst hyC
  refine G.after (va_runV (As := As) (rest := rest) (b := zs Z + b) ⟨O.1, O.2.1, O.2.2.1, O.2.2.2.1, O.2.2.2.2.1⟩ hct (cwV As.length O.2.2.2.2.1 (gin ?_) rfl rfl rfl ⟨rfl, hm.1⟩ ⟨hr.1, hr.2.1⟩) ⟨PcZ.blind, recv hc hb hP O.2.2.2.2.2.1, fun U hU hW => ⟨rfl, pcz hP O.2.2.2.2.2.1 U hU hW⟩⟩ rfl rfl hl.1 rfl (lv_room hrest) hd hr.2.2) hS (fun v M' H1 locs1 hp hP1 hS1 => kk v M' hp O ls H1 locs1 hl hP1 hS1)
  intro w hw
  rcases List.mem_append.mp hw with h | h
  · rcases List.mem_cons.mp h with rfl | h
    · exact w1
    rcases List.mem_cons.mp h with rfl | h
    · exact hv.1
    rcases List.mem_cons.mp h with rfl | h
    · exact hv.2
    rcases List.mem_cons.mp h with rfl | h
    · exact hm.2.2
    · cases h
  · exact wsC_in hm.2.1 w h
theorem G.callS (pc : Nat) {idx maxL : Nat} {y : MethodName} {cc : ByteArray} {ret : Option FieldType} {rm R : Room} {As stk : List Value} {post : Option Value → Mem → Prop} (hct : Ct Z y cc maxL ret rm As M ex post) (hm : MOk y cc maxL ret As.length) (hs : Cond.static y ∈ TBL) (w1 : Cond.methodLink Y.2.1 idx y ∈ TBL) (hR : xR X = R) (hr : RmOk R cells slots maxL rm) (hst : As.reverse ++ rest = stk) (hrest : (rest.map fun v => v.category).sum ≤ 8)
    (hd : decode Y.1 pc = .ok (.invokestatic idx, 3)) (kk : ∀ v M', post v M' → G Z X Y ex (cells + rm.cells) (slots + rm.slots) (pc + 3) loc (v.toList ++ rest) M') : G Z X Y ex cells slots pc loc stk M := fun O ls H locs hl hP hS => by
  subst hR; subst hst
  have cb : CallB (xR X) (xs X) (xa X) Y.2.1 idx y cc maxL ret (wsC y cc maxL ret) rm rm.cells rm.slots As.length := callB_of As.length O.2.2.2.2.1 (gin (wsC_in hm.2.1)) rfl rfl rfl (O.2.2.2.2.1 _ hm.2.2) (O.2.2.2.2.1 _ w1) hm.1 ⟨hr.1, hr.2.1⟩
  exact G.after (va_runS (As := As) (rest := rest) ⟨O.1, O.2.1, O.2.2.1, O.2.2.2.1, O.2.2.2.2.1⟩ hct ⟨cb, O.2.2.2.2.1 _ hs⟩ ⟨PcZ.blind, fun U hU hW => ⟨rfl, pcz hP O.2.2.2.2.2.1 U hU hW⟩⟩ rfl rfl hl.1 rfl (lv_room hrest) hd hr.2.2) hS (fun v M' H1 locs1 hp hP1 hS1 => kk v M' hp O ls H1 locs1 hl hP1 hS1)
/-- a static private method of a nest mate -/
theorem G.callSN (pc : Nat) {host : String} {idx maxL : Nat} {y : MethodName} {cc : ByteArray} {ret : Option FieldType} {rm R : Room} {As stk : List Value} {post : Option Value → Mem → Prop} (hct : Ct Z y cc maxL ret rm As M ex post) (hm : MOk y cc maxL ret As.length) (hs : Cond.static y ∈ TBL) (w1 : Cond.methodLinkNest Y.2.1 idx y host ∈ NST) (hR : xR X = R) (hr : RmOk R cells slots maxL rm) (hst : As.reverse ++ rest = stk) (hrest : (rest.map fun v => v.category).sum ≤ 8)
    (hd : decode Y.1 pc = .ok (.invokestatic idx, 3)) (kk : ∀ v M', post v M' → G Z X Y ex (cells + rm.cells) (slots + rm.slots) (pc + 3) loc (v.toList ++ rest) M') : G Z X Y ex cells slots pc loc stk M := fun O ls H locs hl hP hS => by
  subst hR; subst hst
  have cb := va_cnB (R := xR X) (s := xs X) (args := xa X) (own := Y.2.1) (host := host) (index := idx) (y := y) (bytes := cc) (maxL := maxL) (ret := ret) (ws := wsC y cc maxL ret) (rm := rm) As.length O.2.2.2.2.1 (gin (wsC_in hm.2.1)) rfl rfl rfl (O.2.2.2.2.2.1.2 _ w1) (O.2.2.2.2.1 _ hm.2.2) hm.1 ⟨hr.1, hr.2.1⟩
  exact G.after (va_runSN (As := As) (rest := rest) ⟨O.1, O.2.1, O.2.2.1, O.2.2.2.1, O.2.2.2.2.1⟩ hct ⟨cb, O.2.2.2.2.1 _ hs, trivial⟩ ⟨PcZ.blind, fun U hU hW => ⟨rfl, pcz hP O.2.2.2.2.2.1 U hU hW⟩⟩ rfl rfl hl.1 rfl (lv_room hrest) hd hr.2.2) hS (fun v M' H1 locs1 hp hP1 hS1 => kk v M' hp O ls H1 locs1 hl hP1 hS1)
/-- a constructor -/
theorem G.callI (pc : Nat) {b idx maxL : Nat} {y : MethodName} {cc : ByteArray} {rm R : Room} {As stk : List Value} {post : Option Value → Mem → Prop} (hct : Ct Z y cc maxL none rm (.ref (zs Z + b) :: As) M ex post) (hm : MOk y cc maxL none As.length) (hi : Cond.instanceMethod y ∈ TBL) (hy1 : y.name = "<init>") (w1 : Cond.methodLink Y.2.1 idx y ∈ TBL) (hR : xR X = R) (hr : RmOk R cells slots maxL rm) (hst : As.reverse ++ .ref (zs Z + b) :: rest = stk) (hrest : (rest.map fun v => v.category).sum ≤ 8)
    (hd : decode Y.1 pc = .ok (.invokespecial idx, 3)) (kk : ∀ v M', post v M' → G Z X Y ex (cells + rm.cells) (slots + rm.slots) (pc + 3) loc (v.toList ++ rest) M') : G Z X Y ex cells slots pc loc stk M := fun O ls H locs hl hP hS => by
  subst hR; subst hst
  have cb := cwI (R := xR X) (s := xs X) (args := xa X) (own := Y.2.1) (index := idx) (y := y) (bytes := cc) (maxL := maxL) (ws := wsC y cc maxL none) (rm := rm) As.length O.2.2.2.2.1 (gin (wsC_in hm.2.1)) rfl rfl rfl (O.2.2.2.2.1 _ hm.2.2) (O.2.2.2.2.1 _ w1) (O.2.2.2.2.1 _ hi) hy1 hm.1 ⟨hr.1, hr.2.1⟩
  exact G.after (va_runI (b := zs Z + b) (As := As) (rest := rest) ⟨O.1, O.2.1, O.2.2.1, O.2.2.2.1, O.2.2.2.2.1⟩ hct cb ⟨PcZ.blind, fun U hU hW => ⟨rfl, pcz hP O.2.2.2.2.2.1 U hU hW⟩⟩ rfl rfl hl.1 rfl (lv_room hrest) hd hr.2.2) hS (fun v M' H1 locs1 hp hP1 hS1 => kk v M' hp O ls H1 locs1 hl hP1 hS1)
/-- a private constructor of a nest mate -/
theorem G.callIN (pc : Nat) {host : String} {b idx maxL : Nat} {y : MethodName} {cc : ByteArray} {rm R : Room} {As stk : List Value} {post : Option Value → Mem → Prop} (hct : Ct Z y cc maxL none rm (.ref (zs Z + b) :: As) M ex post) (hm : MOk y cc maxL none As.length) (hi : Cond.instanceMethod y ∈ TBL) (hy1 : y.name = "<init>") (w1 : Cond.methodLinkNest Y.2.1 idx y host ∈ NST) (hR : xR X = R) (hr : RmOk R cells slots maxL rm) (hst : As.reverse ++ .ref (zs Z + b) :: rest = stk) (hrest : (rest.map fun v => v.category).sum ≤ 8)
    (hd : decode Y.1 pc = .ok (.invokespecial idx, 3)) (kk : ∀ v M', post v M' → G Z X Y ex (cells + rm.cells) (slots + rm.slots) (pc + 3) loc (v.toList ++ rest) M') : G Z X Y ex cells slots pc loc stk M := fun O ls H locs hl hP hS => by
  subst hR; subst hst
  have cb := va_cnB (R := xR X) (s := xs X) (args := xa X) (own := Y.2.1) (host := host) (index := idx) (y := y) (bytes := cc) (maxL := maxL) (ret := none) (ws := wsC y cc maxL none) (rm := rm) As.length O.2.2.2.2.1 (gin (wsC_in hm.2.1)) rfl rfl rfl (O.2.2.2.2.2.1.2 _ w1) (O.2.2.2.2.1 _ hm.2.2) hm.1 ⟨hr.1, hr.2.1⟩
  exact G.after (va_runIN (b := zs Z + b) (As := As) (rest := rest) ⟨O.1, O.2.1, O.2.2.1, O.2.2.2.1, O.2.2.2.2.1⟩ hct ⟨cb, hy1, O.2.2.2.2.1 _ hi⟩ ⟨PcZ.blind, fun U hU hW => ⟨rfl, pcz hP O.2.2.2.2.2.1 U hU hW⟩⟩ rfl rfl hl.1 rfl (lv_room hrest) hd hr.2.2) hS (fun v M' H1 locs1 hp hP1 hS1 => kk v M' hp O ls H1 locs1 hl hP1 hS1)
theorem G.objInit (pc : Nat) {a idx : Nat} (w1 : Cond.methodLink Y.2.1 idx Lib.objectInit ∈ TBL) (w2 : Cond.instanceMethod Lib.objectInit ∈ TBL) (w3 : Cond.code Lib.objectInit ⟨#[0xb1]⟩ 1 none ∈ TBL) {R : Room} (hR : xR X = R) (hr : 1 ≤ R.frames ∧ (rest.map fun v => v.category).sum + 12 ≤ R.locals) (hd : decode Y.1 pc = .ok (.invokespecial idx, 3)) (kk : G Z X Y ex cells slots (pc + 3) loc rest M) : G Z X Y ex cells slots pc loc (.ref a :: rest) M := fun O ls H locs hl hP hS => by
  subst hR
  exact W.objInit O.1 O.2.1 O.2.2.2.1 (O.2.2.2.2.1 _ w1) (O.2.2.2.2.1 _ w2) (O.2.2.2.2.1 _ w3) rfl (by rw [O.2.2.1]; exact hl.1) rfl hd hr.1 (by show 2 * 0 + _ + 12 ≤ _; omega) (kk O ls H locs hl hP hS)
theorem G.widen {cells' slots' pc : Nat} {stk : List Value} (h1 : cells ≤ cells') (h2 : slots ≤ slots') (kk : G Z X Y ex cells' slots' pc loc stk M) : G Z X Y ex cells slots pc loc stk M := fun O ls H locs hl hP hS => W.widen h1 h2 (kk O ls H locs hl hP hS)
theorem G.iret (pc : Nat) {v : Int32} {post : Option Value → Mem → Prop} (hq : RetOk Z X (some .int) ex post cells slots) (hd : decode Y.1 pc = .ok (.ireturn, 1)) (h : post (some (.int v)) M) : G Z X Y ex cells slots pc loc [.int v] M := fun O ls H locs hl hP hS => by
  show W _ _ _ _ _ _ _ _ _ _ _ _ _ _ (xQ X) _
  rw [hq.2.2]
  exact W.iret O.1 O.2.1 hq.1 (fun t ht hW => ⟨⟨_, _, rfl, h, by rw [ht]; exact hP⟩, hS.F ht⟩) hS.2.2 hd hq.2.1
theorem G.zret (pc : Nat) {v : Int32} {post : Option Value → Mem → Prop} (hq : RetOk Z X (some .boolean) ex post cells slots) (hn : v = 0 ∨ v = 1) (hd : decode Y.1 pc = .ok (.ireturn, 1)) (h : post (some (.int v)) M) : G Z X Y ex cells slots pc loc [.int v] M := fun O ls H locs hl hP hS => by
  show W _ _ _ _ _ _ _ _ _ _ _ _ _ _ (xQ X) _
  rw [hq.2.2]
  exact W.zret O.1 O.2.1 hq.1 (by rcases hn with rfl | rfl <;> rfl) (fun t ht hW => ⟨⟨_, _, rfl, h, by rw [ht]; exact hP⟩, hS.F ht⟩) hS.2.2 hd hq.2.1
theorem G.lret (pc : Nat) {v : Int64} {post : Option Value → Mem → Prop} (hq : RetOk Z X (some .long) ex post cells slots) (hd : decode Y.1 pc = .ok (.lreturn, 1)) (h : post (some (.long v)) M) : G Z X Y ex cells slots pc loc [.long v] M := fun O ls H locs hl hP hS => by
  show W _ _ _ _ _ _ _ _ _ _ _ _ _ _ (xQ X) _
  rw [hq.2.2]
  exact W.lret O.1 O.2.1 hq.1 (fun t ht hW => ⟨⟨_, _, rfl, h, by rw [ht]; exact hP⟩, hS.F ht⟩) hS.2.2 hd hq.2.1
theorem G.vret (pc : Nat) {post : Option Value → Mem → Prop} (hq : RetOk Z X none ex post cells slots) (hd : decode Y.1 pc = .ok (.return_, 1)) (h : post none M) : G Z X Y ex cells slots pc loc [] M := fun O ls H locs hl hP hS => by
  show W _ _ _ _ _ _ _ _ _ _ _ _ _ _ (xQ X) _
  rw [hq.2.2]
  exact W.vret O.1 O.2.1 hq.1 (fun t ht hW => ⟨⟨_, _, rfl, h, by rw [ht]; exact hP⟩, hS.F ht⟩) hS.2.2 hd hq.2.1
/-! what makes cells -/
theorem G.new (pc : Nat) {ci N idx : Nat} {C : String} {T : u_T} {ty : Nat → FieldType} (hc : ClsOk ci C T ty N) (w1 : Cond.classLink Y.2.1 idx C ∈ TBL) (w2 : Cond.instantiable C N ∈ TBL) (w3 : Cond.initialized C ∈ TBL) (he : ex) {R : Room} (hR : xR X = R) (hr : cells + 1 ≤ R.cells ∧ slots + N ≤ R.slots) (hd : decode Y.1 pc = .ok (.new idx, 3)) (kk : G Z X Y ex (cells + 1) (slots + N) (pc + 3) loc (.ref (zs Z + (mK M).length) :: rest) (nw M (ci, N))) : G Z X Y ex cells slots pc loc rest M := fun O ls H locs hl hP hS => by
  subst hR
  have hKc := O.2.2.2.2.2.1.1.1 ci _ hc.2.1
  refine W.newcK O.1 O.2.1 O.2.2.2.1 (O.2.2.2.2.1 _ w1) (O.2.2.2.2.1 _ w2) (O.2.2.2.2.1 _ w3) rfl hd hr.1 hr.2 hKc.2.1 rfl (fun H' kC hkC e1 z1 o1 => ?_)
  have hs := hP.2.2 he
  have hP' : Rp Z ex (nw M (ci, N)) H' := hP.push he z1 o1 (by
    rw [ent_obj hc.1]
    refine ⟨_, hc.2.1, (u_born ty O.2.2.2.2.1 hc.2.2.1 hKc hkC e1 hc.2.2.2.1).to (fun j hj => ?_)⟩
    rw [vp_range hj, hc.2.2.2.2.2 j hj]
    unfold vf
    by_cases h : FR ci j = true
    · rw [if_pos h, if_pos h]; simp [mP, mK, nw, va_rf]
    · rw [if_neg h, if_neg h]; simp [mI, mK, nw])
  rw [hs]
  exact kk O ls H' locs hl hP' (push_S hS (by omega) o1)
theorem G.newa (pc : Nat) {atype : ArrayType} (t N : Nat) {n : Int32} {ft : FieldType} (ht : t = 10 ∨ t = 11 ∨ t = 12) (hat : newarray.typeOf atype = ft) (hfa : (tysZ Z)[t - 10]? = some (zA Z t, ft)) (w1 : Cond.arrayClass ft ∈ TBL) (hprim : ∀ U cA, va_RA U cA ft = (U.vm.findClass ("[" ++ ft.toString) = some cA)) (hent : ∀ M' : Mem, (∀ j, mI M' (mK M).length j = 0) → (∀ j, mJ M' (mK M).length j = 0) → ∀ H', H'[zs Z + (mK M).length]? = some (arrV (zA Z t) N (fun _ => defaultValue ft)) → va_at (zD Z) vwCl (zs Z + (mK M).length, ent Z M' (mK M).length (t, N)) H') (hn : ¬ n < 0) (hN : n.toNatClampNeg = N) (hb : N * componentBytes ft ≤ 536870912) (he : ex) {R : Room} (hR : xR X = R) (hr : cells + 1 ≤ R.cells ∧ slots + N ≤ R.slots) (hd : decode Y.1 pc = .ok (.newarray atype, 2)) (kk : G Z X Y ex (cells + 1) (slots + N) (pc + 2) loc (.ref (zs Z + (mK M).length) :: rest) (nw M (t, N))) : G Z X Y ex cells slots pc loc (.int n :: rest) M := fun O ls H locs hl hP hS => by
  subst hR; subst hat
  refine va_newaK O.1 O.2.1 (O.2.2.2.2.1 _ w1) rfl hd rfl hn hN hb hr.1 hr.2 rfl (fun H' cA e1 z1 o1 hAr hNm => ?_)
  have hs := hP.2.2 he
  have hcA : cA = zA Z t := by
    have h := (O.2.2.2.2.2.1.1.2 _ _ hfa).2
    rw [hprim] at h
    exact Option.some.inj (hNm.symm.trans h)
  subst hcA
  have hP' : Rp Z ex (nw M (t, N)) H' := hP.push he z1 o1 (by
    rw [hs]
    exact hent _ (fun j => by simp [mI, mK, nw]) (fun j => by simp [mJ, mK, nw]) _ (by rw [← hs]; exact e1))
  rw [hs]
  exact kk O ls H' locs hl hP' (push_S hS (by omega) o1)
theorem G.newaI (pc : Nat) (N : Nat) {n : Int32} (w1 : Cond.arrayClass .int ∈ TBL) (hn : ¬ n < 0) (hN : n.toNatClampNeg = N) (hb : N * componentBytes .int ≤ 536870912) (he : ex) {R : Room} (hR : xR X = R) (hr : cells + 1 ≤ R.cells ∧ slots + N ≤ R.slots) (hd : decode Y.1 pc = .ok (.newarray .int, 2)) (kk : G Z X Y ex (cells + 1) (slots + N) (pc + 2) loc (.ref (zs Z + (mK M).length) :: rest) (nw M (10, N))) : G Z X Y ex cells slots pc loc (.int n :: rest) M :=
  G.newa (atype := .int) (ft := .int) pc 10 N (Or.inl rfl) rfl rfl w1 (fun _ _ => rfl) (fun M' h1 _ H' h => by
    show H'[_]? = some (arrV (zA Z 10) N (fun j => .int (mI M' _ j)))
    rw [h]; congr 2; funext j; rw [h1]; rfl) hn hN hb he hR hr hd kk
theorem G.newaZ (pc : Nat) (N : Nat) {n : Int32} (w1 : Cond.arrayClass .boolean ∈ TBL) (hn : ¬ n < 0) (hN : n.toNatClampNeg = N) (hb : N * componentBytes .boolean ≤ 536870912) (he : ex) {R : Room} (hR : xR X = R) (hr : cells + 1 ≤ R.cells ∧ slots + N ≤ R.slots) (hd : decode Y.1 pc = .ok (.newarray .boolean, 2)) (kk : G Z X Y ex (cells + 1) (slots + N) (pc + 2) loc (.ref (zs Z + (mK M).length) :: rest) (nw M (11, N))) : G Z X Y ex cells slots pc loc (.int n :: rest) M :=
  G.newa (atype := .boolean) (ft := .boolean) pc 11 N (Or.inr (Or.inl rfl)) rfl rfl w1 (fun _ _ => rfl) (fun M' h1 _ H' h => by
    show H'[_]? = some (arrV (zA Z 11) N (fun j => .int (mI M' _ j)))
    rw [h]; congr 2; funext j; rw [h1]; rfl) hn hN hb he hR hr hd kk
theorem G.newaJ (pc : Nat) (N : Nat) {n : Int32} (w1 : Cond.arrayClass .long ∈ TBL) (hn : ¬ n < 0) (hN : n.toNatClampNeg = N) (hb : N * componentBytes .long ≤ 536870912) (he : ex) {R : Room} (hR : xR X = R) (hr : cells + 1 ≤ R.cells ∧ slots + N ≤ R.slots) (hd : decode Y.1 pc = .ok (.newarray .long, 2)) (kk : G Z X Y ex (cells + 1) (slots + N) (pc + 2) loc (.ref (zs Z + (mK M).length) :: rest) (nw M (12, N))) : G Z X Y ex cells slots pc loc (.int n :: rest) M :=
  G.newa (atype := .long) (ft := .long) pc 12 N (Or.inr (Or.inr rfl)) rfl rfl w1 (fun _ _ => rfl) (fun M' _ h1 H' h => by
    show H'[_]? = some (arrV (zA Z 12) N (fun j => .long (mJ M' _ j)))
    rw [h]; congr 2; funext j; rw [h1]; rfl) hn hN hb he hR hr hd kk
theorem G.newq (pc : Nat) (t N : Nat) {C : String} {idx : Nat} {n : Int32} (ht : 13 ≤ t) (hfa : (tysZ Z)[t - 10]? = some (zA Z t, .object C)) (w1 : Cond.classLink Y.2.1 idx C ∈ TBL) (w2 : Cond.arrayOver (.object C) ∈ NST) (hn : ¬ n < 0) (hN : n.toNatClampNeg = N) (hb : N * 4 ≤ 536870912) (he : ex) {R : Room} (hR : xR X = R) (hr : cells + 1 ≤ R.cells ∧ slots + N ≤ R.slots) (hd : decode Y.1 pc = .ok (.anewarray idx, 3)) (kk : G Z X Y ex (cells + 1) (slots + N) (pc + 3) loc (.ref (zs Z + (mK M).length) :: rest) (nw M (t, N))) : G Z X Y ex cells slots pc loc (.int n :: rest) M := fun O ls H locs hl hP hS => by
  subst hR; subst hN
  refine W.anew O.1 O.2.1 O.2.2.2.1 (O.2.2.2.2.1 _ w1) (va_AO.use (O.2.2.2.2.2.1.2 _ w2)) rfl hd rfl hn hb hr.1 hr.2 (fun cA kA comp f1 f2 f3 f4 => ?_)
  generalize hH1 : H.push ({ cls := cA, slots := Array.replicate n.toNatClampNeg .null, vm := .none } : Cell) = H1
  have z1 : H1.size = H.size + 1 := by rw [← hH1, Array.size_push]
  have e1 : H1[H.size]? = some (arrV cA n.toNatClampNeg (fun _ => .null)) := by rw [← hH1, Array.getElem?_push_size, ← arrV_new]
  have o1 : ∀ q : Nat, q < H.size → H1[q]? = H[q]? := fun q hq => by rw [← hH1, Array.getElem?_push, if_neg (Nat.ne_of_lt hq)]
  have hs := hP.2.2 he
  have hcA : cA = zA Z t := by
    obtain ⟨_, _, _, _, _, h⟩ := (O.2.2.2.2.2.1.1.2 _ _ hfa).2
    exact Option.some.inj (f1.symm.trans h)
  subst hcA
  have hP' : Rp Z ex (nw M (t, n.toNatClampNeg)) H1 := hP.push he z1 o1 (by
    unfold ent
    rw [if_neg (by show ¬ t < 10; omega), if_neg (by show ¬ t < 12; omega), if_neg (by show ¬ t = 12; omega)]
    show H1[H.size]? = some (arrV (zA Z t) n.toNatClampNeg (fun j => va_rf ((mP (nw M (t, n.toNatClampNeg)) (mK M).length j).map (zs Z + ·))))
    rw [e1]
    congr 2
    funext j
    simp [mP, mK, nw, va_rf])
  show W _ _ _ _ _ _ _ _ _ _ _ _ _ _ _ (F0 (xm X) (pc + 3) ls (.ref H.size :: rest))
  rw [hs]
  exact kk O ls H1 locs hl hP' (push_S hS (by omega) o1)
theorem G.astq (pc : Nat) {a n t ci N v : Nat} {C : String} {T : u_T} {ty : Nat → FieldType} {i : Int32} (hk : (mK M)[a]? = some (t, n)) (ht : 13 ≤ t) (hfa : (tysZ Z)[t - 10]? = some (zA Z t, .object C)) (hc : ClsOk ci C T ty N) (hv : (mK M)[v]? = some (ci, N)) (hin : vp_in i n) (hd : decode Y.1 pc = .ok (.aastore, 1)) (kk : G Z X Y ex cells slots (pc + 1) loc rest (sP M a i.toNatClampNeg v)) : G Z X Y ex cells slots pc loc (.ref (zs Z + v) :: .int i :: .ref (zs Z + a) :: rest) M := fun O ls H locs hl hP hS => by
  have hlt : i.toNatClampNeg < n := Nat.not_le.mp fun q => hin (Or.inr q)
  have h0 : ¬ i < 0 := fun q => hin (Or.inl q)
  have hat := hP.1 a _ hk
  unfold ent at hat
  rw [if_neg (by show ¬ t < 10; omega), if_neg (by show ¬ t < 12; omega), if_neg (by show ¬ t = 12; omega)] at hat
  have hcell : H[zs Z + a]? = some (arrV (zA Z t) n (fun j => va_rf ((mP M a j).map (zs Z + ·)))) := hat
  have hatv := hP.1 v _ hv
  rw [ent_obj hc.1] at hatv
  obtain ⟨r', hr', cellV, g1, g2, g3, -⟩ := hatv
  have hcls := (O.2.2.2.2.2.1.1.1 ci _ hc.2.1).2
  obtain ⟨kA, comp, k1, k2, k3, -⟩ := (O.2.2.2.2.2.1.1.2 _ _ hfa).2
  have hcomp : comp = (zD Z).1 ci := Option.some.inj (k3.symm.trans hcls.1)
  subst hcomp
  obtain ⟨kC, hkC, -⟩ := hcls.2
  refine W.aast O.1 O.2.1 hcell (fun q h => by cases h) (fun h => by cases h) k1 k2 rfl hkC ⟨h0, by rw [arrV_size]; exact hlt⟩ g1 (fun q h => by rw [g3] at h; cases h) (by rw [g2]; exact hkC) (by rw [g2]; exact va_assign hcls) rfl rfl hd (fun H' e1 z oq => ?_)
  refine kk O ls H' _ hl (hP.upd (M' := sP M a i.toNatClampNeg v) rfl (fun q j hq => ⟨rfl, by simp [mP, sP, hq], rfl⟩) z oq hk ?_) (hS.put z oq (Nat.le_add_right _ _))
  unfold ent
  rw [if_neg (by show ¬ t < 10; omega), if_neg (by show ¬ t < 12; omega), if_neg (by show ¬ t = 12; omega)]
  show H'[zs Z + a]? = some (arrV (zA Z t) n (fun j => va_rf ((mP (sP M a i.toNatClampNeg v) a j).map (zs Z + ·))))
  rw [e1, arrV_store]
  congr 2
  funext j
  by_cases hj : j = i.toNatClampNeg
  · subst hj; simp [updV, mP, sP, va_rf]
  · simp [updV, mP, sP, hj]
end CROWS
end
section
/-! the whole memory as one list of the kit's; arraycopy; rows of rows -/
def wsOf (Z : Sys) (M : Mem) : va_W := (mK M).zipIdx.map (fun q => (zs Z + q.2, ent Z M q.2 q.1))
theorem wsOf_get {Z : Sys} {M : Mem} (a : Nat) : (wsOf Z M)[a]? = ((mK M)[a]?).map (fun kd => (zs Z + a, ent Z M a kd)) := by
  unfold wsOf
  rw [List.getElem?_map, List.getElem?_zipIdx]
  cases (mK M)[a]? <;> simp
theorem wsOf_len {Z : Sys} {M : Mem} : (wsOf Z M).length = (mK M).length := by simp [wsOf]
theorem Rp.ws {Z : Sys} {ex : Prop} {M : Mem} {H : Heap} (h : Rp Z ex M H) : va_P (zD Z) vwCl (wsOf Z M) H := fun k q hq => by
  rw [wsOf_get] at hq
  obtain ⟨kd, h1, rfl⟩ := Option.map_eq_some_iff.mp hq
  exact h.1 k kd h1
theorem wsOf_D {Z : Sys} {M : Mem} : va_D (Ar Z) (wsOf Z M) := by
  refine ⟨fun i j p q hi hj hpq => ?_, fun k q hq => ?_⟩
  · rw [wsOf_get] at hi hj
    obtain ⟨_, _, rfl⟩ := Option.map_eq_some_iff.mp hi
    obtain ⟨_, _, rfl⟩ := Option.map_eq_some_iff.mp hj
    have : zs Z + i = zs Z + j := hpq
    omega
  · rw [wsOf_get] at hq
    obtain ⟨_, _, rfl⟩ := Option.map_eq_some_iff.mp hq
    exact Nat.le_add_right _ _
section MROWS
variable {Z : Sys} {X : Cx} {Y : My} {ex : Prop} {cells slots : Nat} {loc loc' : List (Nat × Value)} {rest : List Value} {M : Mem}
theorem G.copyi (pc : Nat) {a0 a n0 n1 idx : Nat} {sp dp n : Int32} (hk0 : (mK M)[a0]? = some (10, n0)) (hk1 : (mK M)[a]? = some (10, n1)) (w1 : Cond.methodLink Y.2.1 idx arraycopyName ∈ TBL) (w2 : Cond.native arraycopyName ∈ TBL) (w3 : Cond.static arraycopyName ∈ TBL) (w4 : Cond.initialized "java/lang/System" ∈ TBL) (h1 : ¬ sp < 0) (h2 : ¬ dp < 0) (h3 : ¬ n < 0) (h4 : sp.toNatClampNeg + n.toNatClampNeg ≤ n0) (h5 : dp.toNatClampNeg + n.toNatClampNeg ≤ n1) {R : Room} (hR : xR X = R) (hr : 1 ≤ R.frames ∧ (rest.map fun v => v.category).sum + (nativeFrameWords "java/lang/System" "arraycopy" 5 + 11) ≤ R.locals) (hd : decode Y.1 pc = .ok (.invokestatic idx, 3)) (kk : G Z X Y False cells slots (pc + 3) loc rest (cI M a0 sp.toNatClampNeg a dp.toNatClampNeg n.toNatClampNeg)) : G Z X Y False cells slots pc loc (.int n :: .int dp :: .ref (zs Z + a) :: .int sp :: .ref (zs Z + a0) :: rest) M := fun O ls H locs hl hP hS => by
  subst hR
  have g0 : (wsOf Z M)[a0]? = some (zs Z + a0, .inl (zA Z 10, n0, .inl (mI M a0))) := by rw [wsOf_get, hk0]; rfl
  have g1 : (wsOf Z M)[a]? = some (zs Z + a, .inl (zA Z 10, n1, .inl (mI M a))) := by rw [wsOf_get, hk1]; rfl
  refine va_copyi (D := zD Z) (tys := tysZ Z) O.1 O.2.1 (O.2.2.1.trans hl.1.symm) O.2.2.2.1 (O.2.2.2.2.1 _ w1) (O.2.2.2.2.1 _ w2) (O.2.2.2.2.1 _ w3) (O.2.2.2.2.1 _ w4) O.2.2.2.2.2.1.1 hP.ws wsOf_D hS a0 a 0 0 g0 g1 rfl rfl rfl h1 h2 h3 h4 h5 (fun i _ => rfl) hr.1 hr.2 hd (fun H1 locs1 hP1 hD1 hS1 => ?_)
  refine kk O ls H1 locs1 hl ⟨fun x kd hx => ?_, ?_, fun h => h.elim⟩ hS1
  · have hx' : (mK M)[x]? = some kd := hx
    by_cases e : x = a
    · subst e
      rw [hk1] at hx'
      cases hx'
      have := hP1 x (zs Z + x, .inl (zA Z 10, n1, .inl (va_cpy (mI M a0) (mI M x) sp.toNatClampNeg dp.toNatClampNeg n.toNatClampNeg))) (by rw [List.getElem?_set_self (by rw [wsOf_len]; exact kl hk1)])
      have e2 : mI (cI M a0 sp.toNatClampNeg x dp.toNatClampNeg n.toNatClampNeg) x = va_cpy (mI M a0) (mI M x) sp.toNatClampNeg dp.toNatClampNeg n.toNatClampNeg := by
        funext j
        simp [mI, cI, va_cpy]
      show va_at _ _ (_, .inl (zA Z 10, n1, .inl (mI _ x))) _
      rw [e2]
      exact this
    · have := hP1 x (zs Z + x, ent Z M x kd) (by rw [List.getElem?_set_ne (Ne.symm e), wsOf_get, hx']; rfl)
      rw [ent_congr (M' := cI M a0 sp.toNatClampNeg a dp.toNatClampNeg n.toNatClampNeg) (M := M) (fun k => ⟨by simp [mI, cI, e], rfl, rfl⟩)]
      exact this
  · show zs Z + (mK M).length ≤ _
    have hl1 := kl hk1
    obtain ⟨kd, hkd⟩ : ∃ kd, (mK M)[(mK M).length - 1]? = some kd := ⟨_, List.getElem?_eq_getElem (by omega)⟩
    obtain ⟨q, hq, hq1⟩ : ∃ q : Nat × va_E, ((wsOf Z M).set a (zs Z + a, .inl (zA Z 10, n1, .inl (va_cpy (mI M a0) (mI M a) sp.toNatClampNeg dp.toNatClampNeg n.toNatClampNeg))))[(mK M).length - 1]? = some q ∧ q.1 = zs Z + ((mK M).length - 1) := by
      by_cases e : (mK M).length - 1 = a
      · rw [e, List.getElem?_set_self (by rw [wsOf_len]; exact hl1)]
        exact ⟨_, rfl, rfl⟩
      · rw [List.getElem?_set_ne (Ne.symm e), wsOf_get, hkd]
        exact ⟨_, rfl, rfl⟩
    have := (hP1 _ q hq).lt
    omega
theorem mn_outer (c : ClassId) (N h0 : Nat) : ∀ i : Nat, Jvm.Free.Multi.outerC c N h0 i = arrV c N (fun j => va_rf (if j < i then some (h0 + 1 + j) else none))
  | 0 => by
    show ({ cls := c, slots := Array.replicate N .null, vm := .none } : Cell) = _
    rw [arrV_new]
    refine congrArg (arrV c N) (funext fun j => ?_)
    simp [va_rf]
  | i + 1 => by
    show (Jvm.Free.Multi.outerC c N h0 i).setSlot i (.ref (h0 + 1 + i)) = _
    rw [mn_outer c N h0 i, arrV_store]
    refine congrArg (arrV c N) (funext fun j => ?_)
    by_cases e : j = i
    · subst e
      simp [updV, va_rf]
    · by_cases h : j < i
      · simp [updV, e, h, Nat.lt_succ_of_lt h]
      · simp [updV, e, h, show ¬ j < i + 1 by omega]
theorem G.mnewI (pc : Nat) (N K : Nat) {idx : Nat} {n k : Int32} (w1 : Cond.classLink Y.2.1 idx ("[" ++ (FieldType.array .int).toString) ∈ TBL) (w2 : Cond.arrayOver (.array .int) ∈ NST) (w3 : Cond.arrayClass .int ∈ TBL) (hn : ¬ n < 0) (hk : ¬ k < 0) (hN : n.toNatClampNeg = N) (hK : k.toNatClampNeg = K) (hb : N * 4 ≤ 536870912) (hb2 : K * componentBytes .int ≤ 536870912) (hb3 : K ≤ 536870912) (he : ex) {R : Room} (hR : xR X = R) (hr : cells + (1 + N) ≤ R.cells ∧ slots + (N + N * K) ≤ R.slots) (hd : decode Y.1 pc = .ok (.multianewarray idx 2, 4)) (kk : G Z X Y ex (cells + 1 + N) (slots + N + N * K) (pc + 4) loc (.ref (zs Z + (mK M).length) :: rest) (nwm M N K)) : G Z X Y ex cells slots pc loc (.int k :: .int n :: rest) M := fun O ls H locs hl hP hS => by
  subst hR; subst hN; subst hK
  intro T hT Xs
  obtain ⟨vm₁, cA, comp, -, fA, fC, hO, -, X', step⟩ := Xs.multianewarray2F (ty := .int) O.1 O.2.2.2.1 (O.2.2.2.2.1 _ w1) (O.2.2.2.2.2.1.2 _ w2) (O.2.2.2.2.1 _ w3) (g := F0 (xm X) pc ls (.int k :: .int n :: rest)) rfl (by rw [O.2.1]; exact hd) rfl hn hk hb hb2 hb3 rfl rfl hr.1 hr.2
  have eA : cA = zA Z 15 := by
    have h := (O.2.2.2.2.2.1.1.2 5 _ rfl).2
    exact Option.some.inj (fA.symm.trans h)
  have eC : comp = zA Z 10 := by
    have h := (O.2.2.2.2.2.1.1.2 0 _ rfl).2
    exact Option.some.inj (fC.symm.trans h)
  subst eA; subst eC
  generalize hF : Jvm.Free.Multi.fill (T.setVm vm₁) (zA Z 15) (zA Z 10) n.toNatClampNeg k.toNatClampNeg (defaultValue .int) n.toNatClampNeg = F at X' step
  have hTh : (T.setVm vm₁).heap = H := hT
  obtain ⟨f1, f2, -, -⟩ := Jvm.Free.Multi.fill_facts (T.setVm vm₁) (zA Z 15) (zA Z 10) n.toNatClampNeg k.toNatClampNeg (defaultValue .int) n.toNatClampNeg
  rw [hF, hTh] at f1 f2
  have hold : ∀ x : Nat, x < H.size → F.heap[x]? = H[x]? := fun x hx => by
    have := Jvm.Free.Multi.fill_old (T.setVm vm₁) (zA Z 15) (zA Z 10) n.toNatClampNeg k.toNatClampNeg (defaultValue .int) (a := x) (by rw [hTh]; exact hx) n.toNatClampNeg
    rw [hF, hTh] at this
    exact this
  have hrow : ∀ j : Nat, j < n.toNatClampNeg → F.heap[H.size + 1 + j]? = some (arrV (zA Z 10) k.toNatClampNeg (fun _ => .int 0)) := fun j hj => by
    have := Jvm.Free.Multi.fill_inner (T.setVm vm₁) (zA Z 15) (zA Z 10) n.toNatClampNeg k.toNatClampNeg (defaultValue .int) n.toNatClampNeg j hj
    rw [hF, hTh] at this
    rw [this, ← arrV_new]
    rfl
  rw [mn_outer] at f2
  have hs := hP.2.2 he
  have hlen : (mK (nwm M n.toNatClampNeg k.toNatClampNeg)).length = (mK M).length + 1 + n.toNatClampNeg := by simp [mK, nwm]; omega
  have hP' : Rp Z ex (nwm M n.toNatClampNeg k.toNatClampNeg) F.heap := by
    refine ⟨fun x kd hx => ?_, by rw [hlen, f1, hs]; omega, fun _ => by rw [hlen, f1, hs]; omega⟩
    have hx' : ((mK M) ++ (15, n.toNatClampNeg) :: List.replicate n.toNatClampNeg (10, k.toNatClampNeg))[x]? = some kd := hx
    by_cases e : x < (mK M).length
    · rw [List.getElem?_append_left e] at hx'
      have hne : x ≠ M.1.length := Nat.ne_of_lt e
      have hnl : ¬ M.1.length ≤ x := Nat.not_le.mpr e
      rw [ent_congr (M' := nwm M n.toNatClampNeg k.toNatClampNeg) (M := M) (fun k => ⟨by simp [mI, nwm, hnl], by simp [mP, nwm, hne, hnl], by simp [mJ, nwm, hnl]⟩)]
      exact (hP.1 x kd hx').kept (hold _ (by show zs Z + x < H.size; omega))
    · rw [List.getElem?_append_right (by omega)] at hx'
      obtain ⟨d, hdx⟩ : ∃ d, x = (mK M).length + d := ⟨x - (mK M).length, by omega⟩
      subst hdx
      rw [show (mK M).length + d - (mK M).length = d by omega] at hx'
      cases d with
      | zero =>
        cases hx'
        show F.heap[zs Z + (mK M).length]? = some (arrV (zA Z 15) n.toNatClampNeg (fun j => va_rf ((mP (nwm M n.toNatClampNeg k.toNatClampNeg) (mK M).length j).map (zs Z + ·))))
        rw [← hs, f2]
        congr 2
        funext j
        by_cases hj : j < n.toNatClampNeg
        · have e : mP (nwm M n.toNatClampNeg k.toNatClampNeg) (mK M).length j = some ((mK M).length + 1 + j) := by simp [mP, mK, nwm, hj]
          rw [e, if_pos hj]
          exact congrArg Value.ref (show H.size + 1 + j = zs Z + ((mK M).length + 1 + j) by omega)
        · simp [mP, mK, nwm, hj, va_rf]
      | succ d =>
        rw [List.getElem?_cons_succ] at hx'
        have hdn : d < n.toNatClampNeg := by
          have := (List.getElem?_eq_some_iff.mp hx').1
          simpa using this
        rw [List.getElem?_replicate_of_lt hdn] at hx'
        cases hx'
        show F.heap[zs Z + ((mK M).length + (d + 1))]? = some (arrV (zA Z 10) k.toNatClampNeg (fun j => .int (mI (nwm M n.toNatClampNeg k.toNatClampNeg) ((mK M).length + (d + 1)) j)))
        rw [show zs Z + ((mK M).length + (d + 1)) = H.size + 1 + d by omega, hrow d hdn]
        congr 2
        funext j
        simp [mI, mK, nwm]
  have hTz : T.heap.size = zs Z + (mK M).length := by rw [hT]; exact hs
  rw [hTz] at step
  obtain ⟨t, a1, b1⟩ := kk O ls F.heap locs hl hP' (push_S hS (by rw [f1]; omega) hold) F rfl X'
  exact ⟨t, step t a1, b1⟩
end MROWS
end
